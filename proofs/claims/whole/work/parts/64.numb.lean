theorem sF_cut (W : Int → Int) (k : Int) : ∀ (n : Nat) (b : Int), (∀ i : Int, b ≤ i → i < b + n → 0 ≤ W i) → 0 ≤ k → k < sF W b n → ∃ j : Nat, j < n ∧ sF W b j ≤ k ∧ k < sF W b j + W (b + j) := by
  intro n
  induction n with
  | zero => intro b _ k0 h; rw [sF_zero] at h; omega
  | succ n ih =>
    intro b hn k0 h
    by_cases e : k < sF W b n
    · obtain ⟨j, j1, j2, j3⟩ := ih b (fun i q1 q2 => hn i q1 (by omega)) k0 e
      exact ⟨j, by omega, j2, j3⟩
    · exact ⟨n, by omega, by omega, by rw [sF_last] at h; omega⟩
theorem Sr_cut {W : Int → Int} {k hi : Int} (hn : ∀ i : Int, 0 ≤ i → i ≤ hi → 0 ≤ W i) (k0 : 0 ≤ k) (h : k < Sr W 0 hi) : ∃ j : Int, 0 ≤ j ∧ j ≤ hi ∧ Sr W 0 (j - 1) ≤ k ∧ k < Sr W 0 (j - 1) + W j := by
  obtain ⟨j, j1, j2, j3⟩ := sF_cut W k (hi + 1 - 0).toNat 0 (fun i q1 q2 => hn i q1 (by omega)) k0 h
  refine ⟨j, by omega, by omega, ?_, ?_⟩
  · unfold Sr; rw [show ((j : Int) - 1 + 1 - 0).toNat = j by omega]; exact j2
  · unfold Sr; rw [show ((j : Int) - 1 + 1 - 0).toNat = j by omega]; rw [Int.zero_add] at j3; exact j3
theorem Sr_up {W : Int → Int} {a b : Int} (a0 : -1 ≤ a) (hab : a ≤ b) (hn : ∀ i : Int, 0 ≤ i → i ≤ b → 0 ≤ W i) : Sr W 0 a ≤ Sr W 0 b := Sr_part (by omega) hab hn
theorem Sr_single {W : Int → Int} {j hi : Int} (j0 : 0 ≤ j) (j1 : j ≤ hi) (hn : ∀ i : Int, 0 ≤ i → i ≤ hi → 0 ≤ W i) : W j ≤ Sr W 0 hi := by
  have e : Sr W j j = W j := by rw [Sr_first (by omega), Sr_none (by omega)]; omega
  rw [← e]
  exact Sr_part j0 j1 hn
/-- tables with so many of choice 0 in the first group; and so many of choice 1, too -/
def tbV (rs : List Int) (r a b c p q : Int) : Int := cn rs (a - p) (b - q) (c - (r - p - q))
def tbW (rs : List Int) (r a b c p : Int) : Int := Sr (fun q => tbV rs r a b c p q) 0 (r - p)
theorem tbV_nn (rs : List Int) (r a b c p q : Int) : 0 ≤ tbV rs r a b c p q := cn_nonneg _ _ _ _
theorem tbW_nn (rs : List Int) (r a b c p : Int) : 0 ≤ tbW rs r a b c p := Sr_nonneg (fun _ _ _ => tbV_nn _ _ _ _ _ _ _)
theorem cn_tbW (rs : List Int) (r a b c : Int) : cn (r :: rs) a b c = Sr (fun p => tbW rs r a b c p) 0 r := rfl
theorem Tb_get {rs : List Int} {r a b c p q : Int} {k : Nat} (p0 : 0 ≤ p) (p1 : p ≤ r) (q0 : 0 ≤ q) (q1 : q ≤ r - p) (hk : (k : Int) < tbV rs r a b c p q) : (Tb (r :: rs) a b c)[(Sr (fun p => tbW rs r a b c p) 0 (p - 1)).toNat + ((Sr (fun q => tbV rs r a b c p q) 0 (q - 1)).toNat + k)]? = ((Tb rs (a - p) (b - q) (c - (r - p - q)))[k]?).map (fun t => ((p, q, r - p - q) : TR) :: t) := by
  have hk' : k < (Tb rs (a - p) (b - q) (c - (r - p - q))).length := by
    have := Tb_len rs (a - p) (b - q) (c - (r - p - q))
    unfold tbV at hk
    omega
  have lenq : ∀ p q : Int, ((((Tb rs (a - p) (b - q) (c - (r - p - q))).map (fun t => ((p, q, r - p - q) : TR) :: t)).length : Nat) : Int) = tbV rs r a b c p q := fun p q => by
    rw [List.length_map, Tb_len]; rfl
  have lenp : ∀ p : Int, ((((rgR 0 (r - p)).flatMap fun q => (Tb rs (a - p) (b - q) (c - (r - p - q))).map (fun t => ((p, q, r - p - q) : TR) :: t)).length : Nat) : Int) = tbW rs r a b c p := fun p => by
    unfold rgR
    rw [rg_len]
    exact sF_congr _ _ (fun q _ _ => lenq p q)
  have g2 := rg_get (fun q => (Tb rs (a - p) (b - q) (c - (r - p - q))).map (fun t => ((p, q, r - p - q) : TR) :: t)) (r - p + 1 - 0).toNat 0 q k q0 (by omega) (by rw [List.length_map]; exact hk')
  have e2 : sF (fun q => (((Tb rs (a - p) (b - q) (c - (r - p - q))).map (fun t => ((p, q, r - p - q) : TR) :: t)).length : Int)) 0 (q - 0).toNat = Sr (fun q => tbV rs r a b c p q) 0 (q - 1) := by
    unfold Sr
    rw [show (q - 1 + 1 - 0).toNat = (q - 0).toNat by omega]
    exact sF_congr _ _ (fun q _ _ => lenq p q)
  rw [e2] at g2
  have g2l : (Sr (fun q => tbV rs r a b c p q) 0 (q - 1)).toNat + k < ((rgR 0 (r - p)).flatMap fun q => (Tb rs (a - p) (b - q) (c - (r - p - q))).map (fun t => ((p, q, r - p - q) : TR) :: t)).length := by
    have h1 := lenp p
    have h2 : Sr (fun q => tbV rs r a b c p q) 0 q ≤ tbW rs r a b c p := Sr_up (by omega) q1 (fun i _ _ => tbV_nn _ _ _ _ _ _ _)
    have h3 : Sr (fun q => tbV rs r a b c p q) 0 q = Sr (fun q => tbV rs r a b c p q) 0 (q - 1) + tbV rs r a b c p q := Sr_last (by omega)
    have h4 : 0 ≤ Sr (fun q => tbV rs r a b c p q) 0 (q - 1) := Sr_nonneg (fun i _ _ => tbV_nn _ _ _ _ _ _ _)
    omega
  have g1 := rg_get (fun p => (rgR 0 (r - p)).flatMap fun q => (Tb rs (a - p) (b - q) (c - (r - p - q))).map (fun t => ((p, q, r - p - q) : TR) :: t)) (r + 1 - 0).toNat 0 p _ p0 (by omega) g2l
  have e1 : sF (fun p => (((rgR 0 (r - p)).flatMap fun q => (Tb rs (a - p) (b - q) (c - (r - p - q))).map (fun t => ((p, q, r - p - q) : TR) :: t)).length : Int)) 0 (p - 0).toNat = Sr (fun p => tbW rs r a b c p) 0 (p - 1) := by
    unfold Sr
    rw [show (p - 1 + 1 - 0).toNat = (p - 0).toNat by omega]
    exact sF_congr _ _ (fun p _ _ => lenp p)
  rw [e1] at g1
  rw [Tb_cons]
  refine g1.trans ?_
  refine g2.trans ?_
  rw [List.getElem?_map]
theorem Tb_single {r a b c : Int} (a0 : 0 ≤ a) (b0 : 0 ≤ b) (c0 : 0 ≤ c) (h : a + b + c = r) : Tb [r] a b c = [[(a, b, r - a - b)]] := by
  have l1 := Tb_len [r] a b c
  rw [cn_one, if_pos ⟨a0, b0, c0, h⟩] at l1
  have l2 := (Tb_chain [r] a b c ⟨by omega, trivial⟩ a0 b0 c0 (by show _ = r + 0; omega)).2
  have e1 : max 0 (r - b - c) = a := by omega
  have e2 : max 0 (r - a - c) = b := by omega
  rw [fst1_cons, e1, e2] at l2
  cases hh : Tb [r] a b c with
  | nil => rw [hh] at l2; cases l2
  | cons y l =>
    rw [hh] at l1 l2
    rw [List.length_cons] at l1
    have : l = [] := List.length_eq_zero_iff.mp (by omega)
    subst this
    cases l2
    rfl
section Q
variable {w : WD} {A : Int → Nat} {h hh : AH} {c : Int → Int}
set_option maxRecDepth 100000 in
theorem q_numb126 {m b0 g x y z p : Int} {n : Nat} (k41 : Nat → Int32 → Int64 → Int32 → Int32 → Int32 → Int32 → AH → Option (AH)) (hS : Sim w A hh) (hl : lvM w m) (b00 : 0 ≤ b0) (tb : b0 < wBx w m) (g0 : 0 ≤ g) (hg : g + 1 + (n + 1) = wGr w m) (hx : 0 ≤ x ∧ x ≤ 300) (hy : 0 ≤ y ∧ y ≤ 300) (hs : x + y + z = wG w (12 * m + b0) g + sumL (rwL w (12 * m + b0) (g + 1) (n + 1))) (hp : 0 ≤ p ∧ p ≤ 99) {k q : Int} (q0 : 0 ≤ q) (q1 : q ≤ wG w (12 * m + b0) g - p) (hk : Sr (fun q => tbV (rwL w (12 * m + b0) (g + 1) (n + 1)) (wG w (12 * m + b0) g) x y z p q) 0 (q - 1) ≤ k) (hk2 : k < Sr (fun q => tbV (rwL w (12 * m + b0) (g + 1) (n + 1)) (wG w (12 * m + b0) g) x y z p q) 0 (q - 1) + tbV (rwL w (12 * m + b0) (g + 1) (n + 1)) (wG w (12 * m + b0) g) x y z p q) (hT : tbW (rwL w (12 * m + b0) (g + 1) (n + 1)) (wG w (12 * m + b0) g) x y z p ≤ 1000000000000) : ∀ (d N : Nat), d < N → ∀ j : Int, 0 ≤ j → j + d = q → lp (b_X12_numbered_126 k41) (fun _ _ _ _ _ _ _ _ _ _ _ => none) N 91 (iv (12 * m + b0)) (jv (k - Sr (fun q => tbV (rwL w (12 * m + b0) (g + 1) (n + 1)) (wG w (12 * m + b0) g) x y z p q) 0 (j - 1))) (iv x) (iv y) (iv (wGr w m - 1)) (iv g) (iv p) (jv (tbV (rwL w (12 * m + b0) (g + 1) (n + 1)) (wG w (12 * m + b0) g) x y z p j)) (iv j) hh = k41 91 (iv (12 * m + b0)) (jv (k - Sr (fun q => tbV (rwL w (12 * m + b0) (g + 1) (n + 1)) (wG w (12 * m + b0) g) x y z p q) 0 (q - 1))) (iv (x - p)) (iv (y - q)) (iv (wGr w m - 1)) (iv (g + 1)) (LY hh (12 * b0 + 3 * g) p q (wG w (12 * m + b0) g - p - q)) := by
  have hF := hS.F
  have hR := hS.R
  obtain ⟨⟨w1, w2⟩, -⟩ := hS.W; obtain ⟨⟨gg1, gg2⟩, ⟨gc1, gc2⟩, ⟨b2, b3⟩, ⟨hh1, hh2⟩, -⟩ := hS.W.mat hl; obtain ⟨l1, l2⟩ := id hl
  have hW := hS.W
  have rg := oB_g (hW.box hl b00 tb) (g := g) g0 (by omega) (by omega)
  have hxm : rmI (iv (12 * m + b0)) (iv 12) = iv b0 := (by rw [rm_iv (by omega) (by omega) (by omega) (by omega)]; congr 1; omega)
  have nn := fun (i : Int) (_ : 0 ≤ i) (_ : i ≤ wG w (12 * m + b0) g - p) => tbV_nn (rwL w (12 * m + b0) (g + 1) (n + 1)) (wG w (12 * m + b0) g) x y z p i
  have hV := fun (i : Int) (i0 : 0 ≤ i) (i1 : i ≤ 300) => (by
    have := q_ways hS.Q hl b00 tb (g := g + 1) (n := n + 1) (a := x - p) (b := y - i) (by omega) (by omega) (by omega) (by omega) (by omega)
    rw [show sumL (rwL w (12 * m + b0) (g + 1) (n + 1)) - (x - p) - (y - i) = z - (wG w (12 * m + b0) g - p - i) by omega] at this
    exact this : f_X12_ways 91 (iv (12 * m + b0)) (iv (g + 1)) (iv (x - p)) (iv (y - i)) hh = some (jv (tbV (rwL w (12 * m + b0) (g + 1) (n + 1)) (wG w (12 * m + b0) g) x y z p i), hh))
  intro d
  induction d with
  | zero =>
    intro N hN; obtain ⟨N, rfl⟩ : ∃ N', N = N' + 1 := ⟨N - 1, (by omega)⟩
    intro j j0 hj
    have hj : j = q := (by omega)
    subst hj
    have b1 := Sr_single (W := fun q => tbV (rwL w (12 * m + b0) (g + 1) (n + 1)) (wG w (12 * m + b0) g) x y z p q) j0 q1 nn
    have b2 : tbV (rwL w (12 * m + b0) (g + 1) (n + 1)) (wG w (12 * m + b0) g) x y z p j ≤ 1000000000000 := Int.le_trans b1 hT
    simp -implicitDefEqProofs (disch := omega) only [lp_succ, F_b_X12_numbered_126, k_X12_numbered_126_1, K91 hF, R91_4 hF, K95 hF, N95 hF, RR_G hR, hxm, q_lays hS.Q, iv_add, iv_sub, iv_mul, iv_neg, iv_zero, iv_ltT, iv_ltF, iv_leT, iv_leF, iv_eqT, iv_eqF, iv_div, rm_iv, tn_iv, ib_iv, lc_lt, lc_le, lc_gt, lc_ge, lc_eq, iv_l, jv_add, jv_sub, jv_mul, jv_zero, if_pos, if_neg, some_cb, some_cbv, ↓nm_eq, ↓reduceIte, true_and, and_true, Bool.true_eq_false, Bool.false_eq_true, not_false_eq_true, not_true_eq_false]
  | succ d ih =>
    intro N hN; obtain ⟨N, rfl⟩ : ∃ N', N = N' + 1 := ⟨N - 1, (by omega)⟩
    intro j j0 hj
    have b1 := Sr_single (W := fun q => tbV (rwL w (12 * m + b0) (g + 1) (n + 1)) (wG w (12 * m + b0) g) x y z p q) (j := j) j0 (by omega) nn
    have b2 : tbV (rwL w (12 * m + b0) (g + 1) (n + 1)) (wG w (12 * m + b0) g) x y z p j ≤ 1000000000000 := Int.le_trans b1 hT
    have b3 := nn j j0 (by omega)
    have e1 : Sr (fun q => tbV (rwL w (12 * m + b0) (g + 1) (n + 1)) (wG w (12 * m + b0) g) x y z p q) 0 j = Sr (fun q => tbV (rwL w (12 * m + b0) (g + 1) (n + 1)) (wG w (12 * m + b0) g) x y z p q) 0 (j - 1) + tbV (rwL w (12 * m + b0) (g + 1) (n + 1)) (wG w (12 * m + b0) g) x y z p j := Sr_last j0
    have e2 : Sr (fun q => tbV (rwL w (12 * m + b0) (g + 1) (n + 1)) (wG w (12 * m + b0) g) x y z p q) 0 j ≤ Sr (fun q => tbV (rwL w (12 * m + b0) (g + 1) (n + 1)) (wG w (12 * m + b0) g) x y z p q) 0 (q - 1) := Sr_up (by omega) (by omega) (fun i i0 i1 => nn i i0 (by omega))
    have e3 : Sr (fun q => tbV (rwL w (12 * m + b0) (g + 1) (n + 1)) (wG w (12 * m + b0) g) x y z p q) 0 q ≤ tbW (rwL w (12 * m + b0) (g + 1) (n + 1)) (wG w (12 * m + b0) g) x y z p := Sr_up (by omega) q1 nn
    have e4 : Sr (fun q => tbV (rwL w (12 * m + b0) (g + 1) (n + 1)) (wG w (12 * m + b0) g) x y z p q) 0 q = Sr (fun q => tbV (rwL w (12 * m + b0) (g + 1) (n + 1)) (wG w (12 * m + b0) g) x y z p q) 0 (q - 1) + tbV (rwL w (12 * m + b0) (g + 1) (n + 1)) (wG w (12 * m + b0) g) x y z p q := Sr_last q0
    have e5 : 0 ≤ Sr (fun q => tbV (rwL w (12 * m + b0) (g + 1) (n + 1)) (wG w (12 * m + b0) g) x y z p q) 0 (j - 1) := Sr_nonneg (fun i _ _ => tbV_nn _ _ _ _ _ _ _)
    have hi := ih N (by omega) (j + 1) (by omega) (by omega)
    rw [show j + 1 - 1 = j by omega, e1, ← Int.sub_sub] at hi
    rw [← hi]
    simp -implicitDefEqProofs (disch := omega) only [lp_succ, F_b_X12_numbered_126, k_X12_numbered_126_2, K91 hF, hV, iv_add, iv_sub, iv_mul, iv_neg, iv_zero, iv_ltT, iv_ltF, iv_leT, iv_leF, iv_eqT, iv_eqF, iv_div, rm_iv, tn_iv, ib_iv, lc_lt, lc_le, lc_gt, lc_ge, lc_eq, iv_l, jv_add, jv_sub, jv_mul, jv_zero, if_pos, if_neg, some_cb, some_cbv, ↓nm_eq, ↓reduceIte, true_and, and_true, Bool.true_eq_false, Bool.false_eq_true, not_false_eq_true, not_true_eq_false]
end Q
