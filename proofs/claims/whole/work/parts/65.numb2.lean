section Q
variable {w : WD} {A : Int → Nat} {h hh : AH} {c : Int → Int}
set_option maxRecDepth 100000 in
theorem q_numb66 {m b0 g x y z : Int} {n : Nat} (k41 : Nat → Int32 → Int64 → Int32 → Int32 → Int32 → Int32 → AH → Option (AH)) (hS : Sim w A hh) (hl : lvM w m) (b00 : 0 ≤ b0) (tb : b0 < wBx w m) (g0 : 0 ≤ g) (hg : g + 1 + (n + 1) = wGr w m) (hx : 0 ≤ x ∧ x ≤ 300) (hy : 0 ≤ y ∧ y ≤ 300) (hs : x + y + z = wG w (12 * m + b0) g + sumL (rwL w (12 * m + b0) (g + 1) (n + 1))) {k p q : Int} (p0 : 0 ≤ p) (p1 : p ≤ wG w (12 * m + b0) g) (hk : Sr (fun p => tbW (rwL w (12 * m + b0) (g + 1) (n + 1)) (wG w (12 * m + b0) g) x y z p) 0 (p - 1) ≤ k) (hk2 : k < Sr (fun p => tbW (rwL w (12 * m + b0) (g + 1) (n + 1)) (wG w (12 * m + b0) g) x y z p) 0 (p - 1) + tbW (rwL w (12 * m + b0) (g + 1) (n + 1)) (wG w (12 * m + b0) g) x y z p) (hT : Sr (fun p => tbW (rwL w (12 * m + b0) (g + 1) (n + 1)) (wG w (12 * m + b0) g) x y z p) 0 (wG w (12 * m + b0) g) ≤ 1000000000000) {k1 : Int} (hk1 : k - Sr (fun p => tbW (rwL w (12 * m + b0) (g + 1) (n + 1)) (wG w (12 * m + b0) g) x y z p) 0 (p - 1) = k1) (q0 : 0 ≤ q) (q1 : q ≤ wG w (12 * m + b0) g - p) (hq : Sr (fun q => tbV (rwL w (12 * m + b0) (g + 1) (n + 1)) (wG w (12 * m + b0) g) x y z p q) 0 (q - 1) ≤ k1) (hq2 : k1 < Sr (fun q => tbV (rwL w (12 * m + b0) (g + 1) (n + 1)) (wG w (12 * m + b0) g) x y z p q) 0 (q - 1) + tbV (rwL w (12 * m + b0) (g + 1) (n + 1)) (wG w (12 * m + b0) g) x y z p q) : ∀ (d N : Nat), d < N → ∀ j : Int, 0 ≤ j → j + d = p → lp (b_X12_numbered_66 k41) (fun _ _ _ _ _ _ _ _ _ _ => none) N 91 (iv (12 * m + b0)) (jv (k - Sr (fun p => tbW (rwL w (12 * m + b0) (g + 1) (n + 1)) (wG w (12 * m + b0) g) x y z p) 0 (j - 1))) (iv x) (iv y) (iv (wGr w m - 1)) (iv g) (iv j) (jv (tbW (rwL w (12 * m + b0) (g + 1) (n + 1)) (wG w (12 * m + b0) g) x y z j)) hh = k41 91 (iv (12 * m + b0)) (jv (k1 - Sr (fun q => tbV (rwL w (12 * m + b0) (g + 1) (n + 1)) (wG w (12 * m + b0) g) x y z p q) 0 (q - 1))) (iv (x - p)) (iv (y - q)) (iv (wGr w m - 1)) (iv (g + 1)) (LY hh (12 * b0 + 3 * g) p q (wG w (12 * m + b0) g - p - q)) := by
  have hF := hS.F
  have hR := hS.R
  obtain ⟨⟨w1, w2⟩, -⟩ := hS.W; obtain ⟨⟨gg1, gg2⟩, ⟨gc1, gc2⟩, ⟨b2, b3⟩, ⟨hh1, hh2⟩, -⟩ := hS.W.mat hl; obtain ⟨l1, l2⟩ := id hl
  have hW := hS.W
  have rg := oB_g (hW.box hl b00 tb) (g := g) g0 (by omega) (by omega)
  have nn := fun (i : Int) (_ : 0 ≤ i) (_ : i ≤ wG w (12 * m + b0) g) => tbW_nn (rwL w (12 * m + b0) (g + 1) (n + 1)) (wG w (12 * m + b0) g) x y z i
  have hWW := fun (i : Int) (i0 : 0 ≤ i) (i1 : i ≤ 200) => (by
    have := q_waysWith hS.Q hl b00 tb (g := g) (n := n + 1) (a := x) (b := y) (p := i) (by omega) (by omega) (by omega) (by omega) (by omega) (by omega)
    rw [this]
    congr 3
    refine Sr_congr (fun q' _ _ => ?_)
    rw [show sumL (rwL w (12 * m + b0) (g + 1) (n + 1)) - (x - i) - (y - q') = z - (wG w (12 * m + b0) g - i - q') by omega]
    rfl : f_X12_waysWith 91 (iv (12 * m + b0)) (iv g) (iv x) (iv y) (iv i) hh = some (jv (tbW (rwL w (12 * m + b0) (g + 1) (n + 1)) (wG w (12 * m + b0) g) x y z i), hh))
  intro d
  induction d with
  | zero =>
    intro N hN; obtain ⟨N, rfl⟩ : ∃ N', N = N' + 1 := ⟨N - 1, (by omega)⟩
    intro j j0 hj
    have hj : j = p := (by omega)
    subst hj
    have b1 := Sr_single (W := fun p => tbW (rwL w (12 * m + b0) (g + 1) (n + 1)) (wG w (12 * m + b0) g) x y z p) j0 p1 nn
    have b2 : tbW (rwL w (12 * m + b0) (g + 1) (n + 1)) (wG w (12 * m + b0) g) x y z j ≤ 1000000000000 := Int.le_trans b1 hT
    have hv := q_ways hS.Q hl b00 tb (g := g + 1) (n := n + 1) (a := x - j) (b := y - 0) (by omega) (by omega) (by omega) (by omega) (by omega)
    rw [show sumL (rwL w (12 * m + b0) (g + 1) (n + 1)) - (x - j) - (y - 0) = z - (wG w (12 * m + b0) g - j - 0) by omega] at hv
    have hv : f_X12_ways 91 (iv (12 * m + b0)) (iv (g + 1)) (iv (x - j)) (iv (y - 0)) hh = some (jv (tbV (rwL w (12 * m + b0) (g + 1) (n + 1)) (wG w (12 * m + b0) g) x y z j 0), hh) := hv
    have key := q_numb126 k41 hS hl b00 tb g0 hg hx hy hs (p := j) (by omega) q0 q1 hq hq2 b2 q.toNat FU (FU_gt (by omega)) 0 (by omega) (by omega)
    rw [Sr_none (show (0 : Int) - 1 < 0 by omega), Int.sub_zero] at key
    rw [hk1, ← key]
    rw [← hk1] at hq hq2 key ⊢
    simp -implicitDefEqProofs (disch := omega) only [lp_succ, F_b_X12_numbered_66, k_X12_numbered_66_1, f_X12_numbered_126, K91 hF, hv, iv_add, iv_sub, iv_mul, iv_neg, iv_zero, iv_ltT, iv_ltF, iv_leT, iv_leF, iv_eqT, iv_eqF, iv_div, rm_iv, tn_iv, ib_iv, lc_lt, lc_le, lc_gt, lc_ge, lc_eq, iv_l, jv_add, jv_sub, jv_mul, jv_zero, if_pos, if_neg, some_cb, some_cbv, ↓nm_eq, ↓reduceIte, true_and, and_true, Bool.true_eq_false, Bool.false_eq_true, not_false_eq_true, not_true_eq_false]
  | succ d ih =>
    intro N hN; obtain ⟨N, rfl⟩ : ∃ N', N = N' + 1 := ⟨N - 1, (by omega)⟩
    intro j j0 hj
    have b1 := Sr_single (W := fun p => tbW (rwL w (12 * m + b0) (g + 1) (n + 1)) (wG w (12 * m + b0) g) x y z p) (j := j) j0 (by omega) nn
    have b2 : tbW (rwL w (12 * m + b0) (g + 1) (n + 1)) (wG w (12 * m + b0) g) x y z j ≤ 1000000000000 := Int.le_trans b1 hT
    have b3 := nn j j0 (by omega)
    have e1 : Sr (fun p => tbW (rwL w (12 * m + b0) (g + 1) (n + 1)) (wG w (12 * m + b0) g) x y z p) 0 j = Sr (fun p => tbW (rwL w (12 * m + b0) (g + 1) (n + 1)) (wG w (12 * m + b0) g) x y z p) 0 (j - 1) + tbW (rwL w (12 * m + b0) (g + 1) (n + 1)) (wG w (12 * m + b0) g) x y z j := Sr_last j0
    have e2 : Sr (fun p => tbW (rwL w (12 * m + b0) (g + 1) (n + 1)) (wG w (12 * m + b0) g) x y z p) 0 j ≤ Sr (fun p => tbW (rwL w (12 * m + b0) (g + 1) (n + 1)) (wG w (12 * m + b0) g) x y z p) 0 (p - 1) := Sr_up (by omega) (by omega) (fun i i0 i1 => nn i i0 (by omega))
    have e3 : Sr (fun p => tbW (rwL w (12 * m + b0) (g + 1) (n + 1)) (wG w (12 * m + b0) g) x y z p) 0 p ≤ Sr (fun p => tbW (rwL w (12 * m + b0) (g + 1) (n + 1)) (wG w (12 * m + b0) g) x y z p) 0 (wG w (12 * m + b0) g) := Sr_up (by omega) p1 nn
    have e4 : Sr (fun p => tbW (rwL w (12 * m + b0) (g + 1) (n + 1)) (wG w (12 * m + b0) g) x y z p) 0 p = Sr (fun p => tbW (rwL w (12 * m + b0) (g + 1) (n + 1)) (wG w (12 * m + b0) g) x y z p) 0 (p - 1) + tbW (rwL w (12 * m + b0) (g + 1) (n + 1)) (wG w (12 * m + b0) g) x y z p := Sr_last p0
    have e5 : 0 ≤ Sr (fun p => tbW (rwL w (12 * m + b0) (g + 1) (n + 1)) (wG w (12 * m + b0) g) x y z p) 0 (j - 1) := Sr_nonneg (fun i _ _ => tbW_nn _ _ _ _ _ _)
    have hi := ih N (by omega) (j + 1) (by omega) (by omega)
    rw [show j + 1 - 1 = j by omega, e1, ← Int.sub_sub] at hi
    rw [← hi]
    simp -implicitDefEqProofs (disch := omega) only [lp_succ, F_b_X12_numbered_66, k_X12_numbered_66_2, K91 hF, hWW, iv_add, iv_sub, iv_mul, iv_neg, iv_zero, iv_ltT, iv_ltF, iv_leT, iv_leF, iv_eqT, iv_eqF, iv_div, rm_iv, tn_iv, ib_iv, lc_lt, lc_le, lc_gt, lc_ge, lc_eq, iv_l, jv_add, jv_sub, jv_mul, jv_zero, if_pos, if_neg, some_cb, some_cbv, ↓nm_eq, ↓reduceIte, true_and, and_true, Bool.true_eq_false, Bool.false_eq_true, not_false_eq_true, not_true_eq_false]
set_option maxRecDepth 100000 in
theorem q_numb41 {m b0 : Int} (hl : lvM w m) (b00 : 0 ≤ b0) (tb : b0 < wBx w m) : ∀ (n N : Nat), n < N → ∀ (hh : AH) (c : Int → Int) (g x y z k : Int), NS w A h hh c → 0 ≤ g → g + (n + 1) = wGr w m → (0 ≤ x ∧ x ≤ 300) → (0 ≤ y ∧ y ≤ 300) → 0 ≤ z → x + y + z = sumL (rwL w (12 * m + b0) g (n + 1)) → 0 ≤ k → k < cn (rwL w (12 * m + b0) g (n + 1)) x y z → cn (rwL w (12 * m + b0) g (n + 1)) x y z ≤ 1000000000000 → ∃ (h' : AH) (c' : Int → Int) (t : List TR), lp b_X12_numbered_41 (fun _ _ _ _ _ _ _ _ => none) N 91 (iv (12 * m + b0)) (jv k) (iv x) (iv y) (iv (wGr w m - 1)) (iv g) hh = some h' ∧ NS w A h h' c' ∧ (Tb (rwL w (12 * m + b0) g (n + 1)) x y z)[k.toNat]? = some t ∧ HT c' (12 * b0 + 3 * g) t ∧ ∀ i : Int, (i < 12 * b0 + 3 * g ∨ 12 * b0 + 12 ≤ i) → c' i = c i := by
  intro n
  induction n with
  | zero =>
    intro N hN; obtain ⟨N, rfl⟩ : ∃ N', N = N' + 1 := ⟨N - 1, (by omega)⟩
    intro hh c g x y z k hN g0 hg hx hy z0 hs k0 hk hT
    have hS := hN.2.1
    have hF := hS.F
    have hR := hS.R
    obtain ⟨⟨w1, w2⟩, -⟩ := hS.W; obtain ⟨⟨gg1, gg2⟩, ⟨gc1, gc2⟩, ⟨b2, b3⟩, ⟨hh1, hh2⟩, -⟩ := hS.W.mat hl; obtain ⟨l1, l2⟩ := id hl
    have hxm : rmI (iv (12 * m + b0)) (iv 12) = iv b0 := (by rw [rm_iv (by omega) (by omega) (by omega) (by omega)]; congr 1; omega)
    have rg := oB_g (hS.W.box hl b00 tb) (g := g) g0 (by omega) (by omega)
    rw [rw1] at hs hk ⊢
    rw [sumL1] at hs
    rw [cn_one, if_pos (by omega)] at hk
    have hk0 : k = 0 := (by omega)
    subst hk0
    rw [Tb_single hx.1 hy.1 z0 hs]
    rw [show wGr w m - 1 = g by omega]
    refine ⟨_, _, _, ?_, hN.ly (z := 12 * b0 + 3 * g) (by omega) x y (wG w (12 * m + b0) g - x - y), rfl, ⟨ly_0 _ _ _ _ _, ly_1 _ _ _ _ _, ly_2 _ _ _ _ _, trivial⟩, fun i hi => ly_o c (by omega)⟩
    simp -implicitDefEqProofs (disch := omega) only [lp_succ, F_b_X12_numbered_41, k_X12_numbered_41_1, K91 hF, R91_4 hF, K95 hF, N95 hF, RR_G hR, hxm, q_lays hS.Q, iv_add, iv_sub, iv_mul, iv_neg, iv_zero, iv_ltT, iv_ltF, iv_leT, iv_leF, iv_eqT, iv_eqF, iv_div, rm_iv, tn_iv, ib_iv, some_cb, some_cbv, ↓nm_eq, ↓reduceIte, true_and, and_true, Bool.true_eq_false, Bool.false_eq_true, not_false_eq_true, not_true_eq_false]
  | succ n ih =>
    intro N hN; obtain ⟨N, rfl⟩ : ∃ N', N = N' + 1 := ⟨N - 1, (by omega)⟩
    intro hh c g x y z k hN g0 hg hx hy z0 hs k0 hk hT
    have hS := hN.2.1
    have hF := hS.F
    have hR := hS.R
    obtain ⟨⟨w1, w2⟩, -⟩ := hS.W; obtain ⟨⟨gg1, gg2⟩, ⟨gc1, gc2⟩, ⟨b2, b3⟩, ⟨hh1, hh2⟩, -⟩ := hS.W.mat hl; obtain ⟨l1, l2⟩ := id hl
    have rg := oB_g (hS.W.box hl b00 tb) (g := g) g0 (by omega) (by omega)
    have hs : x + y + z = wG w (12 * m + b0) g + sumL (rwL w (12 * m + b0) (g + 1) (n + 1)) := hs
    have hk : k < Sr (fun p => tbW (rwL w (12 * m + b0) (g + 1) (n + 1)) (wG w (12 * m + b0) g) x y z p) 0 (wG w (12 * m + b0) g) := hk
    have hT : Sr (fun p => tbW (rwL w (12 * m + b0) (g + 1) (n + 1)) (wG w (12 * m + b0) g) x y z p) 0 (wG w (12 * m + b0) g) ≤ 1000000000000 := hT
    have nn := fun (i : Int) (_ : 0 ≤ i) (_ : i ≤ wG w (12 * m + b0) g) => tbW_nn (rwL w (12 * m + b0) (g + 1) (n + 1)) (wG w (12 * m + b0) g) x y z i
    obtain ⟨p, p0, p1, p2, p3⟩ := Sr_cut nn k0 hk
    have p2 : Sr (fun p => tbW (rwL w (12 * m + b0) (g + 1) (n + 1)) (wG w (12 * m + b0) g) x y z p) 0 (p - 1) ≤ k := p2
    have p3 : k < Sr (fun p => tbW (rwL w (12 * m + b0) (g + 1) (n + 1)) (wG w (12 * m + b0) g) x y z p) 0 (p - 1) + tbW (rwL w (12 * m + b0) (g + 1) (n + 1)) (wG w (12 * m + b0) g) x y z p := p3
    obtain ⟨k1, hk1⟩ : ∃ k1, k - Sr (fun p => tbW (rwL w (12 * m + b0) (g + 1) (n + 1)) (wG w (12 * m + b0) g) x y z p) 0 (p - 1) = k1 := ⟨_, rfl⟩
    have p3' : k1 < Sr (fun q => tbV (rwL w (12 * m + b0) (g + 1) (n + 1)) (wG w (12 * m + b0) g) x y z p q) 0 (wG w (12 * m + b0) g - p) := (by
      show k1 < tbW (rwL w (12 * m + b0) (g + 1) (n + 1)) (wG w (12 * m + b0) g) x y z p
      omega)
    have nq := fun (i : Int) (_ : 0 ≤ i) (_ : i ≤ wG w (12 * m + b0) g - p) => tbV_nn (rwL w (12 * m + b0) (g + 1) (n + 1)) (wG w (12 * m + b0) g) x y z p i
    obtain ⟨q, q0, q1, q2, q3⟩ := Sr_cut nq (by omega) p3'
    have q2 : Sr (fun q => tbV (rwL w (12 * m + b0) (g + 1) (n + 1)) (wG w (12 * m + b0) g) x y z p q) 0 (q - 1) ≤ k1 := q2
    have q3 : k1 < Sr (fun q => tbV (rwL w (12 * m + b0) (g + 1) (n + 1)) (wG w (12 * m + b0) g) x y z p q) 0 (q - 1) + tbV (rwL w (12 * m + b0) (g + 1) (n + 1)) (wG w (12 * m + b0) g) x y z p q := q3
    have key := q_numb66 (lp b_X12_numbered_41 (fun _ _ _ _ _ _ _ _ => none) N) hS hl b00 tb g0 (by omega) hx hy hs p0 p1 p2 p3 hT hk1 q0 q1 q2 q3 p.toNat FU (FU_gt (by omega)) 0 (by omega) (by omega)
    rw [Sr_none (show (0 : Int) - 1 < 0 by omega), Int.sub_zero] at key
    have hV : k1 - Sr (fun q => tbV (rwL w (12 * m + b0) (g + 1) (n + 1)) (wG w (12 * m + b0) g) x y z p q) 0 (q - 1) < cn (rwL w (12 * m + b0) (g + 1) (n + 1)) (x - p) (y - q) (z - (wG w (12 * m + b0) g - p - q)) := (by
      show _ < tbV (rwL w (12 * m + b0) (g + 1) (n + 1)) (wG w (12 * m + b0) g) x y z p q
      omega)
    have hpos : ¬ (x - p < 0 ∨ y - q < 0 ∨ z - (wG w (12 * m + b0) g - p - q) < 0) := fun e => by
      rw [cn_neg _ _ _ _ e] at hV
      omega
    have hVT : cn (rwL w (12 * m + b0) (g + 1) (n + 1)) (x - p) (y - q) (z - (wG w (12 * m + b0) g - p - q)) ≤ 1000000000000 := (by
      have v1 : tbV (rwL w (12 * m + b0) (g + 1) (n + 1)) (wG w (12 * m + b0) g) x y z p q ≤ tbW (rwL w (12 * m + b0) (g + 1) (n + 1)) (wG w (12 * m + b0) g) x y z p := Sr_single q0 q1 nq
      have v2 : tbW (rwL w (12 * m + b0) (g + 1) (n + 1)) (wG w (12 * m + b0) g) x y z p ≤ Sr (fun p => tbW (rwL w (12 * m + b0) (g + 1) (n + 1)) (wG w (12 * m + b0) g) x y z p) 0 (wG w (12 * m + b0) g) := Sr_single p0 p1 nn
      exact Int.le_trans v1 (Int.le_trans v2 hT))
    have hN1 := hN.ly (z := 12 * b0 + 3 * g) (by omega) p q (wG w (12 * m + b0) g - p - q)
    obtain ⟨h', c', t, f1, f2, f3, f4, f5⟩ := ih N (by omega) _ _ (g + 1) (x - p) (y - q) (z - (wG w (12 * m + b0) g - p - q)) (k1 - Sr (fun q => tbV (rwL w (12 * m + b0) (g + 1) (n + 1)) (wG w (12 * m + b0) g) x y z p q) 0 (q - 1)) hN1 (by omega) (by omega) (by omega) (by omega) (by omega) (by omega) (by omega) hV hVT
    have hW0 := q_waysWith hS.Q hl b00 tb (g := g) (n := n + 1) (a := x) (b := y) (p := 0) (by omega) (by omega) (by omega) (by omega) (by omega) (by omega)
    have hW0' : f_X12_waysWith 91 (iv (12 * m + b0)) (iv g) (iv x) (iv y) (iv 0) hh = some (jv (tbW (rwL w (12 * m + b0) (g + 1) (n + 1)) (wG w (12 * m + b0) g) x y z 0), hh) := (by
      rw [hW0]
      congr 3
      refine Sr_congr (fun q' _ _ => ?_)
      rw [show sumL (rwL w (12 * m + b0) (g + 1) (n + 1)) - (x - 0) - (y - q') = z - (wG w (12 * m + b0) g - 0 - q') by omega]
      rfl)
    have n1 : 0 ≤ Sr (fun p => tbW (rwL w (12 * m + b0) (g + 1) (n + 1)) (wG w (12 * m + b0) g) x y z p) 0 (p - 1) := Sr_nonneg (fun _ _ _ => tbW_nn _ _ _ _ _ _)
    have n2 : 0 ≤ Sr (fun q => tbV (rwL w (12 * m + b0) (g + 1) (n + 1)) (wG w (12 * m + b0) g) x y z p q) 0 (q - 1) := Sr_nonneg (fun _ _ _ => tbV_nn _ _ _ _ _ _ _)
    have hget := Tb_get (rs := rwL w (12 * m + b0) (g + 1) (n + 1)) (r := wG w (12 * m + b0) g) (a := x) (b := y) (c := z) (p := p) (q := q) (k := (k1 - Sr (fun q => tbV (rwL w (12 * m + b0) (g + 1) (n + 1)) (wG w (12 * m + b0) g) x y z p q) 0 (q - 1)).toNat) p0 p1 q0 q1 (by omega)
    rw [f3] at hget
    refine ⟨h', c', (p, q, wG w (12 * m + b0) g - p - q) :: t, ?_, f2, ?_, ⟨?_, ?_, ?_, ?_⟩, fun i hi => ?_⟩
    · rw [← f1, ← key]
      simp -implicitDefEqProofs (disch := omega) only [lp_succ, F_b_X12_numbered_41, k_X12_numbered_41_2, f_X12_numbered_66, K91 hF, hW0', iv_add, iv_sub, iv_mul, iv_neg, iv_zero, iv_ltT, iv_ltF, iv_leT, iv_leF, iv_eqT, iv_eqF, iv_div, rm_iv, tn_iv, ib_iv, some_cb, some_cbv, ↓nm_eq, ↓reduceIte, true_and, and_true, Bool.true_eq_false, Bool.false_eq_true, not_false_eq_true, not_true_eq_false]
    · show (Tb (wG w (12 * m + b0) g :: rwL w (12 * m + b0) (g + 1) (n + 1)) x y z)[k.toNat]? = _
      refine Eq.trans ?_ hget
      congr 1
      omega
    · rw [f5 _ (by omega), ly_0]
    · rw [f5 _ (by omega), ly_1]
    · rw [f5 _ (by omega), ly_2]
    · rw [show 12 * b0 + 3 * g + 3 = 12 * b0 + 3 * (g + 1) by omega]; exact f4
    · rw [f5 i (by omega), ly_o c (by omega)]
end Q
