/-- what is left of each choice ahead of each group -/
def RT (hh : AH) : Int → List TR → Int → Int → Int → Prop
  | _, [], _, _, _ => True
  | g, (p, q, s) :: t, a, b, c => gI hh 117 g.toNat = iv a ∧ gI hh 118 g.toNat = iv b ∧ gI hh 119 g.toNat = iv c ∧ RT hh (g + 1) t (a - p) (b - q) (c - s)
section Q
variable {w : WD} {A : Int → Nat} {h hh : AH} {c : Int → Int}
theorem N16.oth {h : AH} {c : Int → Int} (H : N16 h c) {a i : Nat} {v : Int32} (ha : a ≠ 116) : N16 (sI h a i v) c := by
  intro z hz
  rw [gI_sIo _ _ (Or.inl (by omega)), H z hz]
theorem NS.oth (N : NS w A h hh c) {a i : Nat} {v : Int32} (h1 : 117 ≤ a) (h2 : a ≤ 120) : NS w A h (sI hh a i v) c := by
  obtain ⟨n1, n2, n3⟩ := N
  have k : ¬ kpI a i := by unfold kpI; omega
  exact ⟨n1.tr ((Sc.rf n2).sI k), n2.sc ((Sc.rf n2).sI k), n3.oth (by omega)⟩
set_option maxRecDepth 100000 in
theorem q_rests35 {m b0 : Int} (hl : lvM w m) (b00 : 0 ≤ b0) (tb : b0 < wBx w m) : ∀ (n N : Nat), n < N → ∀ (hh : AH) (c : Int → Int) (g x y z : Int) (t : List TR), NS w A h hh c → 0 ≤ g → g + n = wGr w m → TOk (rwL w (12 * m + b0) g n) x y z t → HT c (12 * b0 + 3 * g) t → ∃ h' : AH, lp b_X12_rests_35 (fun _ _ _ _ _ _ _ => none) N 91 (iv (12 * m + b0)) (iv x) (iv y) (iv z) (iv g) hh = some h' ∧ NS w A h h' c ∧ RT h' g t x y z ∧ (∀ i : Int, 0 ≤ i → i < g → gI h' 117 i.toNat = gI hh 117 i.toNat ∧ gI h' 118 i.toNat = gI hh 118 i.toNat ∧ gI h' 119 i.toNat = gI hh 119 i.toNat) ∧ ∀ (a j : Nat), (a < 116 ∨ 119 < a) → gI h' a j = gI hh a j := by
  intro n
  induction n with
  | zero =>
    intro N hN; obtain ⟨N, rfl⟩ : ∃ N', N = N' + 1 := ⟨N - 1, (by omega)⟩
    intro hh c g x y z t hN g0 hg hT hH
    have hF := hN.2.1.F
    have hR := hN.2.1.R
    have hW := hN.2.1.W
    obtain ⟨⟨w1, w2⟩, -⟩ := id hW
    obtain ⟨⟨gg1, gg2⟩, -, ⟨b2, b3⟩, -⟩ := hW.mat hl
    obtain ⟨l1, l2⟩ := id hl
    have hx : iv (12 * m + b0) / iv 12 = iv m := (by rw [iv_div (by omega) (by omega) (by omega) (by omega)]; congr 1; omega)
    obtain ⟨ht, -⟩ := hT
    subst ht
    exact ⟨hh, by simp -implicitDefEqProofs (disch := omega) only [lp_succ, F_b_X12_rests_35, K91 hF, R91_1 hF, K92 hF, N92 hF, RR_Gr hR, hx, iv_add, iv_sub, iv_mul, iv_neg, iv_zero, iv_ltT, iv_ltF, iv_leT, iv_leF, iv_eqT, iv_eqF, iv_div, rm_iv, tn_iv, ib_iv, some_cb, some_cbv, ↓nm_eq, ↓reduceIte, true_and, and_true, Bool.true_eq_false, Bool.false_eq_true, not_false_eq_true, not_true_eq_false], hN, trivial, fun _ _ _ => ⟨rfl, rfl, rfl⟩, fun _ _ _ => rfl⟩
  | succ n ih =>
    intro N hN; obtain ⟨N, rfl⟩ : ∃ N', N = N' + 1 := ⟨N - 1, (by omega)⟩
    intro hh c g x y z t hN g0 hg hT hH
    have hF := hN.2.1.F
    have hR := hN.2.1.R
    have hW := hN.2.1.W
    obtain ⟨⟨w1, w2⟩, -⟩ := id hW
    obtain ⟨⟨gg1, gg2⟩, -, ⟨b2, b3⟩, -⟩ := hW.mat hl
    obtain ⟨l1, l2⟩ := id hl
    have hx : iv (12 * m + b0) / iv 12 = iv m := (by rw [iv_div (by omega) (by omega) (by omega) (by omega)]; congr 1; omega)
    have hxm : rmI (iv (12 * m + b0)) (iv 12) = iv b0 := (by rw [rm_iv (by omega) (by omega) (by omega) (by omega)]; congr 1; omega)
    cases t with
    | nil => exact hT.elim
    | cons e t =>
      obtain ⟨p, q, s⟩ := e
      obtain ⟨t1, t2, t3, t4, t5⟩ := hT
      obtain ⟨u1, u2, u3, u4⟩ := hH
      have M1 := (((hN.oth (a := 117) (i := g.toNat) (v := iv x) (by omega) (by omega)).oth (a := 118) (i := g.toNat) (v := iv y) (by omega) (by omega)).oth (a := 119) (i := g.toNat) (v := iv z) (by omega) (by omega))
      obtain ⟨h', f1, f2, f3, f4, f5⟩ := ih N (by omega) _ c (g + 1) (x - p) (y - q) (z - s) t M1 (by omega) (by omega) t5 (by rw [show 12 * b0 + 3 * (g + 1) = 12 * b0 + 3 * g + 3 by omega]; exact u4)
      have n0 := M1.2.2 (12 * b0 + 3 * g) (by omega)
      have n1 := M1.2.2 (12 * b0 + 3 * g + 1) (by omega)
      have n2 := M1.2.2 (12 * b0 + 3 * g + 2) (by omega)
      rw [u1] at n0
      rw [u2] at n1
      rw [u3] at n2
      refine ⟨h', ?_, f2, ⟨?_, ?_, ?_, f3⟩, fun i i0 i1 => ?_, fun a j ha => by rw [f5 a j ha, gI_sIo _ _ (Or.inl (by omega)), gI_sIo _ _ (Or.inl (by omega)), gI_sIo _ _ (Or.inl (by omega))]⟩
      · rw [← f1]
        simp -implicitDefEqProofs (disch := omega) only [lp_succ, F_b_X12_rests_35, K91 hF, R91_1 hF, K92 hF, N92 hF, RR_Gr hR, R91_30 hF, R91_31 hF, R91_32 hF, R91_29 hF, K116 hF, N116 hF, K117 hF, N117 hF, K118 hF, N118 hF, K119 hF, N119 hF, gK_sI, gN_sI, gR_sI, hx, hxm, n0, n1, n2, iv_add, iv_sub, iv_mul, iv_neg, iv_zero, iv_ltT, iv_ltF, iv_leT, iv_leF, iv_eqT, iv_eqF, iv_div, rm_iv, tn_iv, ib_iv, some_cb, some_cbv, ↓nm_eq, ↓reduceIte, true_and, and_true, Bool.true_eq_false, Bool.false_eq_true, not_false_eq_true, not_true_eq_false]
      · rw [(f4 g g0 (by omega)).1, gI_sIo _ _ (Or.inl (by decide)), gI_sIo _ _ (Or.inl (by decide)), gI_sIs]
      · rw [(f4 g g0 (by omega)).2.1, gI_sIo _ _ (Or.inl (by decide)), gI_sIs]
      · rw [(f4 g g0 (by omega)).2.2, gI_sIs]
      · obtain ⟨v1, v2, v3⟩ := f4 i i0 (by omega)
        rw [v1, v2, v3]
        exact ⟨by rw [gI_sIo _ _ (Or.inl (by decide)), gI_sIo _ _ (Or.inl (by decide)), gI_sIo _ _ (Or.inr (by omega))], by rw [gI_sIo _ _ (Or.inl (by decide)), gI_sIo _ _ (Or.inr (by omega)), gI_sIo _ _ (Or.inl (by decide))], by rw [gI_sIo _ _ (Or.inr (by omega)), gI_sIo _ _ (Or.inl (by decide)), gI_sIo _ _ (Or.inl (by decide))]⟩
theorem RT_congr {hh h' : AH} (H : ∀ (a i : Nat), a ≠ 116 → gI h' a i = gI hh a i) : ∀ (t : List TR) (g a b c : Int), RT hh g t a b c → RT h' g t a b c := by
  intro t
  induction t with
  | nil => intro g a b c _; exact trivial
  | cons e t ih =>
    intro g a b c q
    obtain ⟨x, y, z⟩ := e
    obtain ⟨q1, q2, q3, q4⟩ := q
    exact ⟨by rw [H _ _ (by decide), q1], by rw [H _ _ (by decide), q2], by rw [H _ _ (by decide), q3], ih _ _ _ _ q4⟩
theorem TOk_rng : ∀ (rs : List Int) (a b c : Int) (t : List TR), TOk rs a b c t → 0 ≤ a ∧ 0 ≤ b ∧ 0 ≤ c ∧ a + b + c = sumL rs ∧ t.length = rs.length := by
  intro rs
  induction rs with
  | nil => intro a b c t h; obtain ⟨h1, h2, h3, h4⟩ := h; subst h1; exact ⟨by omega, by omega, by omega, by show a + b + c = 0; omega, rfl⟩
  | cons r rs ih =>
    intro a b c t h
    cases t with
    | nil => exact h.elim
    | cons e t =>
      obtain ⟨p, q, s⟩ := e
      obtain ⟨h1, h2, h3, h4, h5⟩ := h
      obtain ⟨q1, q2, q3, q4, q5⟩ := ih _ _ _ _ h5
      exact ⟨by omega, by omega, by omega, by show a + b + c = r + sumL rs; omega, by rw [List.length_cons, List.length_cons, q5]⟩
theorem nxt_one {r a b c : Int} {t : List TR} (h : TOk [r] a b c t) : nxt1 [r] a b c t = none := by
  cases t with
  | nil => exact h.elim
  | cons e t =>
    obtain ⟨p, q, s⟩ := e
    obtain ⟨h1, h2, h3, h4, h5, h6, h7, h8⟩ := h
    subst h5
    show (if q + 1 ≤ min (r - p) b then _ else if p + 1 ≤ min r a then _ else none) = none
    rw [if_neg (by omega), if_neg (by omega)]
/- the loop over groups, from the last but one down to g -/
set_option maxRecDepth 100000 in
theorem q_next17 {m b0 : Int} (hl : lvM w m) (b00 : 0 ≤ b0) (tb : b0 < wBx w m) (hN : NS w A h hh c) : ∀ (n : Nat) (g x y z : Int) (t : List TR), 0 ≤ g → g + (n + 1) = wGr w m → TOk (rwL w (12 * m + b0) g (n + 1)) x y z t → HT c (12 * b0 + 3 * g) t → RT hh g t x y z → x ≤ 1000 → y ≤ 1000 → z ≤ 1000 → ∀ N : Nat, n < N →
    match nxt1 (rwL w (12 * m + b0) g (n + 1)) x y z t with
    | some t' => ∃ (h' : AH) (c' : Int → Int), lp b_X12_nextTable_17 (fun _ _ _ _ => none) N 91 (iv (12 * m + b0)) (iv (wGr w m - 2)) hh = some (iv 1, h') ∧ NS w A h h' c' ∧ HT c' (12 * b0 + 3 * g) t' ∧ (∀ i : Int, (i < 12 * b0 + 3 * g ∨ 12 * b0 + 12 ≤ i) → c' i = c i) ∧ ∀ (a j : Nat), a ≠ 116 → gI h' a j = gI hh a j
    | none => lp b_X12_nextTable_17 (fun _ _ _ _ => none) N 91 (iv (12 * m + b0)) (iv (wGr w m - 2)) hh = lp b_X12_nextTable_17 (fun _ _ _ _ => none) (N - n) 91 (iv (12 * m + b0)) (iv (g - 1)) hh := by
  have hF := hN.2.1.F
  have hR := hN.2.1.R
  have hW := hN.2.1.W
  obtain ⟨⟨w1, w2⟩, -⟩ := id hW
  obtain ⟨⟨gg1, gg2⟩, -, ⟨b2, b3⟩, -⟩ := hW.mat hl
  obtain ⟨l1, l2⟩ := id hl
  have hx : iv (12 * m + b0) / iv 12 = iv m := (by rw [iv_div (by omega) (by omega) (by omega) (by omega)]; congr 1; omega)
  have hxm : rmI (iv (12 * m + b0)) (iv 12) = iv b0 := (by rw [rm_iv (by omega) (by omega) (by omega) (by omega)]; congr 1; omega)
  intro n
  induction n with
  | zero =>
    intro g x y z t g0 hg hT hH hr x1 y1 z1 N hn
    rw [rw1] at hT ⊢
    rw [nxt_one hT]
    show _ = _
    rw [show wGr w m - 2 = g - 1 by omega, Nat.sub_zero]
  | succ n ih =>
    intro g x y z t g0 hg hT hH hr x1 y1 z1 N hn
    have hT0 := hT
    cases t with
    | nil => exact hT.elim
    | cons e t =>
      obtain ⟨p, q, s⟩ := e
      obtain ⟨t1, t2, t3, t4, t5⟩ := hT
      obtain ⟨u1, u2, u3, u4⟩ := hH
      obtain ⟨r1, r2, r3, r4⟩ := hr
      obtain ⟨k1, k2, k3, k4, k5⟩ := TOk_rng _ _ _ _ _ t5
      have rg := oB_g (hW.box hl b00 tb) (g := g) g0 (by omega) (by omega)
      have hi := ih (g + 1) (x - p) (y - q) (z - s) t (by omega) (by omega) t5 (by rw [show 12 * b0 + 3 * (g + 1) = 12 * b0 + 3 * g + 3 by omega]; exact u4) r4 (by omega) (by omega) (by omega) N (by omega)
      show (match nxt1 (wG w (12 * m + b0) g :: rwL w (12 * m + b0) (g + 1) (n + 1)) x y z ((p, q, s) :: t) with | some t' => _ | none => _)
      rw [nxt1_cons, show wG w (12 * m + b0) g - p - q = s by omega]
      cases hx1 : nxt1 (rwL w (12 * m + b0) (g + 1) (n + 1)) (x - p) (y - q) (z - s) t with
      | some t' =>
        rw [hx1] at hi
        obtain ⟨h', c', f1, f2, f3, f4, f5⟩ := hi
        refine ⟨h', c', f1, f2, ⟨?_, ?_, ?_, ?_⟩, fun i hi => f4 i (by omega), f5⟩
        · rw [f4 _ (by omega), u1]
        · rw [f4 _ (by omega), u2]
        · rw [f4 _ (by omega), u3]
        · rw [show 12 * b0 + 3 * g + 3 = 12 * b0 + 3 * (g + 1) by omega]; exact f3
      | none =>
        rw [hx1] at hi
        have hi : lp b_X12_nextTable_17 (fun _ _ _ _ => none) N 91 (iv (12 * m + b0)) (iv (wGr w m - 2)) hh = lp b_X12_nextTable_17 (fun _ _ _ _ => none) (N - n) 91 (iv (12 * m + b0)) (iv (g + 1 - 1)) hh := hi
        rw [show g + 1 - 1 = g by omega, show N - n = (N - (n + 1)) + 1 by omega] at hi
        have n0 := hN.2.2 (12 * b0 + 3 * g) (by omega)
        have n1 := hN.2.2 (12 * b0 + 3 * g + 1) (by omega)
        rw [u1] at n0
        rw [u2] at n1
        /- a row found: laid, and the lowest behind it -/
        have good : ∀ p' q' : Int, 0 ≤ p' → 0 ≤ q' → p' ≤ min (wG w (12 * m + b0) g) x → q' ≤ min (wG w (12 * m + b0) g - p') y → wG w (12 * m + b0) g - p' - q' ≤ z → ∃ (h' : AH) (c' : Int → Int), f_X12_nextTable_105 (lp b_X12_nextTable_17 (fun _ _ _ _ => none) (N - (n + 1))) 91 (iv (12 * m + b0)) (iv g) (iv (wG w (12 * m + b0) g)) (iv p') (iv q') hh = some (iv 1, h') ∧ NS w A h h' c' ∧ HT c' (12 * b0 + 3 * g) (ahd (wG w (12 * m + b0) g) (rwL w (12 * m + b0) (g + 1) (n + 1)) x y z p' q') ∧ (∀ i : Int, (i < 12 * b0 + 3 * g ∨ 12 * b0 + 12 ≤ i) → c' i = c i) ∧ ∀ (a j : Nat), a ≠ 116 → gI h' a j = gI hh a j := by
          intro p' q' p0 q0 p1 q1 hz
          have hN1 := hN.ly (z := 12 * b0 + 3 * g) (by omega) p' q' (wG w (12 * m + b0) g - p' - q')
          obtain ⟨h', c', f1, f2, f3, f4, f5⟩ := q_lowest14 hl b00 tb (n + 1) FU (FU_gt (by omega)) _ _ (g + 1) (x - p') (y - q') (z - (wG w (12 * m + b0) g - p' - q')) hN1 (by omega) (by omega) (by omega) (by omega) (by omega) (by omega) (by omega) (by omega) (by omega)
          have hF1 := hN1.2.1.F
          have v1 := LY_o hh (12 * b0 + 3 * g) p' q' (wG w (12 * m + b0) g - p' - q') (a := 117) g.toNat (by decide)
          have v2 := LY_o hh (12 * b0 + 3 * g) p' q' (wG w (12 * m + b0) g - p' - q') (a := 118) g.toNat (by decide)
          have v3 := LY_o hh (12 * b0 + 3 * g) p' q' (wG w (12 * m + b0) g - p' - q') (a := 119) g.toNat (by decide)
          rw [r1] at v1
          rw [r2] at v2
          rw [r3] at v3
          refine ⟨h', c', ?_, f2, ⟨?_, ?_, ?_, ?_⟩, fun i hi => ?_, fun a j ha => by rw [f5 a j ha, LY_o _ _ _ _ _ _ ha]⟩
          · simp -implicitDefEqProofs (disch := omega) only [k_X12_nextTable_105_1, k_X12_nextTable_105_2, k_X12_nextTable_105_3, k_X12_nextTable_105_4, F_f_X12_nextTable_105, k_X12_nextTable_17_1, k_X12_nextTable_17_2, k_X12_lowest_14_1, k_X12_lowest_14_2, k_X12_lowest_14_3, F_b_X12_lowest_14, F_f_X12_lowest, f_X12_lowest_14, K91 hF, K91 hF1, R91_30 hF, R91_31 hF, R91_32 hF, R91_30 hF1, R91_31 hF1, R91_32 hF1, K117 hF, N117 hF, K118 hF, N118 hF, K119 hF, N119 hF, K117 hF1, N117 hF1, K118 hF1, N118 hF1, K119 hF1, N119 hF1, r1, r2, r3, v1, v2, v3, hxm, q_lesser, q_lays hN.2.1.Q, f1, zret1, iv_add, iv_sub, iv_mul, iv_neg, iv_zero, iv_ltT, iv_ltF, iv_leT, iv_leF, iv_eqT, iv_eqF, iv_div, rm_iv, tn_iv, ib_iv, some_cb, some_cbv, ↓nm_eq, ↓reduceIte, true_and, and_true, Bool.true_eq_false, Bool.false_eq_true, not_false_eq_true, not_true_eq_false]
          · rw [f4 _ (by omega), ly_0]
          · rw [f4 _ (by omega), ly_1]
          · rw [f4 _ (by omega), ly_2]
          · rw [show 12 * b0 + 3 * g + 3 = 12 * b0 + 3 * (g + 1) by omega]; exact f3
          · rw [f4 i (by omega), ly_o c (by omega)]
        by_cases z1 : q + 1 ≤ min (wG w (12 * m + b0) g - p) y
        · show (match (if _ then _ else _ : Option (List TR)) with | some t' => _ | none => _)
          rw [if_pos z1]
          obtain ⟨h', c', f1, f2, f3, f4, f5⟩ := good p (q + 1) (by omega) (by omega) (by omega) (by omega) (by omega)
          refine ⟨h', c', ?_, f2, f3, f4, f5⟩
          rw [hi, ← f1]
          simp -implicitDefEqProofs (disch := omega) only [lp_succ, F_b_X12_nextTable_17, k_X12_nextTable_17_1, k_X12_nextTable_17_2, K91 hF, R91_4 hF, K95 hF, N95 hF, RR_G hR, R91_29 hF, K116 hF, N116 hF, R91_31 hF, R91_32 hF, K118 hF, N118 hF, K119 hF, N119 hF, r2, r3, hxm, n0, n1, q_lesser, q_greater, iv_add, iv_sub, iv_mul, iv_neg, iv_zero, iv_ltT, iv_ltF, iv_leT, iv_leF, iv_eqT, iv_eqF, iv_div, rm_iv, tn_iv, ib_iv, some_cb, some_cbv, ↓nm_eq, ↓reduceIte, true_and, and_true, Bool.true_eq_false, Bool.false_eq_true, not_false_eq_true, not_true_eq_false]
        · show (match (if _ then _ else if _ then _ else _ : Option (List TR)) with | some t' => _ | none => _)
          rw [if_neg z1]
          by_cases z2 : p + 1 ≤ min (wG w (12 * m + b0) g) x
          · rw [if_pos z2]
            obtain ⟨h', c', f1, f2, f3, f4, f5⟩ := good (p + 1) (max 0 (wG w (12 * m + b0) g - (p + 1) - z)) (by omega) (by omega) (by omega) (by omega) (by omega)
            refine ⟨h', c', ?_, f2, f3, f4, f5⟩
            rw [hi, ← f1]
            simp -implicitDefEqProofs (disch := omega) only [lp_succ, F_b_X12_nextTable_17, k_X12_nextTable_17_1, k_X12_nextTable_17_2, K91 hF, R91_4 hF, K95 hF, N95 hF, RR_G hR, R91_29 hF, K116 hF, N116 hF, R91_31 hF, R91_32 hF, K118 hF, N118 hF, K119 hF, N119 hF, r2, r3, hxm, n0, n1, q_lesser, q_greater, iv_add, iv_sub, iv_mul, iv_neg, iv_zero, iv_ltT, iv_ltF, iv_leT, iv_leF, iv_eqT, iv_eqF, iv_div, rm_iv, tn_iv, ib_iv, some_cb, some_cbv, ↓nm_eq, ↓reduceIte, true_and, and_true, Bool.true_eq_false, Bool.false_eq_true, not_false_eq_true, not_true_eq_false]
          · rw [if_neg z2]
            show _ = _
            rw [hi]
            simp -implicitDefEqProofs (disch := omega) only [lp_succ, F_b_X12_nextTable_17, k_X12_nextTable_17_1, k_X12_nextTable_17_2, F_f_X12_nextTable_105, k_X12_nextTable_105_4, K91 hF, R91_4 hF, K95 hF, N95 hF, RR_G hR, R91_29 hF, K116 hF, N116 hF, R91_30 hF, R91_31 hF, R91_32 hF, K117 hF, N117 hF, K118 hF, N118 hF, K119 hF, N119 hF, r1, r2, r3, hxm, n0, n1, q_lesser, q_greater, iv_add, iv_sub, iv_mul, iv_neg, iv_zero, iv_ltT, iv_ltF, iv_leT, iv_leF, iv_eqT, iv_eqF, iv_div, rm_iv, tn_iv, ib_iv, some_cb, some_cbv, ↓nm_eq, ↓reduceIte, true_and, and_true, Bool.true_eq_false, Bool.false_eq_true, not_false_eq_true, not_true_eq_false]
            rfl
end Q
