/-! boxes that a line goes past -/
def wgB (w : WD) (m y : Int) (j : Int) : Prop := 1 ≤ wP w m (12 * m + j) 0 ∧ (y < wLe w m (12 * m + j) 0 0 * 1000 / wP w m (12 * m + j) 0 ∨ (wMo w m (12 * m + j) 0 0 * 1000 + wP w m (12 * m + j) 0 - 1) / wP w m (12 * m + j) 0 < y)
def wgI (w : WD) (m y j : Int) : Int := if 1 ≤ wP w m (12 * m + j) 0 ∧ (y < wLe w m (12 * m + j) 0 0 * 1000 / wP w m (12 * m + j) 0 ∨ (wMo w m (12 * m + j) 0 0 * 1000 + wP w m (12 * m + j) 0 - 1) / wP w m (12 * m + j) 0 < y) then 1 else 0
theorem wgI_1 {w : WD} {m y j : Int} (h : wgB w m y j) : wgI w m y j = 1 := if_pos h
theorem wgI_0 {w : WD} {m y j : Int} (h : ¬ wgB w m y j) : wgI w m y j = 0 := if_neg h
theorem wgI_n {w : WD} {m y j : Int} (h : ¬ wgI w m y j = 1) : wgI w m y j = 0 := by
  by_cases q : wgB w m y j
  · exact absurd (wgI_1 q) h
  · exact wgI_0 q
def wgR (w : WD) (m y i : Int) : Nat → Int → Int → Int
  | 0, _, c => if i = -1 then c else -1
  | k + 1, j, c => if wgI w m y j = 1 then (if c = i then j else wgR w m y i k (j + 1) (c + 1)) else wgR w m y i k (j + 1) c
section Q
variable {w : WD} {A : Int → Nat} {h h1 : AH} {m j y : Int}
theorem lw_rng (hW : WI w) (hl : lvM w m) (j0 : 0 ≤ j) (j1 : j < wBx w m) : (0 ≤ wP w m (12 * m + j) 0 ∧ wP w m (12 * m + j) 0 ≤ 99) ∧ (0 ≤ wLe w m (12 * m + j) 0 0 ∧ wLe w m (12 * m + j) 0 0 ≤ 99) ∧ (0 ≤ wMo w m (12 * m + j) 0 0 ∧ wMo w m (12 * m + j) 0 0 ≤ 99) := by
  obtain ⟨q1, q2, q3, q4, q5, q6, q7, -⟩ := hW.box hl j0 j1
  have gg := (hW.mat hl).1
  have p0 := q1 0 (by omega) (by omega)
  have p1 := q1 1 (by omega) (by omega)
  have p2 := q1 2 (by omega) (by omega)
  have p3 := q1 3 (by omega) (by omega)
  have c0 := q2 0 (by omega) (by omega)
  refine ⟨p0, ?_⟩
  unfold wLe wMo
  by_cases o : wO w (12 * m + j) = 1
  · rw [if_pos o, if_pos o]
    have := q7 o (3 * 0 + 0) (by omega) (by omega)
    omega
  · rw [if_neg o, if_neg o]
    omega
theorem bd_rng (hW : WI w) (hl : lvM w m) (j0 : 0 ≤ j) (j1 : j < wBx w m) (p : 1 ≤ wP w m (12 * m + j) 0) : (0 ≤ wLe w m (12 * m + j) 0 0 * 1000 / wP w m (12 * m + j) 0 ∧ wLe w m (12 * m + j) 0 0 * 1000 / wP w m (12 * m + j) 0 ≤ 100000) ∧ (0 ≤ (wMo w m (12 * m + j) 0 0 * 1000 + wP w m (12 * m + j) 0 - 1) / wP w m (12 * m + j) 0 ∧ (wMo w m (12 * m + j) 0 0 * 1000 + wP w m (12 * m + j) 0 - 1) / wP w m (12 * m + j) 0 ≤ 100000) := by
  obtain ⟨p1, p2, p3⟩ := lw_rng hW hl j0 j1
  have a1 := Int.ediv_le_self (wP w m (12 * m + j) 0) (show 0 ≤ wLe w m (12 * m + j) 0 0 * 1000 by omega)
  have a2 := Int.ediv_le_self (wP w m (12 * m + j) 0) (show 0 ≤ wMo w m (12 * m + j) 0 0 * 1000 + wP w m (12 * m + j) 0 - 1 by omega)
  have a3 := Int.ediv_nonneg (show 0 ≤ wLe w m (12 * m + j) 0 0 * 1000 by omega) (show 0 ≤ wP w m (12 * m + j) 0 by omega)
  have a4 := Int.ediv_nonneg (show 0 ≤ wMo w m (12 * m + j) 0 0 * 1000 + wP w m (12 * m + j) 0 - 1 by omega) (show 0 ≤ wP w m (12 * m + j) 0 by omega)
  omega
set_option maxRecDepth 100000 in
theorem c_beyond (hS : Sim w A h) (hl : lvM w m) (j0 : 0 ≤ j) (j1 : j < wBx w m) (y0 : -200000000 ≤ y) (y1 : y ≤ 200000000) : f_X0_isBeyondEnds (A (10 + (12 * m + j))) (iv y) h = some (iv (wgI w m y j), h) := by
  have hM := hS.M hl
  have hB := hS.B hl j0 j1
  obtain ⟨p1, p2, p3⟩ := lw_rng hS.W hl j0 j1
  obtain ⟨gg, gc, -⟩ := hS.W.mat hl
  have cl := c_least hS hl j0 j1 (g := 0) (k := 0) (by omega) (by omega) (by omega) (by omega)
  have cm := c_most hS hl j0 j1 (g := 0) (k := 0) (by omega) (by omega) (by omega) (by omega)
  rw [show (3 * 0 + 0 : Int) = 0 from rfl] at cl cm
  by_cases q : 1 ≤ wP w m (12 * m + j) 0
  · have bd := bd_rng hS.W hl j0 j1 q
    by_cases z1 : y < wLe w m (12 * m + j) 0 0 * 1000 / wP w m (12 * m + j) 0
    · rw [wgI_1 ⟨q, Or.inl z1⟩]
      simp -implicitDefEqProofs (disch := omega) only [k_X0_isBeyondEnds_1, k_X0_isBeyondEnds_2, F_f_X0_isBeyondEnds, oB_k hB, oB_1 hB, oB_k1 hB, oB_n1 hB, oB_d1 hB, cl, cm, zret0, zret1, iv_add, iv_sub, iv_mul, iv_neg, iv_zero, iv_ltT, iv_ltF, iv_leT, iv_leF, iv_eqT, iv_eqF, iv_div, rm_iv, tn_iv, ib_iv, some_cb, some_cbv, ↓nm_eq, ↓reduceIte, true_and, and_true, Bool.true_eq_false, Bool.false_eq_true, not_false_eq_true, not_true_eq_false]
    · by_cases z2 : (wMo w m (12 * m + j) 0 0 * 1000 + wP w m (12 * m + j) 0 - 1) / wP w m (12 * m + j) 0 < y
      · rw [wgI_1 ⟨q, Or.inr z2⟩]
        simp -implicitDefEqProofs (disch := omega) only [k_X0_isBeyondEnds_1, k_X0_isBeyondEnds_2, F_f_X0_isBeyondEnds, oB_k hB, oB_1 hB, oB_k1 hB, oB_n1 hB, oB_d1 hB, cl, cm, zret0, zret1, iv_add, iv_sub, iv_mul, iv_neg, iv_zero, iv_ltT, iv_ltF, iv_leT, iv_leF, iv_eqT, iv_eqF, iv_div, rm_iv, tn_iv, ib_iv, some_cb, some_cbv, ↓nm_eq, ↓reduceIte, true_and, and_true, Bool.true_eq_false, Bool.false_eq_true, not_false_eq_true, not_true_eq_false]
      · rw [wgI_0 (fun e => by have := e.2; omega)]
        simp -implicitDefEqProofs (disch := omega) only [k_X0_isBeyondEnds_1, k_X0_isBeyondEnds_2, F_f_X0_isBeyondEnds, oB_k hB, oB_1 hB, oB_k1 hB, oB_n1 hB, oB_d1 hB, cl, cm, zret0, zret1, iv_add, iv_sub, iv_mul, iv_neg, iv_zero, iv_ltT, iv_ltF, iv_leT, iv_leF, iv_eqT, iv_eqF, iv_div, rm_iv, tn_iv, ib_iv, some_cb, some_cbv, ↓nm_eq, ↓reduceIte, true_and, and_true, Bool.true_eq_false, Bool.false_eq_true, not_false_eq_true, not_true_eq_false]
  · rw [wgI_0 (fun e => q e.1)]
    simp -implicitDefEqProofs (disch := omega) only [k_X0_isBeyondEnds_1, k_X0_isBeyondEnds_2, F_f_X0_isBeyondEnds, oB_k hB, oB_1 hB, oB_k1 hB, oB_n1 hB, oB_d1 hB, cl, cm, zret0, zret1, iv_add, iv_sub, iv_mul, iv_neg, iv_zero, iv_ltT, iv_ltF, iv_leT, iv_leF, iv_eqT, iv_eqF, iv_div, rm_iv, tn_iv, ib_iv, some_cb, some_cbv, ↓nm_eq, ↓reduceIte, true_and, and_true, Bool.true_eq_false, Bool.false_eq_true, not_false_eq_true, not_true_eq_false]
set_option maxRecDepth 100000 in
theorem c_wrongs (hS : Sim w A h) (hl : lvM w m) {a : Nat} {i : Int} (ka : gK h a = 105) (ca : f_X5_at a (iv 1000) h = some (iv y, h)) (y0 : -200000000 ≤ y) (y1 : y ≤ 200000000) (i0 : -1 ≤ i) (i1 : i ≤ 2147483647) (k : Nat) : ∀ (N : Nat) (j c : Int), k < N → 0 ≤ j → j + k = wBx w m → 0 ≤ c → c ≤ j → lp b_X11_wrong_44 (fun _ _ _ _ _ _ => none) N (iv i) (A m) a (iv c) (iv j) h = some (iv (wgR w m y i k j c), h) := by
  have hM := hS.M hl
  have bb := (hS.W.mat hl).2.2.1
  induction k with
  | zero =>
    intro N j c hN j0 hj c0 c1
    obtain ⟨N, rfl⟩ : ∃ N', N = N' + 1 := ⟨N - 1, by omega⟩
    show _ = some (iv (if i = -1 then c else -1), h)
    by_cases q : i = -1
    · rw [if_pos q]
      simp -implicitDefEqProofs (disch := omega) only [lp_succ, F_b_X11_wrong_44, oM_k hM, oM_0 hM, oM_1 hM, oM_5 hM, oM_6 hM, oM_2 hM, oM_3 hM, oM_4 hM, oM_k1 hM, oM_n1 hM, oM_k2 hM, oM_n2 hM, oM_k3 hM, oM_n3 hM, oM_w hM, oM_b hM, oM_h hM, iv_add, iv_sub, iv_mul, iv_neg, iv_zero, iv_ltT, iv_ltF, iv_leT, iv_leF, iv_eqT, iv_eqF, iv_div, rm_iv, tn_iv, ib_iv, some_cb, some_cbv, ↓nm_eq, ↓reduceIte, true_and, and_true, Bool.true_eq_false, Bool.false_eq_true, not_false_eq_true, not_true_eq_false]
    · rw [if_neg q]
      simp -implicitDefEqProofs (disch := omega) only [lp_succ, F_b_X11_wrong_44, oM_k hM, oM_0 hM, oM_1 hM, oM_5 hM, oM_6 hM, oM_2 hM, oM_3 hM, oM_4 hM, oM_k1 hM, oM_n1 hM, oM_k2 hM, oM_n2 hM, oM_k3 hM, oM_n3 hM, oM_w hM, oM_b hM, oM_h hM, iv_add, iv_sub, iv_mul, iv_neg, iv_zero, iv_ltT, iv_ltF, iv_leT, iv_leF, iv_eqT, iv_eqF, iv_div, rm_iv, tn_iv, ib_iv, some_cb, some_cbv, ↓nm_eq, ↓reduceIte, true_and, and_true, Bool.true_eq_false, Bool.false_eq_true, not_false_eq_true, not_true_eq_false]
  | succ k ih =>
    intro N j c hN j0 hj c0 c1
    obtain ⟨N, rfl⟩ : ∃ N', N = N' + 1 := ⟨N - 1, by omega⟩
    have cb := c_beyond hS hl j0 (by omega) y0 y1
    have hB := hS.B hl j0 (by omega)
    show _ = some (iv (if wgI w m y j = 1 then (if c = i then j else wgR w m y i k (j + 1) (c + 1)) else wgR w m y i k (j + 1) c), h)
    by_cases z : wgI w m y j = 1
    · rw [z] at cb
      rw [if_pos z]
      by_cases q : c = i
      · rw [if_pos q]
        simp -implicitDefEqProofs (disch := omega) only [lp_succ, F_b_X11_wrong_44, k_X11_wrong_44_1, k_X11_wrong_44_2, oM_k hM, oM_0 hM, oM_1 hM, oM_5 hM, oM_6 hM, oM_2 hM, oM_3 hM, oM_4 hM, oM_k1 hM, oM_n1 hM, oM_k2 hM, oM_n2 hM, oM_k3 hM, oM_n3 hM, oM_w hM, oM_b hM, oM_h hM, oB_k hB, ka, ca, cb, iv_add, iv_sub, iv_mul, iv_neg, iv_zero, iv_ltT, iv_ltF, iv_leT, iv_leF, iv_eqT, iv_eqF, iv_div, rm_iv, tn_iv, ib_iv, some_cb, some_cbv, ↓nm_eq, ↓reduceIte, true_and, and_true, Bool.true_eq_false, Bool.false_eq_true, not_false_eq_true, not_true_eq_false]
      · rw [if_neg q]
        have ih' := ih N (j + 1) (c + 1) (by omega) (by omega) (by omega) (by omega) (by omega)
        rw [← ih']
        simp -implicitDefEqProofs (disch := omega) only [lp_succ, F_b_X11_wrong_44, k_X11_wrong_44_1, k_X11_wrong_44_2, oM_k hM, oM_0 hM, oM_1 hM, oM_5 hM, oM_6 hM, oM_2 hM, oM_3 hM, oM_4 hM, oM_k1 hM, oM_n1 hM, oM_k2 hM, oM_n2 hM, oM_k3 hM, oM_n3 hM, oM_w hM, oM_b hM, oM_h hM, oB_k hB, ka, ca, cb, iv_add, iv_sub, iv_mul, iv_neg, iv_zero, iv_ltT, iv_ltF, iv_leT, iv_leF, iv_eqT, iv_eqF, iv_div, rm_iv, tn_iv, ib_iv, some_cb, some_cbv, ↓nm_eq, ↓reduceIte, true_and, and_true, Bool.true_eq_false, Bool.false_eq_true, not_false_eq_true, not_true_eq_false]
    · rw [wgI_n z] at cb
      rw [if_neg z]
      have ih' := ih N (j + 1) c (by omega) (by omega) (by omega) (by omega) (by omega)
      rw [← ih']
      simp -implicitDefEqProofs (disch := omega) only [lp_succ, F_b_X11_wrong_44, k_X11_wrong_44_1, k_X11_wrong_44_2, oM_k hM, oM_0 hM, oM_1 hM, oM_5 hM, oM_6 hM, oM_2 hM, oM_3 hM, oM_4 hM, oM_k1 hM, oM_n1 hM, oM_k2 hM, oM_n2 hM, oM_k3 hM, oM_n3 hM, oM_w hM, oM_b hM, oM_h hM, oB_k hB, ka, ca, cb, iv_add, iv_sub, iv_mul, iv_neg, iv_zero, iv_ltT, iv_ltF, iv_leT, iv_leF, iv_eqT, iv_eqF, iv_div, rm_iv, tn_iv, ib_iv, some_cb, some_cbv, ↓nm_eq, ↓reduceIte, true_and, and_true, Bool.true_eq_false, Bool.false_eq_true, not_false_eq_true, not_true_eq_false]
set_option maxRecDepth 100000 in
theorem q_wrongs (hS : QS w h) (hl : lvM w m) {i : Int} (y0 : -200000000 ≤ y) (y1 : y ≤ 200000000) (i0 : -1 ≤ i) (i1 : i ≤ 2147483647) (k : Nat) : ∀ (N : Nat) (j c : Int), k < N → 0 ≤ j → j + k = wBx w m → 0 ≤ c → c ≤ j → lp b_X12_wrong_46 (fun _ _ _ _ _ _ _ => none) N 91 (iv m) (iv i) (jv y) (iv c) (iv j) h = some (iv (wgR w m y i k j c), h) := by
  have hF := hS.F
  have hR := hS.R
  obtain ⟨gg, gc, bb, -⟩ := hS.W.mat hl
  have l0 := hl.1
  have l4 : m < 4 := by have := hl.2; have := hS.W.1.2; omega
  induction k with
  | zero =>
    intro N j c hN j0 hj c0 c1
    obtain ⟨N, rfl⟩ : ∃ N', N = N' + 1 := ⟨N - 1, by omega⟩
    show _ = some (iv (if i = -1 then c else -1), h)
    by_cases q : i = -1
    · rw [if_pos q]
      simp -implicitDefEqProofs (disch := omega) only [lp_succ, F_b_X12_wrong_46, K91 hF, K92 hF, N92 hF, K93 hF, N93 hF, K94 hF, N94 hF, K95 hF, N95 hF, K96 hF, N96 hF, K97 hF, N97 hF, K98 hF, N98 hF, K99 hF, N99 hF, K100 hF, N100 hF, K101 hF, N101 hF, K102 hF, N102 hF, K103 hF, N103 hF, K104 hF, N104 hF, K105 hF, N105 hF, K106 hF, N106 hF, K107 hF, N107 hF, K108 hF, N108 hF, K109 hF, N109 hF, K110 hF, N110 hF, K111 hF, N111 hF, K112 hF, N112 hF, K113 hF, N113 hF, K114 hF, N114 hF, K115 hF, N115 hF, K116 hF, N116 hF, K117 hF, N117 hF, K118 hF, N118 hF, K119 hF, N119 hF, K120 hF, N120 hF, R91_1 hF, R91_2 hF, R91_3 hF, R91_4 hF, R91_5 hF, R91_6 hF, R91_7 hF, R91_8 hF, R91_9 hF, R91_10 hF, R91_11 hF, R91_12 hF, R91_13 hF, R91_14 hF, R91_15 hF, R91_16 hF, R91_17 hF, R91_18 hF, R91_21 hF, R91_22 hF, R91_24 hF, R91_25 hF, R91_26 hF, R91_27 hF, R91_29 hF, R91_30 hF, R91_31 hF, R91_32 hF, R91_44 hF, RR_M hR, RR_T hR, RR_K hR, RR_Bo hR, RR_Gr hR, RR_Ch hR, RR_Bx hR, RR_G hR, RR_C hR, RR_G0 hR, RR_C0 hR, RR_V hR, RR_O hR, RR_Se hR, RR_S2 hR, RR_L hR, RR_W hR, RR_H hR, RR_hSo hR, RR_hCe hR, RR_hBo hR, RR_hOt hR, RR_hMu hR, RR_Ta hR, RR_Ki hR, RR_Tr hR, RR_Is hR, RR_So hR, RR_Sz hR, RR_El hR, iv_add, iv_sub, iv_mul, iv_neg, iv_zero, iv_ltT, iv_ltF, iv_leT, iv_leF, iv_eqT, iv_eqF, iv_div, rm_iv, tn_iv, ib_iv, some_cb, some_cbv, ↓nm_eq, ↓reduceIte, true_and, and_true, Bool.true_eq_false, Bool.false_eq_true, not_false_eq_true, not_true_eq_false]
    · rw [if_neg q]
      simp -implicitDefEqProofs (disch := omega) only [lp_succ, F_b_X12_wrong_46, K91 hF, K92 hF, N92 hF, K93 hF, N93 hF, K94 hF, N94 hF, K95 hF, N95 hF, K96 hF, N96 hF, K97 hF, N97 hF, K98 hF, N98 hF, K99 hF, N99 hF, K100 hF, N100 hF, K101 hF, N101 hF, K102 hF, N102 hF, K103 hF, N103 hF, K104 hF, N104 hF, K105 hF, N105 hF, K106 hF, N106 hF, K107 hF, N107 hF, K108 hF, N108 hF, K109 hF, N109 hF, K110 hF, N110 hF, K111 hF, N111 hF, K112 hF, N112 hF, K113 hF, N113 hF, K114 hF, N114 hF, K115 hF, N115 hF, K116 hF, N116 hF, K117 hF, N117 hF, K118 hF, N118 hF, K119 hF, N119 hF, K120 hF, N120 hF, R91_1 hF, R91_2 hF, R91_3 hF, R91_4 hF, R91_5 hF, R91_6 hF, R91_7 hF, R91_8 hF, R91_9 hF, R91_10 hF, R91_11 hF, R91_12 hF, R91_13 hF, R91_14 hF, R91_15 hF, R91_16 hF, R91_17 hF, R91_18 hF, R91_21 hF, R91_22 hF, R91_24 hF, R91_25 hF, R91_26 hF, R91_27 hF, R91_29 hF, R91_30 hF, R91_31 hF, R91_32 hF, R91_44 hF, RR_M hR, RR_T hR, RR_K hR, RR_Bo hR, RR_Gr hR, RR_Ch hR, RR_Bx hR, RR_G hR, RR_C hR, RR_G0 hR, RR_C0 hR, RR_V hR, RR_O hR, RR_Se hR, RR_S2 hR, RR_L hR, RR_W hR, RR_H hR, RR_hSo hR, RR_hCe hR, RR_hBo hR, RR_hOt hR, RR_hMu hR, RR_Ta hR, RR_Ki hR, RR_Tr hR, RR_Is hR, RR_So hR, RR_Sz hR, RR_El hR, iv_add, iv_sub, iv_mul, iv_neg, iv_zero, iv_ltT, iv_ltF, iv_leT, iv_leF, iv_eqT, iv_eqF, iv_div, rm_iv, tn_iv, ib_iv, some_cb, some_cbv, ↓nm_eq, ↓reduceIte, true_and, and_true, Bool.true_eq_false, Bool.false_eq_true, not_false_eq_true, not_true_eq_false]
  | succ k ih =>
    intro N j c hN j0 hj c0 c1
    obtain ⟨N, rfl⟩ : ∃ N', N = N' + 1 := ⟨N - 1, by omega⟩
    obtain ⟨p1, p2, p3⟩ := lw_rng hS.W hl j0 (by omega)
    have eP : wP w m (12 * m + j) 0 = wG w (12 * m + j) 0 := if_pos (by omega)
    have ql := q_least hS hl j0 (show j < wBx w m by omega) (c := 0) (g := 0) (k := 0) (by omega) (by omega) rfl rfl (by omega) (by omega)
    have qm := q_most hS hl j0 (show j < wBx w m by omega) (c := 0) (g := 0) (k := 0) (by omega) (by omega) rfl rfl (by omega) (by omega)
    have wr : wgB w m y j ↔ (1 ≤ wG w (12 * m + j) 0 ∧ (y < wLe w m (12 * m + j) 0 0 * 1000 / wG w (12 * m + j) 0 ∨ (wMo w m (12 * m + j) 0 0 * 1000 + wG w (12 * m + j) 0 - 1) / wG w (12 * m + j) 0 < y)) := by
      unfold wgB
      rw [eP]
    show _ = some (iv (if wgI w m y j = 1 then (if c = i then j else wgR w m y i k (j + 1) (c + 1)) else wgR w m y i k (j + 1) c), h)
    rw [eP] at p1
    by_cases q : 1 ≤ wG w (12 * m + j) 0
    · have bd := bd_rng hS.W hl j0 (show j < wBx w m by omega) (by omega)
      rw [eP] at bd
      have d1 : jv (wLe w m (12 * m + j) 0 0 * 1000) / jv (wG w (12 * m + j) 0) = jv (wLe w m (12 * m + j) 0 0 * 1000 / wG w (12 * m + j) 0) := jv_div (by omega) (by omega) (by omega) (by omega)
      have d2 : jv (wMo w m (12 * m + j) 0 0 * 1000 + wG w (12 * m + j) 0 - 1) / jv (wG w (12 * m + j) 0) = jv ((wMo w m (12 * m + j) 0 0 * 1000 + wG w (12 * m + j) 0 - 1) / wG w (12 * m + j) 0) := jv_div (by omega) (by omega) (by omega) (by omega)
      have go : ∀ c' : Int, wgI w m y j = 1 → c' = c → c ≠ i → lp b_X12_wrong_46 (fun _ _ _ _ _ _ _ => none) N 91 (iv m) (iv i) (jv y) (iv (c + 1)) (iv (j + 1)) h = some (iv (wgR w m y i k (j + 1) (c + 1)), h) := fun _ _ _ _ => ih N (j + 1) (c + 1) (by omega) (by omega) (by omega) (by omega) (by omega)
      by_cases z1 : y < wLe w m (12 * m + j) 0 0 * 1000 / wG w (12 * m + j) 0
      · have wz := wgI_1 (wr.2 ⟨q, Or.inl z1⟩)
        rw [if_pos wz]
        by_cases e : c = i
        · rw [if_pos e]
          simp -implicitDefEqProofs (disch := omega) only [lp_succ, F_b_X12_wrong_46, k_X12_wrong_46_1, k_X12_wrong_46_2, F_f_X12_wrong_130, K91 hF, K92 hF, N92 hF, K93 hF, N93 hF, K94 hF, N94 hF, K95 hF, N95 hF, K96 hF, N96 hF, K97 hF, N97 hF, K98 hF, N98 hF, K99 hF, N99 hF, K100 hF, N100 hF, K101 hF, N101 hF, K102 hF, N102 hF, K103 hF, N103 hF, K104 hF, N104 hF, K105 hF, N105 hF, K106 hF, N106 hF, K107 hF, N107 hF, K108 hF, N108 hF, K109 hF, N109 hF, K110 hF, N110 hF, K111 hF, N111 hF, K112 hF, N112 hF, K113 hF, N113 hF, K114 hF, N114 hF, K115 hF, N115 hF, K116 hF, N116 hF, K117 hF, N117 hF, K118 hF, N118 hF, K119 hF, N119 hF, K120 hF, N120 hF, R91_1 hF, R91_2 hF, R91_3 hF, R91_4 hF, R91_5 hF, R91_6 hF, R91_7 hF, R91_8 hF, R91_9 hF, R91_10 hF, R91_11 hF, R91_12 hF, R91_13 hF, R91_14 hF, R91_15 hF, R91_16 hF, R91_17 hF, R91_18 hF, R91_21 hF, R91_22 hF, R91_24 hF, R91_25 hF, R91_26 hF, R91_27 hF, R91_29 hF, R91_30 hF, R91_31 hF, R91_32 hF, R91_44 hF, RR_M hR, RR_T hR, RR_K hR, RR_Bo hR, RR_Gr hR, RR_Ch hR, RR_Bx hR, RR_G hR, RR_C hR, RR_G0 hR, RR_C0 hR, RR_V hR, RR_O hR, RR_Se hR, RR_S2 hR, RR_L hR, RR_W hR, RR_H hR, RR_hSo hR, RR_hCe hR, RR_hBo hR, RR_hOt hR, RR_hMu hR, RR_Ta hR, RR_Ki hR, RR_Tr hR, RR_Is hR, RR_So hR, RR_Sz hR, RR_El hR, ql, qm, Int.mul_comm (1000 : Int), d1, d2, jv_eqF, iv_add, iv_sub, iv_mul, iv_neg, iv_zero, iv_ltT, iv_ltF, iv_leT, iv_leF, iv_eqT, iv_eqF, iv_div, rm_iv, tn_iv, ib_iv, lc_lt, lc_le, lc_gt, lc_ge, lc_eq, iv_l, jv_add, jv_sub, jv_mul, jv_zero, if_pos, if_neg, some_cb, some_cbv, ↓nm_eq, ↓reduceIte, true_and, and_true, Bool.true_eq_false, Bool.false_eq_true, not_false_eq_true, not_true_eq_false]
        · rw [if_neg e, ← go c wz rfl e]
          simp -implicitDefEqProofs (disch := omega) only [lp_succ, F_b_X12_wrong_46, k_X12_wrong_46_1, k_X12_wrong_46_2, F_f_X12_wrong_130, K91 hF, K92 hF, N92 hF, K93 hF, N93 hF, K94 hF, N94 hF, K95 hF, N95 hF, K96 hF, N96 hF, K97 hF, N97 hF, K98 hF, N98 hF, K99 hF, N99 hF, K100 hF, N100 hF, K101 hF, N101 hF, K102 hF, N102 hF, K103 hF, N103 hF, K104 hF, N104 hF, K105 hF, N105 hF, K106 hF, N106 hF, K107 hF, N107 hF, K108 hF, N108 hF, K109 hF, N109 hF, K110 hF, N110 hF, K111 hF, N111 hF, K112 hF, N112 hF, K113 hF, N113 hF, K114 hF, N114 hF, K115 hF, N115 hF, K116 hF, N116 hF, K117 hF, N117 hF, K118 hF, N118 hF, K119 hF, N119 hF, K120 hF, N120 hF, R91_1 hF, R91_2 hF, R91_3 hF, R91_4 hF, R91_5 hF, R91_6 hF, R91_7 hF, R91_8 hF, R91_9 hF, R91_10 hF, R91_11 hF, R91_12 hF, R91_13 hF, R91_14 hF, R91_15 hF, R91_16 hF, R91_17 hF, R91_18 hF, R91_21 hF, R91_22 hF, R91_24 hF, R91_25 hF, R91_26 hF, R91_27 hF, R91_29 hF, R91_30 hF, R91_31 hF, R91_32 hF, R91_44 hF, RR_M hR, RR_T hR, RR_K hR, RR_Bo hR, RR_Gr hR, RR_Ch hR, RR_Bx hR, RR_G hR, RR_C hR, RR_G0 hR, RR_C0 hR, RR_V hR, RR_O hR, RR_Se hR, RR_S2 hR, RR_L hR, RR_W hR, RR_H hR, RR_hSo hR, RR_hCe hR, RR_hBo hR, RR_hOt hR, RR_hMu hR, RR_Ta hR, RR_Ki hR, RR_Tr hR, RR_Is hR, RR_So hR, RR_Sz hR, RR_El hR, ql, qm, Int.mul_comm (1000 : Int), d1, d2, jv_eqF, iv_add, iv_sub, iv_mul, iv_neg, iv_zero, iv_ltT, iv_ltF, iv_leT, iv_leF, iv_eqT, iv_eqF, iv_div, rm_iv, tn_iv, ib_iv, lc_lt, lc_le, lc_gt, lc_ge, lc_eq, iv_l, jv_add, jv_sub, jv_mul, jv_zero, if_pos, if_neg, some_cb, some_cbv, ↓nm_eq, ↓reduceIte, true_and, and_true, Bool.true_eq_false, Bool.false_eq_true, not_false_eq_true, not_true_eq_false]
      · by_cases z2 : (wMo w m (12 * m + j) 0 0 * 1000 + wG w (12 * m + j) 0 - 1) / wG w (12 * m + j) 0 < y
        · have wz := wgI_1 (wr.2 ⟨q, Or.inr z2⟩)
          rw [if_pos wz]
          by_cases e : c = i
          · rw [if_pos e]
            simp -implicitDefEqProofs (disch := omega) only [lp_succ, F_b_X12_wrong_46, k_X12_wrong_46_1, k_X12_wrong_46_2, F_f_X12_wrong_130, K91 hF, K92 hF, N92 hF, K93 hF, N93 hF, K94 hF, N94 hF, K95 hF, N95 hF, K96 hF, N96 hF, K97 hF, N97 hF, K98 hF, N98 hF, K99 hF, N99 hF, K100 hF, N100 hF, K101 hF, N101 hF, K102 hF, N102 hF, K103 hF, N103 hF, K104 hF, N104 hF, K105 hF, N105 hF, K106 hF, N106 hF, K107 hF, N107 hF, K108 hF, N108 hF, K109 hF, N109 hF, K110 hF, N110 hF, K111 hF, N111 hF, K112 hF, N112 hF, K113 hF, N113 hF, K114 hF, N114 hF, K115 hF, N115 hF, K116 hF, N116 hF, K117 hF, N117 hF, K118 hF, N118 hF, K119 hF, N119 hF, K120 hF, N120 hF, R91_1 hF, R91_2 hF, R91_3 hF, R91_4 hF, R91_5 hF, R91_6 hF, R91_7 hF, R91_8 hF, R91_9 hF, R91_10 hF, R91_11 hF, R91_12 hF, R91_13 hF, R91_14 hF, R91_15 hF, R91_16 hF, R91_17 hF, R91_18 hF, R91_21 hF, R91_22 hF, R91_24 hF, R91_25 hF, R91_26 hF, R91_27 hF, R91_29 hF, R91_30 hF, R91_31 hF, R91_32 hF, R91_44 hF, RR_M hR, RR_T hR, RR_K hR, RR_Bo hR, RR_Gr hR, RR_Ch hR, RR_Bx hR, RR_G hR, RR_C hR, RR_G0 hR, RR_C0 hR, RR_V hR, RR_O hR, RR_Se hR, RR_S2 hR, RR_L hR, RR_W hR, RR_H hR, RR_hSo hR, RR_hCe hR, RR_hBo hR, RR_hOt hR, RR_hMu hR, RR_Ta hR, RR_Ki hR, RR_Tr hR, RR_Is hR, RR_So hR, RR_Sz hR, RR_El hR, ql, qm, Int.mul_comm (1000 : Int), d1, d2, jv_eqF, iv_add, iv_sub, iv_mul, iv_neg, iv_zero, iv_ltT, iv_ltF, iv_leT, iv_leF, iv_eqT, iv_eqF, iv_div, rm_iv, tn_iv, ib_iv, lc_lt, lc_le, lc_gt, lc_ge, lc_eq, iv_l, jv_add, jv_sub, jv_mul, jv_zero, if_pos, if_neg, some_cb, some_cbv, ↓nm_eq, ↓reduceIte, true_and, and_true, Bool.true_eq_false, Bool.false_eq_true, not_false_eq_true, not_true_eq_false]
          · rw [if_neg e, ← go c wz rfl e]
            simp -implicitDefEqProofs (disch := omega) only [lp_succ, F_b_X12_wrong_46, k_X12_wrong_46_1, k_X12_wrong_46_2, F_f_X12_wrong_130, K91 hF, K92 hF, N92 hF, K93 hF, N93 hF, K94 hF, N94 hF, K95 hF, N95 hF, K96 hF, N96 hF, K97 hF, N97 hF, K98 hF, N98 hF, K99 hF, N99 hF, K100 hF, N100 hF, K101 hF, N101 hF, K102 hF, N102 hF, K103 hF, N103 hF, K104 hF, N104 hF, K105 hF, N105 hF, K106 hF, N106 hF, K107 hF, N107 hF, K108 hF, N108 hF, K109 hF, N109 hF, K110 hF, N110 hF, K111 hF, N111 hF, K112 hF, N112 hF, K113 hF, N113 hF, K114 hF, N114 hF, K115 hF, N115 hF, K116 hF, N116 hF, K117 hF, N117 hF, K118 hF, N118 hF, K119 hF, N119 hF, K120 hF, N120 hF, R91_1 hF, R91_2 hF, R91_3 hF, R91_4 hF, R91_5 hF, R91_6 hF, R91_7 hF, R91_8 hF, R91_9 hF, R91_10 hF, R91_11 hF, R91_12 hF, R91_13 hF, R91_14 hF, R91_15 hF, R91_16 hF, R91_17 hF, R91_18 hF, R91_21 hF, R91_22 hF, R91_24 hF, R91_25 hF, R91_26 hF, R91_27 hF, R91_29 hF, R91_30 hF, R91_31 hF, R91_32 hF, R91_44 hF, RR_M hR, RR_T hR, RR_K hR, RR_Bo hR, RR_Gr hR, RR_Ch hR, RR_Bx hR, RR_G hR, RR_C hR, RR_G0 hR, RR_C0 hR, RR_V hR, RR_O hR, RR_Se hR, RR_S2 hR, RR_L hR, RR_W hR, RR_H hR, RR_hSo hR, RR_hCe hR, RR_hBo hR, RR_hOt hR, RR_hMu hR, RR_Ta hR, RR_Ki hR, RR_Tr hR, RR_Is hR, RR_So hR, RR_Sz hR, RR_El hR, ql, qm, Int.mul_comm (1000 : Int), d1, d2, jv_eqF, iv_add, iv_sub, iv_mul, iv_neg, iv_zero, iv_ltT, iv_ltF, iv_leT, iv_leF, iv_eqT, iv_eqF, iv_div, rm_iv, tn_iv, ib_iv, lc_lt, lc_le, lc_gt, lc_ge, lc_eq, iv_l, jv_add, jv_sub, jv_mul, jv_zero, if_pos, if_neg, some_cb, some_cbv, ↓nm_eq, ↓reduceIte, true_and, and_true, Bool.true_eq_false, Bool.false_eq_true, not_false_eq_true, not_true_eq_false]
        · have wz : ¬ wgI w m y j = 1 := fun e => by rw [wgI_0 (fun e => by have := (wr.1 e).2; omega)] at e; omega
          rw [if_neg wz, ← ih N (j + 1) c (by omega) (by omega) (by omega) (by omega) (by omega)]
          simp -implicitDefEqProofs (disch := omega) only [lp_succ, F_b_X12_wrong_46, k_X12_wrong_46_1, k_X12_wrong_46_2, F_f_X12_wrong_130, K91 hF, K92 hF, N92 hF, K93 hF, N93 hF, K94 hF, N94 hF, K95 hF, N95 hF, K96 hF, N96 hF, K97 hF, N97 hF, K98 hF, N98 hF, K99 hF, N99 hF, K100 hF, N100 hF, K101 hF, N101 hF, K102 hF, N102 hF, K103 hF, N103 hF, K104 hF, N104 hF, K105 hF, N105 hF, K106 hF, N106 hF, K107 hF, N107 hF, K108 hF, N108 hF, K109 hF, N109 hF, K110 hF, N110 hF, K111 hF, N111 hF, K112 hF, N112 hF, K113 hF, N113 hF, K114 hF, N114 hF, K115 hF, N115 hF, K116 hF, N116 hF, K117 hF, N117 hF, K118 hF, N118 hF, K119 hF, N119 hF, K120 hF, N120 hF, R91_1 hF, R91_2 hF, R91_3 hF, R91_4 hF, R91_5 hF, R91_6 hF, R91_7 hF, R91_8 hF, R91_9 hF, R91_10 hF, R91_11 hF, R91_12 hF, R91_13 hF, R91_14 hF, R91_15 hF, R91_16 hF, R91_17 hF, R91_18 hF, R91_21 hF, R91_22 hF, R91_24 hF, R91_25 hF, R91_26 hF, R91_27 hF, R91_29 hF, R91_30 hF, R91_31 hF, R91_32 hF, R91_44 hF, RR_M hR, RR_T hR, RR_K hR, RR_Bo hR, RR_Gr hR, RR_Ch hR, RR_Bx hR, RR_G hR, RR_C hR, RR_G0 hR, RR_C0 hR, RR_V hR, RR_O hR, RR_Se hR, RR_S2 hR, RR_L hR, RR_W hR, RR_H hR, RR_hSo hR, RR_hCe hR, RR_hBo hR, RR_hOt hR, RR_hMu hR, RR_Ta hR, RR_Ki hR, RR_Tr hR, RR_Is hR, RR_So hR, RR_Sz hR, RR_El hR, ql, qm, Int.mul_comm (1000 : Int), d1, d2, jv_eqF, iv_add, iv_sub, iv_mul, iv_neg, iv_zero, iv_ltT, iv_ltF, iv_leT, iv_leF, iv_eqT, iv_eqF, iv_div, rm_iv, tn_iv, ib_iv, lc_lt, lc_le, lc_gt, lc_ge, lc_eq, iv_l, jv_add, jv_sub, jv_mul, jv_zero, if_pos, if_neg, some_cb, some_cbv, ↓nm_eq, ↓reduceIte, true_and, and_true, Bool.true_eq_false, Bool.false_eq_true, not_false_eq_true, not_true_eq_false]
    · have wz : ¬ wgI w m y j = 1 := fun e => by rw [wgI_0 (fun e => q (wr.1 e).1)] at e; omega
      rw [if_neg wz, ← ih N (j + 1) c (by omega) (by omega) (by omega) (by omega) (by omega)]
      simp -implicitDefEqProofs (disch := omega) only [lp_succ, F_b_X12_wrong_46, k_X12_wrong_46_1, k_X12_wrong_46_2, K91 hF, K92 hF, N92 hF, K93 hF, N93 hF, K94 hF, N94 hF, K95 hF, N95 hF, K96 hF, N96 hF, K97 hF, N97 hF, K98 hF, N98 hF, K99 hF, N99 hF, K100 hF, N100 hF, K101 hF, N101 hF, K102 hF, N102 hF, K103 hF, N103 hF, K104 hF, N104 hF, K105 hF, N105 hF, K106 hF, N106 hF, K107 hF, N107 hF, K108 hF, N108 hF, K109 hF, N109 hF, K110 hF, N110 hF, K111 hF, N111 hF, K112 hF, N112 hF, K113 hF, N113 hF, K114 hF, N114 hF, K115 hF, N115 hF, K116 hF, N116 hF, K117 hF, N117 hF, K118 hF, N118 hF, K119 hF, N119 hF, K120 hF, N120 hF, R91_1 hF, R91_2 hF, R91_3 hF, R91_4 hF, R91_5 hF, R91_6 hF, R91_7 hF, R91_8 hF, R91_9 hF, R91_10 hF, R91_11 hF, R91_12 hF, R91_13 hF, R91_14 hF, R91_15 hF, R91_16 hF, R91_17 hF, R91_18 hF, R91_21 hF, R91_22 hF, R91_24 hF, R91_25 hF, R91_26 hF, R91_27 hF, R91_29 hF, R91_30 hF, R91_31 hF, R91_32 hF, R91_44 hF, RR_M hR, RR_T hR, RR_K hR, RR_Bo hR, RR_Gr hR, RR_Ch hR, RR_Bx hR, RR_G hR, RR_C hR, RR_G0 hR, RR_C0 hR, RR_V hR, RR_O hR, RR_Se hR, RR_S2 hR, RR_L hR, RR_W hR, RR_H hR, RR_hSo hR, RR_hCe hR, RR_hBo hR, RR_hOt hR, RR_hMu hR, RR_Ta hR, RR_Ki hR, RR_Tr hR, RR_Is hR, RR_So hR, RR_Sz hR, RR_El hR, iv_add, iv_sub, iv_mul, iv_neg, iv_zero, iv_ltT, iv_ltF, iv_leT, iv_leF, iv_eqT, iv_eqF, iv_div, rm_iv, tn_iv, ib_iv, some_cb, some_cbv, ↓nm_eq, ↓reduceIte, true_and, and_true, Bool.true_eq_false, Bool.false_eq_true, not_false_eq_true, not_true_eq_false]
/-- a line's height stays low -/
theorem lin_y {n sx sy s co : Int} (n0 : 1 ≤ n) (n1 : n ≤ 12) (x0 : 0 ≤ sx) (x1 : sx ≤ 12000) (y0 : 0 ≤ sy) (y1 : sy ≤ 12000) (s0 : 0 < s) (c0 : -(12000 * s) ≤ co) (c1 : co ≤ 12000 * s) : -200000000 ≤ (s * sy + co * (1000 * n - sx)) / (s * n) ∧ (s * sy + co * (1000 * n - sx)) / (s * n) ≤ 200000000 := by
  have r3 := mul_rng (a := co) (b := 1000 * n - sx) (A := 12000 * s) (B := 12000) (by omega) (by omega) (by omega) (by omega)
  have r1 : s * sy ≤ s * 12000 := Int.mul_le_mul_of_nonneg_left y1 (by omega)
  have r0 : 0 ≤ s * sy := Int.mul_nonneg (by omega) y0
  have r5 : 0 < s * n := Int.mul_pos s0 (by omega)
  have r6 : s * 1 ≤ s * n := Int.mul_le_mul_of_nonneg_left n0 (by omega)
  have hz : -(200000000 * (s * n)) ≤ s * sy + co * (1000 * n - sx) ∧ s * sy + co * (1000 * n - sx) ≤ 200000000 * (s * n) := by omega
  generalize s * n = d at *
  generalize s * sy + co * (1000 * n - sx) = z at *
  exact ⟨Int.le_ediv_of_mul_le r5 (by omega), Int.ediv_le_of_le_mul r5 (by omega)⟩
set_option maxRecDepth 100000 in
theorem M_wrong (hS : Sim w A h) (x1 x2 : Int32) : Both (f_X11_wrong 3 x1 x2) (f_X12_wrong 91 x1 x2) h := by
  obtain ⟨m, rfl, m1, m2⟩ := iv_ex x1
  obtain ⟨i, rfl, t1, t2⟩ := iv_ex x2
  have hF := hS.F
  have hR := hS.R
  have hG := hS.gc
  have gc0 : ¬ gC h = 0 := by omega
  by_cases hl : lvM w m
  · have hA := hS.aM hl
    have mA0 : ¬ A m = 0 := by omega
    by_cases hi : -1 ≤ i
    · have bb := (hS.W.mat hl).2.2.1
      obtain ⟨J, hJ⟩ : ∃ J : Nat, (J : Int) = wBx w m := ⟨(wBx w m).toNat, by omega⟩
      obtain ⟨h1, e1, L⟩ := c_line hS hl hJ
      have sim1 := hS.low L.1
      obtain ⟨h2, e2, s2, g36, g37, g38, g39, g40⟩ := q_draws sim1 hl hJ
      have hF2 := (sim1.sc s2).F
      obtain ⟨b1, b2, b3, b4, b5, b6⟩ := lin_all hS.W hl hJ
      obtain ⟨a1, a2, a3, a4, a5, a6, a7, a8, a9⟩ := id L
      have sp := c_spread a4 a5 a6 a8 (s := lSp w m J) rfl
      have hq := q_isMatter1 sim1.F sim1.R sim1.W m1 m2 hl
      have ext := LiC.ext L hS s2
      have exb : Exb h h1 := ⟨a1.2.1 2 (by have := hS.gc; omega), funext (fun i => a1.2.2.1 2 i (by have := hS.gc; omega)), K91 sim1.F⟩
      by_cases z : lSp w m J = 0
      · rw [z] at sp g37
        refine ⟨iv (-2), h1, h2, w, A, ?_, ?_, sim1.sc s2, ext, exb⟩
        · simp -implicitDefEqProofs (disch := omega) only [k_X11_wrong_44_1, k_X11_wrong_44_2, f_X11_wrong_44, k_X11_wrong_1, k_X11_wrong_2, k_X11_wrong_3, F_f_X11_wrong, k_X5_stands_1, F_f_X5_stands, K3 hF, c_matterAt1 hF hS.C hS.W, hl, mA0, gc0, gK_nws, nz105, e1, a4, sp, zret0, zret1, iv_add, iv_sub, iv_mul, iv_neg, iv_zero, iv_ltT, iv_ltF, iv_leT, iv_leF, iv_eqT, iv_eqF, iv_div, rm_iv, tn_iv, ib_iv, lc_lt, lc_le, lc_gt, lc_ge, lc_eq, iv_l, jv_add, jv_sub, jv_mul, jv_zero, if_pos, if_neg, some_cb, some_cbv, ↓nm_eq, ↓reduceIte, true_and, and_true, Bool.true_eq_false, Bool.false_eq_true, not_false_eq_true, not_true_eq_false]
        · simp -implicitDefEqProofs (disch := omega) only [F_f_X12_wrong_130, k_X12_wrong_46_1, k_X12_wrong_46_2, f_X12_wrong_46, k_X12_wrong_1, k_X12_wrong_2, k_X12_wrong_3, F_f_X12_wrong, hq, K91 sim1.F, e2, K91 hF2, g37, iv_add, iv_sub, iv_mul, iv_neg, iv_zero, iv_ltT, iv_ltF, iv_leT, iv_leF, iv_eqT, iv_eqF, iv_div, rm_iv, tn_iv, ib_iv, lc_lt, lc_le, lc_gt, lc_ge, lc_eq, iv_l, jv_add, jv_sub, jv_mul, jv_zero, if_pos, if_neg, some_cb, some_cbv, ↓nm_eq, ↓reduceIte, true_and, and_true, Bool.true_eq_false, Bool.false_eq_true, not_false_eq_true, not_true_eq_false]
      · have z' : 0 < lSp w m J := by omega
        obtain ⟨n1, c1, c2⟩ := b6 z'
        have ca := c_at a4 a5 a6 a7 a8 a9 (s := lSp w m J) (co := lCo w m J) (x := 1000) rfl rfl n1 b1.2 b2.1 b2.2 b3.1 b3.2 z' b4.2 b5.1 b5.2 (by omega) (by omega)
        have qa := q_at hF2 g36 g37 g38 g39 g40 n1 b1.2 b2.1 b2.2 b3.1 b3.2 z' b4.2 b5.1 b5.2 (show (0 : Int) ≤ 1000 by omega) (by omega)
        have ly := lin_y n1 b1.2 b2.1 b2.2 b3.1 b3.2 z' c1 c2
        generalize (lSp w m J * lSy w m J + lCo w m J * (1000 * lnN w m J - lSx w m J)) / (lSp w m J * lnN w m J) = y at *
        have cw := c_wrongs sim1 hl a4 ca ly.1 ly.2 hi t2 J FU 0 0 (FU_gt (by omega)) (by omega) (by omega) (by omega) (by omega)
        have qw := q_wrongs (sim1.sc s2).Q hl ly.1 ly.2 hi t2 J FU 0 0 (FU_gt (by omega)) (by omega) (by omega) (by omega) (by omega)
        refine ⟨iv (wgR w m y i J 0 0), h1, h2, w, A, ?_, ?_, sim1.sc s2, ext, exb⟩
        · simp -implicitDefEqProofs (disch := omega) only [k_X11_wrong_44_1, k_X11_wrong_44_2, f_X11_wrong_44, k_X11_wrong_1, k_X11_wrong_2, k_X11_wrong_3, F_f_X11_wrong, k_X5_stands_1, F_f_X5_stands, K3 hF, c_matterAt1 hF hS.C hS.W, hl, mA0, gc0, gK_nws, nz105, e1, a4, sp, cw, zret0, zret1, iv_add, iv_sub, iv_mul, iv_neg, iv_zero, iv_ltT, iv_ltF, iv_leT, iv_leF, iv_eqT, iv_eqF, iv_div, rm_iv, tn_iv, ib_iv, lc_lt, lc_le, lc_gt, lc_ge, lc_eq, iv_l, jv_add, jv_sub, jv_mul, jv_zero, if_pos, if_neg, some_cb, some_cbv, ↓nm_eq, ↓reduceIte, true_and, and_true, Bool.true_eq_false, Bool.false_eq_true, not_false_eq_true, not_true_eq_false]
        · simp -implicitDefEqProofs (disch := omega) only [F_f_X12_wrong_130, k_X12_wrong_46_1, k_X12_wrong_46_2, f_X12_wrong_46, k_X12_wrong_1, k_X12_wrong_2, k_X12_wrong_3, F_f_X12_wrong, hq, K91 sim1.F, e2, K91 hF2, g37, qa, qw, iv_add, iv_sub, iv_mul, iv_neg, iv_zero, iv_ltT, iv_ltF, iv_leT, iv_leF, iv_eqT, iv_eqF, iv_div, rm_iv, tn_iv, ib_iv, lc_lt, lc_le, lc_gt, lc_ge, lc_eq, iv_l, jv_add, jv_sub, jv_mul, jv_zero, if_pos, if_neg, some_cb, some_cbv, ↓nm_eq, ↓reduceIte, true_and, and_true, Bool.true_eq_false, Bool.false_eq_true, not_false_eq_true, not_true_eq_false]
    · have hq := q_isMatter1 hF hR hS.W m1 m2 hl
      exact Both.still hS (r := iv (-1)) (by simp -implicitDefEqProofs (disch := omega) only [k_X11_wrong_44_1, k_X11_wrong_44_2, f_X11_wrong_44, k_X11_wrong_1, k_X11_wrong_2, k_X11_wrong_3, F_f_X11_wrong, K3 hF, c_matterAt1 hF hS.C hS.W, hl, mA0, iv_add, iv_sub, iv_mul, iv_neg, iv_zero, iv_ltT, iv_ltF, iv_leT, iv_leF, iv_eqT, iv_eqF, iv_div, rm_iv, tn_iv, ib_iv, some_cb, some_cbv, ↓nm_eq, ↓reduceIte, true_and, and_true, Bool.true_eq_false, Bool.false_eq_true, not_false_eq_true, not_true_eq_false]) (by simp -implicitDefEqProofs (disch := omega) only [F_f_X12_wrong_130, k_X12_wrong_46_1, k_X12_wrong_46_2, f_X12_wrong_46, k_X12_wrong_1, k_X12_wrong_2, k_X12_wrong_3, F_f_X12_wrong, hq, K91 hF, iv_add, iv_sub, iv_mul, iv_neg, iv_zero, iv_ltT, iv_ltF, iv_leT, iv_leF, iv_eqT, iv_eqF, iv_div, rm_iv, tn_iv, ib_iv, some_cb, some_cbv, ↓nm_eq, ↓reduceIte, true_and, and_true, Bool.true_eq_false, Bool.false_eq_true, not_false_eq_true, not_true_eq_false])
  · have hq := q_isMatter0 hF hR hS.W m1 m2 hl
    exact Both.still hS (r := iv (-1)) (by simp -implicitDefEqProofs (disch := omega) only [k_X11_wrong_44_1, k_X11_wrong_44_2, f_X11_wrong_44, k_X11_wrong_1, k_X11_wrong_2, k_X11_wrong_3, F_f_X11_wrong, K3 hF, c_matterAt0 hF hS.C hS.W, hl, iv_add, iv_sub, iv_mul, iv_neg, iv_zero, iv_ltT, iv_ltF, iv_leT, iv_leF, iv_eqT, iv_eqF, iv_div, rm_iv, tn_iv, ib_iv, some_cb, some_cbv, ↓nm_eq, ↓reduceIte, true_and, and_true, Bool.true_eq_false, Bool.false_eq_true, not_false_eq_true, not_true_eq_false]) (by simp -implicitDefEqProofs (disch := omega) only [F_f_X12_wrong_130, k_X12_wrong_46_1, k_X12_wrong_46_2, f_X12_wrong_46, k_X12_wrong_1, k_X12_wrong_2, k_X12_wrong_3, F_f_X12_wrong, hq, K91 hF, iv_add, iv_sub, iv_mul, iv_neg, iv_zero, iv_ltT, iv_ltF, iv_leT, iv_leF, iv_eqT, iv_eqF, iv_div, rm_iv, tn_iv, ib_iv, some_cb, some_cbv, ↓nm_eq, ↓reduceIte, true_and, and_true, Bool.true_eq_false, Bool.false_eq_true, not_false_eq_true, not_true_eq_false])
end Q
