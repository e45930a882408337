theorem or_iv0 (x : Int32) : x ||| iv 0 = x := Int32.or_zero
theorem or_01 : iv 0 ||| iv 1 = iv 1 := by decide
theorem or_11 : iv 1 ||| iv 1 = iv 1 := by decide
section Q
variable {w : WD} {A : Int → Nat} {h : AH}
set_option maxRecDepth 100000 in
theorem c_cell (hS : Sim w A h) {a : Nat} {s i m b0 g k : Int} (k2 : Nat → Nat → Int32 → Int32 → AH → Option (Int32 × AH)) (self : Nat → Nat → Int32 → Int32 → Int32 → AH → Option (Int32 × AH)) (hl : lvM w m) (b00 : 0 ≤ b0) (tb : b0 < wBx w m) (s0 : 0 ≤ s ∧ s < 6) (g0 : 0 ≤ g ∧ g < wGr w m) (c0 : 0 ≤ k ∧ k < wCh w m) (i0 : 0 ≤ i) (i1 : i + wGr w m * wCh w m ≤ 60) (sk1 : gK h a = 2) (sn1 : gN h a = 60) (sd : ∀ z : Int, 0 ≤ z → z < 60 → gJ h a z.toNat = sEl w (60 * s + z)) : (wrong0 w s i m (12 * m + b0) g k → b_X0_firstWrongCell_16 k2 self (A (10 + (12 * m + b0))) a (iv i) (iv g) (iv k) h = some (iv (10 * g + k), h)) ∧ (¬ wrong0 w s i m (12 * m + b0) g k → b_X0_firstWrongCell_16 k2 self (A (10 + (12 * m + b0))) a (iv i) (iv g) (iv k) h = self (A (10 + (12 * m + b0))) a (iv i) (iv g) (iv (k + 1)) h) := by
  obtain ⟨⟨gg1, gg2⟩, ⟨gc1, gc2⟩, -⟩ := hS.W.mat hl
  have hB := hS.B hl b00 tb
  have hM := hS.M hl
  have hV := hS.W.box hl b00 tb
  obtain ⟨v1, v2⟩ := oB_g hV g0.1 g0.2 (by omega)
  obtain ⟨v3, v4⟩ := oB_c hV c0.1 (by omega)
  have gc : ∀ x : Int, 0 ≤ x → x < wGr w m → 0 ≤ x * wCh w m ∧ x * wCh w m + wCh w m ≤ wGr w m * wCh w m := fun x x0 x1 => by
    have r1 : 0 ≤ x * wCh w m := Int.mul_nonneg x0 (by omega)
    have r2 : (x + 1) * wCh w m ≤ wGr w m * wCh w m := Int.mul_le_mul_of_nonneg_right (by omega) (by omega)
    rw [Int.add_mul, Int.one_mul] at r2
    exact ⟨r1, r2⟩
  obtain ⟨r1, r2⟩ := gc g g0.1 g0.2
  have el : ∀ x y : Int, 0 ≤ x → x < wGr w m → 0 ≤ y → y < wCh w m → gJ h a (i + x * wCh w m + y).toNat = wrE w s i m x y := fun x y x0 x1 y0 y1 => by
    obtain ⟨q1, q2⟩ := gc x x0 x1
    rw [sd _ (by omega) (by omega)]
    unfold wrE
    congr 1
    rw [Int.mul_comm (wCh w m) x]
    omega
  have hrow : f_X0_rowSum (A (10 + (12 * m + b0))) a (iv i) (iv g) h = some (wrR w s i m g, h) := by
    have := c_rowSum (h := h) (C := 0) (f := fun k => wrE w s i m g k) (oB_k hB) (oB_0 hB) (oM_k hM) (oM_1 hM) sk1 sn1 ⟨gc1, gc2⟩ (g := g) (by omega) i0 (by omega) (fun y y0 y1 => el g y g0.1 g0.2 y0 y1) (wCh w m).toNat FU (FU_gt (by omega)) 0 (jv 0) (by omega) (by omega)
    simp -implicitDefEqProofs (disch := omega) only [F_f_X0_rowSum, f_X0_rowSum_6, this, iv_add, iv_sub, iv_mul, iv_neg, iv_zero, iv_ltT, iv_ltF, iv_leT, iv_leF, iv_eqT, iv_eqF, iv_div, rm_iv, tn_iv, ib_iv, some_cb, some_cbv, ↓nm_eq, ↓reduceIte, true_and, and_true, Bool.true_eq_false, Bool.false_eq_true, not_false_eq_true, not_true_eq_false]
    rfl
  have hcol : f_X0_columnSum (A (10 + (12 * m + b0))) a (iv i) (iv k) h = some (wrK w s i m k, h) := by
    have := c_colSum (h := h) (f := fun g => wrE w s i m g k) (oB_k hB) (oB_0 hB) (oM_k hM) (oM_1 hM) (oM_0 hM) sk1 sn1 ⟨gc1, gc2⟩ ⟨gg1, gg2⟩ c0 i0 i1 (fun x x0 x1 => el x k x0 x1 c0.1 c0.2) (wGr w m).toNat FU (FU_gt (by omega)) 0 (jv 0) (by omega) (by omega)
    simp -implicitDefEqProofs (disch := omega) only [F_f_X0_columnSum, f_X0_columnSum_6, this, iv_add, iv_sub, iv_mul, iv_neg, iv_zero, iv_ltT, iv_ltF, iv_leT, iv_leF, iv_eqT, iv_eqF, iv_div, rm_iv, tn_iv, ib_iv, some_cb, some_cbv, ↓nm_eq, ↓reduceIte, true_and, and_true, Bool.true_eq_false, Bool.false_eq_true, not_false_eq_true, not_true_eq_false]
    rfl
  have f141_0 : f_X0_firstWrongCell_141 k2 self (A (10 + (12 * m + b0))) a (iv i) (iv g) (iv k) (iv 0) h = self (A (10 + (12 * m + b0))) a (iv i) (iv g) (iv (k + 1)) h := by
    simp -implicitDefEqProofs (disch := omega) only [F_f_X0_firstWrongCell_141, iv_add, iv_sub, iv_mul, iv_neg, iv_zero, iv_ltT, iv_ltF, iv_leT, iv_leF, iv_eqT, iv_eqF, iv_div, rm_iv, tn_iv, ib_iv, some_cb, some_cbv, ↓nm_eq, ↓reduceIte, true_and, and_true, Bool.true_eq_false, Bool.false_eq_true, not_false_eq_true, not_true_eq_false]
  have f141_1 : f_X0_firstWrongCell_141 k2 self (A (10 + (12 * m + b0))) a (iv i) (iv g) (iv k) (iv 1) h = some (iv (10 * g + k), h) := by
    simp -implicitDefEqProofs (disch := omega) only [F_f_X0_firstWrongCell_141, iv_add, iv_sub, iv_mul, iv_neg, iv_zero, iv_ltT, iv_ltF, iv_leT, iv_leF, iv_eqT, iv_eqF, iv_div, rm_iv, tn_iv, ib_iv, some_cb, some_cbv, ↓nm_eq, ↓reduceIte, true_and, and_true, Bool.true_eq_false, Bool.false_eq_true, not_false_eq_true, not_true_eq_false]
  have hp1 : gI h (A (10 + (12 * m + b0)) + 1) g.toNat = iv (wG w (12 * m + b0) g) := oB_dg hB g0.1 g0.2 (by omega)
  have f98_1 : f_X0_firstWrongCell_98 k2 self (A (10 + (12 * m + b0))) a (iv i) (iv g) (iv k) (iv 1) h = some (iv (10 * g + k), h) := by
    rw [← f141_1]
    by_cases y3 : g = wGr w m - 1
    · by_cases y4 : lg_cmp (wrK w s i m k) (jv (wC w (12 * m + b0) k)) = iv 0
      · have y4' := eq_true y4
        simp -implicitDefEqProofs (disch := omega) only [F_f_X0_firstWrongCell_98, k_X0_firstWrongCell_98_1, k_X0_firstWrongCell_54_1, oB_k hB, oB_0 hB, oB_1 hB, oB_2 hB, oB_3 hB, oB_4 hB, oB_k1 hB, oB_n1 hB, oB_k2 hB, oB_n2 hB, oB_k3 hB, oB_n3 hB, oB_k4 hB, oB_n4 hB, oB_5 hB, oB_6 hB, oB_7 hB, oB_d1 hB, oB_d2 hB, wP_lt, oM_k hM, oM_0 hM, hcol, iv_l, y4', or_iv0, or_11, iv_add, iv_sub, iv_mul, iv_neg, iv_zero, iv_ltT, iv_ltF, iv_leT, iv_leF, iv_eqT, iv_eqF, iv_div, rm_iv, tn_iv, ib_iv, some_cb, some_cbv, ↓nm_eq, ↓reduceIte, true_and, and_true, Bool.true_eq_false, Bool.false_eq_true, not_false_eq_true, not_true_eq_false]
      · have y4' := eq_false y4
        simp -implicitDefEqProofs (disch := omega) only [F_f_X0_firstWrongCell_98, k_X0_firstWrongCell_98_1, k_X0_firstWrongCell_54_1, oB_k hB, oB_0 hB, oB_1 hB, oB_2 hB, oB_3 hB, oB_4 hB, oB_k1 hB, oB_n1 hB, oB_k2 hB, oB_n2 hB, oB_k3 hB, oB_n3 hB, oB_k4 hB, oB_n4 hB, oB_5 hB, oB_6 hB, oB_7 hB, oB_d1 hB, oB_d2 hB, wP_lt, oM_k hM, oM_0 hM, hcol, iv_l, y4', or_iv0, or_11, iv_add, iv_sub, iv_mul, iv_neg, iv_zero, iv_ltT, iv_ltF, iv_leT, iv_leF, iv_eqT, iv_eqF, iv_div, rm_iv, tn_iv, ib_iv, some_cb, some_cbv, ↓nm_eq, ↓reduceIte, true_and, and_true, Bool.true_eq_false, Bool.false_eq_true, not_false_eq_true, not_true_eq_false]
    · simp -implicitDefEqProofs (disch := omega) only [F_f_X0_firstWrongCell_98, oB_k hB, oB_0 hB, oB_1 hB, oB_2 hB, oB_3 hB, oB_4 hB, oB_k1 hB, oB_n1 hB, oB_k2 hB, oB_n2 hB, oB_k3 hB, oB_n3 hB, oB_k4 hB, oB_n4 hB, oB_5 hB, oB_6 hB, oB_7 hB, oB_d1 hB, oB_d2 hB, wP_lt, oM_k hM, oM_0 hM, iv_add, iv_sub, iv_mul, iv_neg, iv_zero, iv_ltT, iv_ltF, iv_leT, iv_leF, iv_eqT, iv_eqF, iv_div, rm_iv, tn_iv, ib_iv, some_cb, some_cbv, ↓nm_eq, ↓reduceIte, true_and, and_true, Bool.true_eq_false, Bool.false_eq_true, not_false_eq_true, not_true_eq_false]
  have f98_0 : (¬ (g = wGr w m - 1 ∧ ¬ lg_cmp (wrK w s i m k) (jv (wC w (12 * m + b0) k)) = iv 0) → f_X0_firstWrongCell_98 k2 self (A (10 + (12 * m + b0))) a (iv i) (iv g) (iv k) (iv 0) h = self (A (10 + (12 * m + b0))) a (iv i) (iv g) (iv (k + 1)) h) ∧ ((g = wGr w m - 1 ∧ ¬ lg_cmp (wrK w s i m k) (jv (wC w (12 * m + b0) k)) = iv 0) → f_X0_firstWrongCell_98 k2 self (A (10 + (12 * m + b0))) a (iv i) (iv g) (iv k) (iv 0) h = some (iv (10 * g + k), h)) := by
    constructor
    · intro q
      rw [← f141_0]
      by_cases y3 : g = wGr w m - 1
      · have y4 : lg_cmp (wrK w s i m k) (jv (wC w (12 * m + b0) k)) = iv 0 := Classical.byContradiction (fun z => q ⟨y3, z⟩)
        have y4' := eq_true y4
        simp -implicitDefEqProofs (disch := omega) only [F_f_X0_firstWrongCell_98, k_X0_firstWrongCell_98_1, k_X0_firstWrongCell_54_1, oB_k hB, oB_0 hB, oB_1 hB, oB_2 hB, oB_3 hB, oB_4 hB, oB_k1 hB, oB_n1 hB, oB_k2 hB, oB_n2 hB, oB_k3 hB, oB_n3 hB, oB_k4 hB, oB_n4 hB, oB_5 hB, oB_6 hB, oB_7 hB, oB_d1 hB, oB_d2 hB, wP_lt, oM_k hM, oM_0 hM, hcol, iv_l, y4', or_iv0, or_01, iv_add, iv_sub, iv_mul, iv_neg, iv_zero, iv_ltT, iv_ltF, iv_leT, iv_leF, iv_eqT, iv_eqF, iv_div, rm_iv, tn_iv, ib_iv, some_cb, some_cbv, ↓nm_eq, ↓reduceIte, true_and, and_true, Bool.true_eq_false, Bool.false_eq_true, not_false_eq_true, not_true_eq_false]
      · simp -implicitDefEqProofs (disch := omega) only [F_f_X0_firstWrongCell_98, oB_k hB, oB_0 hB, oB_1 hB, oB_2 hB, oB_3 hB, oB_4 hB, oB_k1 hB, oB_n1 hB, oB_k2 hB, oB_n2 hB, oB_k3 hB, oB_n3 hB, oB_k4 hB, oB_n4 hB, oB_5 hB, oB_6 hB, oB_7 hB, oB_d1 hB, oB_d2 hB, wP_lt, oM_k hM, oM_0 hM, iv_add, iv_sub, iv_mul, iv_neg, iv_zero, iv_ltT, iv_ltF, iv_leT, iv_leF, iv_eqT, iv_eqF, iv_div, rm_iv, tn_iv, ib_iv, some_cb, some_cbv, ↓nm_eq, ↓reduceIte, true_and, and_true, Bool.true_eq_false, Bool.false_eq_true, not_false_eq_true, not_true_eq_false]
    · intro q
      rw [← f141_1]
      have y4' := eq_false q.2
      have y3 := q.1
      simp -implicitDefEqProofs (disch := omega) only [F_f_X0_firstWrongCell_98, k_X0_firstWrongCell_98_1, k_X0_firstWrongCell_54_1, oB_k hB, oB_0 hB, oB_1 hB, oB_2 hB, oB_3 hB, oB_4 hB, oB_k1 hB, oB_n1 hB, oB_k2 hB, oB_n2 hB, oB_k3 hB, oB_n3 hB, oB_k4 hB, oB_n4 hB, oB_5 hB, oB_6 hB, oB_7 hB, oB_d1 hB, oB_d2 hB, wP_lt, oM_k hM, oM_0 hM, hcol, iv_l, y4', or_iv0, or_01, iv_add, iv_sub, iv_mul, iv_neg, iv_zero, iv_ltT, iv_ltF, iv_leT, iv_leF, iv_eqT, iv_eqF, iv_div, rm_iv, tn_iv, ib_iv, some_cb, some_cbv, ↓nm_eq, ↓reduceIte, true_and, and_true, Bool.true_eq_false, Bool.false_eq_true, not_false_eq_true, not_true_eq_false]
  have f54 : ∀ v : Int, (v = 0 ∨ v = 1) → (¬ (k = wCh w m - 1 ∧ ¬ lg_cmp (wrR w s i m g) (jv (wG w (12 * m + b0) g)) = iv 0) ∧ f_X0_firstWrongCell_54 k2 self (A (10 + (12 * m + b0))) a (iv i) (iv g) (iv k) (iv v) h = f_X0_firstWrongCell_98 k2 self (A (10 + (12 * m + b0))) a (iv i) (iv g) (iv k) (iv v) h) ∨ (k = wCh w m - 1 ∧ ¬ lg_cmp (wrR w s i m g) (jv (wG w (12 * m + b0) g)) = iv 0) ∧ f_X0_firstWrongCell_54 k2 self (A (10 + (12 * m + b0))) a (iv i) (iv g) (iv k) (iv v) h = f_X0_firstWrongCell_98 k2 self (A (10 + (12 * m + b0))) a (iv i) (iv g) (iv k) (iv 1) h := by
    intro v hv
    by_cases y1 : k = wCh w m - 1
    · by_cases y2 : lg_cmp (wrR w s i m g) (jv (wG w (12 * m + b0) g)) = iv 0
      · left
        refine ⟨fun q => q.2 y2, ?_⟩
        have y2' := eq_true y2
        simp -implicitDefEqProofs (disch := omega) only [F_f_X0_firstWrongCell_54, k_X0_firstWrongCell_98_1, k_X0_firstWrongCell_54_1, oB_k hB, oB_0 hB, oB_1 hB, oB_k1 hB, oB_n1 hB, hp1, oM_k hM, oM_1 hM, hrow, iv_l, y2', or_iv0, iv_add, iv_sub, iv_mul, iv_neg, iv_zero, iv_ltT, iv_ltF, iv_leT, iv_leF, iv_eqT, iv_eqF, iv_div, rm_iv, tn_iv, ib_iv, some_cb, some_cbv, ↓nm_eq, ↓reduceIte, true_and, and_true, Bool.true_eq_false, Bool.false_eq_true, not_false_eq_true, not_true_eq_false]
      · right
        refine ⟨⟨y1, y2⟩, ?_⟩
        have y2' := eq_false y2
        rcases hv with e | e <;> subst e
        · simp -implicitDefEqProofs (disch := omega) only [F_f_X0_firstWrongCell_54, k_X0_firstWrongCell_98_1, k_X0_firstWrongCell_54_1, oB_k hB, oB_0 hB, oB_1 hB, oB_k1 hB, oB_n1 hB, hp1, oM_k hM, oM_1 hM, hrow, iv_l, y2', or_01, iv_add, iv_sub, iv_mul, iv_neg, iv_zero, iv_ltT, iv_ltF, iv_leT, iv_leF, iv_eqT, iv_eqF, iv_div, rm_iv, tn_iv, ib_iv, some_cb, some_cbv, ↓nm_eq, ↓reduceIte, true_and, and_true, Bool.true_eq_false, Bool.false_eq_true, not_false_eq_true, not_true_eq_false]
        · simp -implicitDefEqProofs (disch := omega) only [F_f_X0_firstWrongCell_54, k_X0_firstWrongCell_98_1, k_X0_firstWrongCell_54_1, oB_k hB, oB_0 hB, oB_1 hB, oB_k1 hB, oB_n1 hB, hp1, oM_k hM, oM_1 hM, hrow, iv_l, y2', or_11, iv_add, iv_sub, iv_mul, iv_neg, iv_zero, iv_ltT, iv_ltF, iv_leT, iv_leF, iv_eqT, iv_eqF, iv_div, rm_iv, tn_iv, ib_iv, some_cb, some_cbv, ↓nm_eq, ↓reduceIte, true_and, and_true, Bool.true_eq_false, Bool.false_eq_true, not_false_eq_true, not_true_eq_false]
    · left
      refine ⟨fun q => y1 q.1, ?_⟩
      simp -implicitDefEqProofs (disch := omega) only [F_f_X0_firstWrongCell_54, oB_k hB, oB_0 hB, oM_k hM, oM_1 hM, iv_add, iv_sub, iv_mul, iv_neg, iv_zero, iv_ltT, iv_ltF, iv_leT, iv_leF, iv_eqT, iv_eqF, iv_div, rm_iv, tn_iv, ib_iv, some_cb, some_cbv, ↓nm_eq, ↓reduceIte, true_and, and_true, Bool.true_eq_false, Bool.false_eq_true, not_false_eq_true, not_true_eq_false]
  have he := el g k g0.1 g0.2 c0.1 c0.2
  have head1 : iv 0 ≤ lg_cmp (wrE w s i m g k) (jv 0) → b_X0_firstWrongCell_16 k2 self (A (10 + (12 * m + b0))) a (iv i) (iv g) (iv k) h = f_X0_firstWrongCell_54 k2 self (A (10 + (12 * m + b0))) a (iv i) (iv g) (iv k) (iv 0) h := fun z => by
    have z' := eq_true z
    simp -implicitDefEqProofs (disch := omega) only [F_b_X0_firstWrongCell_16, oB_k hB, oB_0 hB, oM_k hM, oM_1 hM, sk1, sn1, he, z', iv_add, iv_sub, iv_mul, iv_neg, iv_zero, iv_ltT, iv_ltF, iv_leT, iv_leF, iv_eqT, iv_eqF, iv_div, rm_iv, tn_iv, ib_iv, some_cb, some_cbv, ↓nm_eq, ↓reduceIte, true_and, and_true, Bool.true_eq_false, Bool.false_eq_true, not_false_eq_true, not_true_eq_false]
  have head0 : ¬ iv 0 ≤ lg_cmp (wrE w s i m g k) (jv 0) → b_X0_firstWrongCell_16 k2 self (A (10 + (12 * m + b0))) a (iv i) (iv g) (iv k) h = f_X0_firstWrongCell_54 k2 self (A (10 + (12 * m + b0))) a (iv i) (iv g) (iv k) (iv 1) h := fun z => by
    have z' := eq_false z
    simp -implicitDefEqProofs (disch := omega) only [F_b_X0_firstWrongCell_16, oB_k hB, oB_0 hB, oM_k hM, oM_1 hM, sk1, sn1, he, z', iv_add, iv_sub, iv_mul, iv_neg, iv_zero, iv_ltT, iv_ltF, iv_leT, iv_leF, iv_eqT, iv_eqF, iv_div, rm_iv, tn_iv, ib_iv, some_cb, some_cbv, ↓nm_eq, ↓reduceIte, true_and, and_true, Bool.true_eq_false, Bool.false_eq_true, not_false_eq_true, not_true_eq_false]
  constructor
  · intro hw
    by_cases z : iv 0 ≤ lg_cmp (wrE w s i m g k) (jv 0)
    · rw [head1 z]
      by_cases y : k = wCh w m - 1 ∧ ¬ lg_cmp (wrR w s i m g) (jv (wG w (12 * m + b0) g)) = iv 0
      · rcases f54 0 (Or.inl rfl) with ⟨q, -⟩ | ⟨-, e⟩
        · exact absurd y q
        · rw [e]; exact f98_1
      · rcases f54 0 (Or.inl rfl) with ⟨-, e⟩ | ⟨q, -⟩
        · rw [e]
          refine f98_0.2 ?_
          rcases hw with q | q | q
          · exact absurd z q
          · exact absurd q y
          · exact q
        · exact absurd q y
    · rw [head0 z]
      rcases f54 1 (Or.inr rfl) with ⟨-, e⟩ | ⟨-, e⟩
      · rw [e]; exact f98_1
      · rw [e]; exact f98_1
  · intro hw
    have z : iv 0 ≤ lg_cmp (wrE w s i m g k) (jv 0) := Classical.byContradiction (fun q => hw (Or.inl q))
    rw [head1 z]
    rcases f54 0 (Or.inl rfl) with ⟨-, e⟩ | ⟨q, -⟩
    · rw [e]; exact f98_0.1 (fun q => hw (Or.inr (Or.inr q)))
    · exact absurd (Or.inr (Or.inl q)) hw
end Q
