noncomputable def mvRow (w : WD) (s i m x g : Int) (rest : Int) : Nat → Int → Int
  | 0, _ => rest
  | n + 1, k => @ite Int (wrong0 w s i m x g k) (Classical.propDecidable _) (10 * g + k) (mvRow w s i m x g rest n (k + 1))
noncomputable def mvAll (w : WD) (s i m x : Int) : Nat → Int → Int
  | 0, _ => -2
  | n + 1, g => mvRow w s i m x g (mvAll w s i m x n (g + 1)) (wCh w m).toNat 0
section Q
variable {w : WD} {A : Int → Nat} {h : AH}
theorem mvRow_pos {s i m x g rest : Int} {n : Nat} {k : Int} (h : wrong0 w s i m x g k) : mvRow w s i m x g rest (n + 1) k = 10 * g + k := if_pos h
theorem mvRow_neg {s i m x g rest : Int} {n : Nat} {k : Int} (h : ¬ wrong0 w s i m x g k) : mvRow w s i m x g rest (n + 1) k = mvRow w s i m x g rest n (k + 1) := if_neg h
theorem mvRow_rng {s i m x g rest : Int} (g0 : 0 ≤ g ∧ g ≤ 3) (hr : rest = -2 ∨ (0 ≤ rest ∧ rest ≤ 99)) : ∀ (n : Nat) (k : Int), 0 ≤ k → k + n ≤ 3 → mvRow w s i m x g rest n k = -2 ∨ (0 ≤ mvRow w s i m x g rest n k ∧ mvRow w s i m x g rest n k ≤ 99) := by
  intro n
  induction n with
  | zero => intro k _ _; exact hr
  | succ n ih =>
    intro k k0 hk
    by_cases z : wrong0 w s i m x g k
    · rw [mvRow_pos z]; omega
    · rw [mvRow_neg z]; exact ih (k + 1) (by omega) (by omega)
theorem mvAll_rng (w : WD) (s i m x : Int) (hC : wCh w m ≤ 3) : ∀ (n : Nat) (g : Int), 0 ≤ g → g + n ≤ 4 → mvAll w s i m x n g = -2 ∨ (0 ≤ mvAll w s i m x n g ∧ mvAll w s i m x n g ≤ 99) := by
  intro n
  induction n with
  | zero => intro g _ _; exact Or.inl rfl
  | succ n ih => intro g g0 hg; exact mvRow_rng (by omega) (ih (g + 1) (by omega) (by omega)) _ 0 (by omega) (by omega)
theorem gc_bd {w : WD} {m : Int} (hm : matOK w m) : 4 ≤ wGr w m * wCh w m ∧ wGr w m * wCh w m ≤ 12 := by
  obtain ⟨⟨gg1, gg2⟩, ⟨gc1, gc2⟩, -⟩ := hm
  rcases (show wCh w m = 2 ∨ wCh w m = 3 by omega) with z | z <;> rw [z] <;> omega
set_option maxRecDepth 100000 in
theorem c_mayAll (hS : Sim w A h) {a : Nat} {s i m b0 : Int} (hl : lvM w m) (b00 : 0 ≤ b0) (tb : b0 < wBx w m) (s0 : 0 ≤ s ∧ s < 6) (i0 : 0 ≤ i) (i1 : i + wGr w m * wCh w m ≤ 60) (sk1 : gK h a = 2) (sn1 : gN h a = 60) (sd : ∀ z : Int, 0 ≤ z → z < 60 → gJ h a z.toNat = sEl w (60 * s + z)) : ∀ (n N : Nat), n < N → ∀ g : Int, 0 ≤ g → g + n = wGr w m → lp b_X0_firstWrongCell_2 (fun _ _ _ _ _ => none) N (A (10 + (12 * m + b0))) a (iv i) (iv g) h = some (iv (mvAll w s i m (12 * m + b0) n g), h) := by
  obtain ⟨⟨gg1, gg2⟩, ⟨gc1, gc2⟩, -⟩ := hS.W.mat hl
  have hB := hS.B hl b00 tb
  have hM := hS.M hl
  intro n
  induction n with
  | zero =>
    intro N hN; obtain ⟨N, rfl⟩ : ∃ N', N = N' + 1 := ⟨N - 1, (by omega)⟩
    intro g g0 hg
    show _ = some (iv (-2), h)
    simp -implicitDefEqProofs (disch := omega) only [lp_succ, F_b_X0_firstWrongCell_2, oB_k hB, oB_0 hB, oM_k hM, oM_0 hM, iv_add, iv_sub, iv_mul, iv_neg, iv_zero, iv_ltT, iv_ltF, iv_leT, iv_leF, iv_eqT, iv_eqF, iv_div, rm_iv, tn_iv, ib_iv, some_cb, some_cbv, ↓nm_eq, ↓reduceIte, true_and, and_true, Bool.true_eq_false, Bool.false_eq_true, not_false_eq_true, not_true_eq_false]
  | succ n ih =>
    intro N hN; obtain ⟨N, rfl⟩ : ∃ N', N = N' + 1 := ⟨N - 1, (by omega)⟩
    intro g g0 hg
    have hi := ih N (by omega) (g + 1) (by omega) (by omega)
    have row : ∀ (k N' : Nat), k < N' → ∀ j : Int, 0 ≤ j → j + k = wCh w m → lp (b_X0_firstWrongCell_16 (lp b_X0_firstWrongCell_2 (fun _ _ _ _ _ => none) N)) (fun _ _ _ _ _ _ => none) N' (A (10 + (12 * m + b0))) a (iv i) (iv g) (iv j) h = some (iv (mvRow w s i m (12 * m + b0) g (mvAll w s i m (12 * m + b0) n (g + 1)) k j), h) := by
      intro k
      induction k with
      | zero =>
        intro N hN; obtain ⟨N, rfl⟩ : ∃ N', N = N' + 1 := ⟨N - 1, (by omega)⟩
        intro j j0 hj
        show _ = some (iv (mvAll w s i m (12 * m + b0) n (g + 1)), h)
        rw [← hi]
        simp -implicitDefEqProofs (disch := omega) only [lp_succ, F_b_X0_firstWrongCell_16, oB_k hB, oB_0 hB, oM_k hM, oM_1 hM, iv_add, iv_sub, iv_mul, iv_neg, iv_zero, iv_ltT, iv_ltF, iv_leT, iv_leF, iv_eqT, iv_eqF, iv_div, rm_iv, tn_iv, ib_iv, some_cb, some_cbv, ↓nm_eq, ↓reduceIte, true_and, and_true, Bool.true_eq_false, Bool.false_eq_true, not_false_eq_true, not_true_eq_false]
      | succ k ihk =>
        intro N hN; obtain ⟨N, rfl⟩ : ∃ N', N = N' + 1 := ⟨N - 1, (by omega)⟩
        intro j j0 hj
        by_cases z : wrong0 w s i m (12 * m + b0) g j
        · rw [mvRow_pos z, lp_succ]
          exact (c_cell hS _ _ hl b00 tb s0 (g := g) (k := j) (by omega) (by omega) i0 i1 sk1 sn1 sd).1 z
        · rw [mvRow_neg z, lp_succ, (c_cell hS _ _ hl b00 tb s0 (g := g) (k := j) (by omega) (by omega) i0 i1 sk1 sn1 sd).2 z]
          exact ihk _ (by omega) (j + 1) (by omega) (by omega)
    have r0 := row (wCh w m).toNat FU (FU_gt (by omega)) 0 (by omega) (by omega)
    show _ = some (iv (mvRow w s i m (12 * m + b0) g (mvAll w s i m (12 * m + b0) n (g + 1)) (wCh w m).toNat 0), h)
    rw [← r0]
    simp -implicitDefEqProofs (disch := omega) only [lp_succ, F_b_X0_firstWrongCell_2, f_X0_firstWrongCell_16, oB_k hB, oB_0 hB, oM_k hM, oM_0 hM, iv_add, iv_sub, iv_mul, iv_neg, iv_zero, iv_ltT, iv_ltF, iv_leT, iv_leF, iv_eqT, iv_eqF, iv_div, rm_iv, tn_iv, ib_iv, some_cb, some_cbv, ↓nm_eq, ↓reduceIte, true_and, and_true, Bool.true_eq_false, Bool.false_eq_true, not_false_eq_true, not_true_eq_false]
set_option maxRecDepth 100000 in
theorem q_mayAll (hS : QS w h) {s i m b0 : Int} (hl : lvM w m) (b00 : 0 ≤ b0) (tb : b0 < wBx w m) (s0 : 0 ≤ s ∧ s < 6) (i0 : 0 ≤ i) (i1 : i + wGr w m * wCh w m ≤ 60) : ∀ (n N : Nat), n < N → ∀ g : Int, 0 ≤ g → g + n = wGr w m → lp b_X12_mayNot_9 (fun _ _ _ _ _ _ _ => none) N 91 (iv (12 * m + b0)) (iv s) (iv i) (iv m) (iv g) h = some (iv (mvAll w s i m (12 * m + b0) n g), h) := by
  have hF := hS.F
  have hR := hS.R
  obtain ⟨⟨w1, w2⟩, -⟩ := hS.W
  obtain ⟨⟨gg1, gg2⟩, ⟨gc1, gc2⟩, -⟩ := hS.W.mat hl
  obtain ⟨l1, l2⟩ := id hl
  intro n
  induction n with
  | zero =>
    intro N hN; obtain ⟨N, rfl⟩ : ∃ N', N = N' + 1 := ⟨N - 1, (by omega)⟩
    intro g g0 hg
    show _ = some (iv (-2), h)
    simp -implicitDefEqProofs (disch := omega) only [lp_succ, F_b_X12_mayNot_9, K91 hF, R91_1 hF, K92 hF, N92 hF, RR_Gr hR, iv_add, iv_sub, iv_mul, iv_neg, iv_zero, iv_ltT, iv_ltF, iv_leT, iv_leF, iv_eqT, iv_eqF, iv_div, rm_iv, tn_iv, ib_iv, some_cb, some_cbv, ↓nm_eq, ↓reduceIte, true_and, and_true, Bool.true_eq_false, Bool.false_eq_true, not_false_eq_true, not_true_eq_false]
  | succ n ih =>
    intro N hN; obtain ⟨N, rfl⟩ : ∃ N', N = N' + 1 := ⟨N - 1, (by omega)⟩
    intro g g0 hg
    have hi := ih N (by omega) (g + 1) (by omega) (by omega)
    have hgc : wCh w m * g + wCh w m ≤ wGr w m * wCh w m := by
      have : (g + 1) * wCh w m ≤ wGr w m * wCh w m := Int.mul_le_mul_of_nonneg_right (by omega) (by omega)
      rw [Int.add_mul, Int.one_mul, Int.mul_comm g] at this
      exact this
    have row : ∀ (k N' : Nat), k < N' → ∀ j : Int, 0 ≤ j → j + k = wCh w m → lp (b_X12_mayNot_24 (lp b_X12_mayNot_9 (fun _ _ _ _ _ _ _ => none) N)) (fun _ _ _ _ _ _ _ _ => none) N' 91 (iv (12 * m + b0)) (iv s) (iv i) (iv m) (iv g) (iv j) h = some (iv (mvRow w s i m (12 * m + b0) g (mvAll w s i m (12 * m + b0) n (g + 1)) k j), h) := by
      intro k
      induction k with
      | zero =>
        intro N hN; obtain ⟨N, rfl⟩ : ∃ N', N = N' + 1 := ⟨N - 1, (by omega)⟩
        intro j j0 hj
        show _ = some (iv (mvAll w s i m (12 * m + b0) n (g + 1)), h)
        rw [← hi]
        simp -implicitDefEqProofs (disch := omega) only [lp_succ, F_b_X12_mayNot_24, K91 hF, R91_2 hF, K93 hF, N93 hF, RR_Ch hR, iv_add, iv_sub, iv_mul, iv_neg, iv_zero, iv_ltT, iv_ltF, iv_leT, iv_leF, iv_eqT, iv_eqF, iv_div, rm_iv, tn_iv, ib_iv, some_cb, some_cbv, ↓nm_eq, ↓reduceIte, true_and, and_true, Bool.true_eq_false, Bool.false_eq_true, not_false_eq_true, not_true_eq_false]
      | succ k ihk =>
        intro N hN; obtain ⟨N, rfl⟩ : ∃ N', N = N' + 1 := ⟨N - 1, (by omega)⟩
        intro j j0 hj
        by_cases z : wrong0 w s i m (12 * m + b0) g j
        · rw [mvRow_pos z, lp_succ]
          exact (q_cell hS _ _ hl b00 tb s0 (g := g) (k := j) (by omega) (by omega) i0 (by omega)).1 z
        · rw [mvRow_neg z, lp_succ, (q_cell hS _ _ hl b00 tb s0 (g := g) (k := j) (by omega) (by omega) i0 (by omega)).2 z]
          exact ihk _ (by omega) (j + 1) (by omega) (by omega)
    have r0 := row (wCh w m).toNat FU (FU_gt (by omega)) 0 (by omega) (by omega)
    show _ = some (iv (mvRow w s i m (12 * m + b0) g (mvAll w s i m (12 * m + b0) n (g + 1)) (wCh w m).toNat 0), h)
    rw [← r0]
    simp -implicitDefEqProofs (disch := omega) only [lp_succ, F_b_X12_mayNot_9, f_X12_mayNot_24, K91 hF, R91_1 hF, K92 hF, N92 hF, RR_Gr hR, iv_add, iv_sub, iv_mul, iv_neg, iv_zero, iv_ltT, iv_ltF, iv_leT, iv_leF, iv_eqT, iv_eqF, iv_div, rm_iv, tn_iv, ib_iv, some_cb, some_cbv, ↓nm_eq, ↓reduceIte, true_and, and_true, Bool.true_eq_false, Bool.false_eq_true, not_false_eq_true, not_true_eq_false]
end Q
