section Q
variable {w : WD} {A : Int → Nat} {h : AH}
set_option maxRecDepth 100000 in
theorem q_colSum (hS : QS w h) {x s i m g c : Int} {f : Int → Int64} {row : Int64} (k9 : Nat → Int32 → Int32 → Int32 → Int32 → Int32 → AH → Option (Int32 × AH)) (k24 : Nat → Int32 → Int32 → Int32 → Int32 → Int32 → Int32 → AH → Option (Int32 × AH)) (hl : lvM w m) (s0 : 0 ≤ s ∧ s < 6) (g0 : 0 ≤ g ∧ g ≤ 3) (c0 : 0 ≤ c ∧ c < wCh w m) (i0 : 0 ≤ i) (i1 : i + wCh w m * g + wCh w m ≤ 60) (hf : ∀ k : Int, 0 ≤ k → k ≤ g → sEl w (60 * s + i + wCh w m * k + c) = f k) : ∀ (n N : Nat), n < N → ∀ (b : Int) (r : Int64), 0 ≤ b → b + n = g + 1 → lp (b_X12_mayNot_134 k9 k24) (fun _ _ _ _ _ _ _ _ _ _ _ => none) N 91 (iv x) (iv s) (iv i) (iv m) (iv g) (iv c) row r (iv b) h = b_X12_mayNot_134 k9 k24 (fun _ _ _ _ _ _ _ _ _ _ _ => none) 91 (iv x) (iv s) (iv i) (iv m) (iv g) (iv c) row (aJ f r b n) (iv (g + 1)) h := by
  have hF := hS.F
  have hR := hS.R
  obtain ⟨⟨w1, w2⟩, -⟩ := hS.W
  obtain ⟨-, ⟨gc1, gc2⟩, -⟩ := hS.W.mat hl
  obtain ⟨l1, l2⟩ := id hl
  intro n
  induction n with
  | zero =>
    intro N hN; obtain ⟨N, rfl⟩ : ∃ N', N = N' + 1 := ⟨N - 1, (by omega)⟩
    intro b r b0 hb
    have hb : b = g + 1 := (by omega)
    subst hb
    show _ = b_X12_mayNot_134 k9 k24 (fun _ _ _ _ _ _ _ _ _ _ _ => none) 91 (iv x) (iv s) (iv i) (iv m) (iv g) (iv c) row r (iv (g + 1)) h
    simp -implicitDefEqProofs (disch := omega) only [lp_succ, F_b_X12_mayNot_134, iv_add, iv_sub, iv_mul, iv_neg, iv_zero, iv_ltT, iv_ltF, iv_leT, iv_leF, iv_eqT, iv_eqF, iv_div, rm_iv, tn_iv, ib_iv, some_cb, some_cbv, ↓nm_eq, ↓reduceIte, true_and, and_true, Bool.true_eq_false, Bool.false_eq_true, not_false_eq_true, not_true_eq_false]
  | succ n ih =>
    intro N hN; obtain ⟨N, rfl⟩ : ∃ N', N = N' + 1 := ⟨N - 1, (by omega)⟩
    intro b r b0 hb
    have hi := ih N (by omega) (b + 1) (r + f b) (by omega) (by omega)
    have hv := hf b b0 (by omega)
    have r1 : 0 ≤ wCh w m * b := Int.mul_nonneg (by omega) b0
    have r2 : wCh w m * b ≤ wCh w m * g := Int.mul_le_mul_of_nonneg_left (by omega) (by omega)
    have hr := RR_El hR (i := 60 * s + i + wCh w m * b + c) (by omega)
    rw [hv] at hr
    show _ = b_X12_mayNot_134 k9 k24 (fun _ _ _ _ _ _ _ _ _ _ _ => none) 91 (iv x) (iv s) (iv i) (iv m) (iv g) (iv c) row (aJ f (r + f b) (b + 1) n) (iv (g + 1)) h
    rw [← hi, lp_succ, F_b_X12_mayNot_134]
    simp -implicitDefEqProofs (disch := omega) only [K91 hF, R91_2 hF, K93 hF, N93 hF, RR_Ch hR, R91_27 hF, K115 hF, N115 hF, hr, iv_add, iv_sub, iv_mul, iv_neg, iv_zero, iv_ltT, iv_ltF, iv_leT, iv_leF, iv_eqT, iv_eqF, iv_div, rm_iv, tn_iv, ib_iv, some_cb, some_cbv, ↓nm_eq, ↓reduceIte, true_and, and_true, Bool.true_eq_false, Bool.false_eq_true, not_false_eq_true, not_true_eq_false]
/-- what is wrong with a cell -/
def wrE (w : WD) (s i m g k : Int) : Int64 := sEl w (60 * s + i + wCh w m * g + k)
def wrR (w : WD) (s i m g : Int) : Int64 := aJ (fun k => wrE w s i m g k) (jv 0) 0 (wCh w m).toNat
def wrK (w : WD) (s i m k : Int) : Int64 := aJ (fun g => wrE w s i m g k) (jv 0) 0 (wGr w m).toNat
def wrong0 (w : WD) (s i m x g k : Int) : Prop := ¬ iv 0 ≤ lg_cmp (wrE w s i m g k) (jv 0) ∨ (k = wCh w m - 1 ∧ ¬ lg_cmp (wrR w s i m g) (jv (wG w x g)) = iv 0) ∨ (g = wGr w m - 1 ∧ ¬ lg_cmp (wrK w s i m k) (jv (wC w x k)) = iv 0)
set_option maxRecDepth 100000 in
theorem q_cell (hS : QS w h) {s i m b0 g k : Int} (k9 : Nat → Int32 → Int32 → Int32 → Int32 → Int32 → AH → Option (Int32 × AH)) (self : Nat → Int32 → Int32 → Int32 → Int32 → Int32 → Int32 → AH → Option (Int32 × AH)) (hl : lvM w m) (b00 : 0 ≤ b0) (tb : b0 < wBx w m) (s0 : 0 ≤ s ∧ s < 6) (g0 : 0 ≤ g ∧ g < wGr w m) (c0 : 0 ≤ k ∧ k < wCh w m) (i0 : 0 ≤ i) (i1 : i + wCh w m * g + wCh w m ≤ 60) : (wrong0 w s i m (12 * m + b0) g k → b_X12_mayNot_24 k9 self 91 (iv (12 * m + b0)) (iv s) (iv i) (iv m) (iv g) (iv k) h = some (iv (10 * g + k), h)) ∧ (¬ wrong0 w s i m (12 * m + b0) g k → b_X12_mayNot_24 k9 self 91 (iv (12 * m + b0)) (iv s) (iv i) (iv m) (iv g) (iv k) h = self 91 (iv (12 * m + b0)) (iv s) (iv i) (iv m) (iv g) (iv (k + 1)) h) := by
  have hF := hS.F
  have hR := hS.R
  obtain ⟨⟨w1, w2⟩, -⟩ := hS.W
  obtain ⟨⟨gg1, gg2⟩, ⟨gc1, gc2⟩, ⟨b2, b3⟩, -⟩ := hS.W.mat hl
  obtain ⟨l1, l2⟩ := id hl
  obtain ⟨⟨x0, x1⟩, -⟩ := box_ran hS.W hl b00 tb
  have hV := hS.W.box hl b00 tb
  obtain ⟨v1, v2⟩ := oB_g hV g0.1 g0.2 (by omega)
  obtain ⟨v3, v4⟩ := oB_c hV c0.1 (by omega)
  have r1 : 0 ≤ wCh w m * g := Int.mul_nonneg (by omega) g0.1
  have he : gJ h 115 (60 * s + i + (wCh w m * g + k)).toNat = wrE w s i m g k := by
    have := RR_El hR (i := 60 * s + i + wCh w m * g + k) (by omega)
    rw [Int.add_assoc (60 * s + i)] at this
    rw [this]; unfold wrE; rw [Int.add_assoc (60 * s + i)]
  have hr := q_rowSum hS k9 self hl (x := 12 * m + b0) (s := s) (i := i) (g := g) (c := k) s0 (by omega) c0 i0 i1 (f := fun k => wrE w s i m g k) (fun _ _ _ => rfl) (k + 1).toNat FU (FU_gt (by omega)) 0 (jv 0) (by omega) (by omega)
  have hc := q_colSum hS k9 self hl (x := 12 * m + b0) (s := s) (i := i) (g := g) (c := k) (row := aJ (fun k => wrE w s i m g k) (jv 0) 0 (k + 1).toNat) s0 (by omega) c0 i0 i1 (f := fun g => wrE w s i m g k) (fun _ _ _ => rfl) (g + 1).toNat FU (FU_gt (by omega)) 0 (jv 0) (by omega) (by omega)
  have head : iv 0 ≤ lg_cmp (wrE w s i m g k) (jv 0) → b_X12_mayNot_24 k9 self 91 (iv (12 * m + b0)) (iv s) (iv i) (iv m) (iv g) (iv k) h = b_X12_mayNot_134 k9 self (fun _ _ _ _ _ _ _ _ _ _ _ => none) 91 (iv (12 * m + b0)) (iv s) (iv i) (iv m) (iv g) (iv k) (aJ (fun k => wrE w s i m g k) (jv 0) 0 (k + 1).toNat) (aJ (fun g => wrE w s i m g k) (jv 0) 0 (g + 1).toNat) (iv (g + 1)) h := fun z => by
    rw [← hc, F_b_X12_mayNot_24]
    have z' := eq_true z
    simp -implicitDefEqProofs (disch := omega) only [f_X12_mayNot_85, K91 hF, R91_2 hF, K93 hF, N93 hF, RR_Ch hR, R91_27 hF, K115 hF, N115 hF, he, z', hr, f_X12_mayNot_134, iv_add, iv_sub, iv_mul, iv_neg, iv_zero, iv_ltT, iv_ltF, iv_leT, iv_leF, iv_eqT, iv_eqF, iv_div, rm_iv, tn_iv, ib_iv, some_cb, some_cbv, ↓nm_eq, ↓reduceIte, true_and, and_true, Bool.true_eq_false, Bool.false_eq_true, not_false_eq_true, not_true_eq_false]
  have lastR : k = wCh w m - 1 → aJ (fun k => wrE w s i m g k) (jv 0) 0 (k + 1).toNat = wrR w s i m g := fun e => by unfold wrR; rw [e]; congr 1; omega
  have lastK : g = wGr w m - 1 → aJ (fun g => wrE w s i m g k) (jv 0) 0 (g + 1).toNat = wrK w s i m k := fun e => by unfold wrK; rw [e]; congr 1; omega
  constructor
  · intro hw
    by_cases z : iv 0 ≤ lg_cmp (wrE w s i m g k) (jv 0)
    · rw [head z, F_b_X12_mayNot_134]
      by_cases y1 : k = wCh w m - 1
      · rw [lastR y1]
        by_cases y2 : lg_cmp (wrR w s i m g) (jv (wG w (12 * m + b0) g)) = iv 0
        · have y3 : g = wGr w m - 1 ∧ ¬ lg_cmp (wrK w s i m k) (jv (wC w (12 * m + b0) k)) = iv 0 := by
            rcases hw with q | q | q
            · exact absurd z q
            · exact absurd y2 q.2
            · exact q
          rw [lastK y3.1]
          have y2' := eq_true y2
          have y4 := eq_false y3.2
          have y5 := y3.1
          simp -implicitDefEqProofs (disch := omega) only [F_f_X12_mayNot_209, K91 hF, R91_1 hF, K92 hF, N92 hF, RR_Gr hR, R91_2 hF, K93 hF, N93 hF, RR_Ch hR, R91_4 hF, K95 hF, N95 hF, RR_G hR, R91_5 hF, K96 hF, N96 hF, RR_C hR, iv_l, y2', y4, iv_add, iv_sub, iv_mul, iv_neg, iv_zero, iv_ltT, iv_ltF, iv_leT, iv_leF, iv_eqT, iv_eqF, iv_div, rm_iv, tn_iv, ib_iv, some_cb, some_cbv, ↓nm_eq, ↓reduceIte, true_and, and_true, Bool.true_eq_false, Bool.false_eq_true, not_false_eq_true, not_true_eq_false]
        · have y2' := eq_false y2
          simp -implicitDefEqProofs (disch := omega) only [F_f_X12_mayNot_209, K91 hF, R91_1 hF, K92 hF, N92 hF, RR_Gr hR, R91_2 hF, K93 hF, N93 hF, RR_Ch hR, R91_4 hF, K95 hF, N95 hF, RR_G hR, iv_l, y2', iv_add, iv_sub, iv_mul, iv_neg, iv_zero, iv_ltT, iv_ltF, iv_leT, iv_leF, iv_eqT, iv_eqF, iv_div, rm_iv, tn_iv, ib_iv, some_cb, some_cbv, ↓nm_eq, ↓reduceIte, true_and, and_true, Bool.true_eq_false, Bool.false_eq_true, not_false_eq_true, not_true_eq_false]
      · have y3 : g = wGr w m - 1 ∧ ¬ lg_cmp (wrK w s i m k) (jv (wC w (12 * m + b0) k)) = iv 0 := by
          rcases hw with q | q | q
          · exact absurd z q
          · exact absurd q.1 y1
          · exact q
        rw [lastK y3.1]
        have y4 := eq_false y3.2
        have y5 := y3.1
        simp -implicitDefEqProofs (disch := omega) only [F_f_X12_mayNot_209, K91 hF, R91_1 hF, K92 hF, N92 hF, RR_Gr hR, R91_2 hF, K93 hF, N93 hF, RR_Ch hR, R91_5 hF, K96 hF, N96 hF, RR_C hR, iv_l, y4, iv_add, iv_sub, iv_mul, iv_neg, iv_zero, iv_ltT, iv_ltF, iv_leT, iv_leF, iv_eqT, iv_eqF, iv_div, rm_iv, tn_iv, ib_iv, some_cb, some_cbv, ↓nm_eq, ↓reduceIte, true_and, and_true, Bool.true_eq_false, Bool.false_eq_true, not_false_eq_true, not_true_eq_false]
    · have z' := eq_false z
      simp -implicitDefEqProofs (disch := omega) only [F_b_X12_mayNot_24, K91 hF, R91_2 hF, K93 hF, N93 hF, RR_Ch hR, R91_27 hF, K115 hF, N115 hF, he, z', iv_add, iv_sub, iv_mul, iv_neg, iv_zero, iv_ltT, iv_ltF, iv_leT, iv_leF, iv_eqT, iv_eqF, iv_div, rm_iv, tn_iv, ib_iv, some_cb, some_cbv, ↓nm_eq, ↓reduceIte, true_and, and_true, Bool.true_eq_false, Bool.false_eq_true, not_false_eq_true, not_true_eq_false]
  · intro hw
    have z : iv 0 ≤ lg_cmp (wrE w s i m g k) (jv 0) := Classical.byContradiction (fun q => hw (Or.inl q))
    rw [head z, F_b_X12_mayNot_134]
    by_cases y1 : k = wCh w m - 1
    · have y2 : lg_cmp (wrR w s i m g) (jv (wG w (12 * m + b0) g)) = iv 0 := Classical.byContradiction (fun q => hw (Or.inr (Or.inl ⟨y1, q⟩)))
      rw [lastR y1]
      have y2' := eq_true y2
      by_cases y3 : g = wGr w m - 1
      · have y4 : lg_cmp (wrK w s i m k) (jv (wC w (12 * m + b0) k)) = iv 0 := Classical.byContradiction (fun q => hw (Or.inr (Or.inr ⟨y3, q⟩)))
        rw [lastK y3]
        have y4' := eq_true y4
        simp -implicitDefEqProofs (disch := omega) only [F_f_X12_mayNot_209, K91 hF, R91_1 hF, K92 hF, N92 hF, RR_Gr hR, R91_2 hF, K93 hF, N93 hF, RR_Ch hR, R91_4 hF, K95 hF, N95 hF, RR_G hR, R91_5 hF, K96 hF, N96 hF, RR_C hR, iv_l, y2', y4', iv_add, iv_sub, iv_mul, iv_neg, iv_zero, iv_ltT, iv_ltF, iv_leT, iv_leF, iv_eqT, iv_eqF, iv_div, rm_iv, tn_iv, ib_iv, some_cb, some_cbv, ↓nm_eq, ↓reduceIte, true_and, and_true, Bool.true_eq_false, Bool.false_eq_true, not_false_eq_true, not_true_eq_false]
      · simp -implicitDefEqProofs (disch := omega) only [F_f_X12_mayNot_209, K91 hF, R91_1 hF, K92 hF, N92 hF, RR_Gr hR, R91_2 hF, K93 hF, N93 hF, RR_Ch hR, R91_4 hF, K95 hF, N95 hF, RR_G hR, iv_l, y2', iv_add, iv_sub, iv_mul, iv_neg, iv_zero, iv_ltT, iv_ltF, iv_leT, iv_leF, iv_eqT, iv_eqF, iv_div, rm_iv, tn_iv, ib_iv, some_cb, some_cbv, ↓nm_eq, ↓reduceIte, true_and, and_true, Bool.true_eq_false, Bool.false_eq_true, not_false_eq_true, not_true_eq_false]
    · by_cases y3 : g = wGr w m - 1
      · have y4 : lg_cmp (wrK w s i m k) (jv (wC w (12 * m + b0) k)) = iv 0 := Classical.byContradiction (fun q => hw (Or.inr (Or.inr ⟨y3, q⟩)))
        rw [lastK y3]
        have y4' := eq_true y4
        simp -implicitDefEqProofs (disch := omega) only [F_f_X12_mayNot_209, K91 hF, R91_1 hF, K92 hF, N92 hF, RR_Gr hR, R91_2 hF, K93 hF, N93 hF, RR_Ch hR, R91_5 hF, K96 hF, N96 hF, RR_C hR, iv_l, y4', iv_add, iv_sub, iv_mul, iv_neg, iv_zero, iv_ltT, iv_ltF, iv_leT, iv_leF, iv_eqT, iv_eqF, iv_div, rm_iv, tn_iv, ib_iv, some_cb, some_cbv, ↓nm_eq, ↓reduceIte, true_and, and_true, Bool.true_eq_false, Bool.false_eq_true, not_false_eq_true, not_true_eq_false]
      · simp -implicitDefEqProofs (disch := omega) only [F_f_X12_mayNot_209, K91 hF, R91_1 hF, K92 hF, N92 hF, RR_Gr hR, R91_2 hF, K93 hF, N93 hF, RR_Ch hR, iv_add, iv_sub, iv_mul, iv_neg, iv_zero, iv_ltT, iv_ltF, iv_leT, iv_leF, iv_eqT, iv_eqF, iv_div, rm_iv, tn_iv, ib_iv, some_cb, some_cbv, ↓nm_eq, ↓reduceIte, true_and, and_true, Bool.true_eq_false, Bool.false_eq_true, not_false_eq_true, not_true_eq_false]
end Q
