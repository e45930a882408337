/-! whether elements may be a table: both go through the cells alike -/
def aJ (f : Int → Int64) : Int64 → Int → Nat → Int64
  | s, _, 0 => s
  | s, b, n + 1 => aJ f (s + f b) (b + 1) n
section Q
variable {w : WD} {A : Int → Nat} {h : AH}
set_option maxRecDepth 100000 in
theorem c_rowSum {a x G C : Nat} {i g : Int} {f : Int → Int64} {cC : Int} (k1 : gK h x = 100) (k2 : gR h x 0 = G) (k3 : gK h G = 106) (k4 : gI h G 1 = iv cC) (k5 : gK h a = 2) (k6 : gN h a = 60) (c1 : 2 ≤ cC ∧ cC ≤ 3) (g0 : 0 ≤ g ∧ g ≤ 3) (i0 : 0 ≤ i) (i1 : i + g * cC + cC ≤ 60) (hf : ∀ k : Int, 0 ≤ k → k < cC → gJ h a (i + g * cC + k).toNat = f k) : ∀ (n N : Nat), n < N → ∀ (b : Int) (s : Int64), 0 ≤ b → b + n = cC → lp b_X0_rowSum_6 (fun _ _ _ _ _ _ _ => none) N x a (iv i) (iv g) s (iv b) h = some (aJ f s b n, h) := by
  intro n
  induction n with
  | zero =>
    intro N hN; obtain ⟨N, rfl⟩ : ∃ N', N = N' + 1 := ⟨N - 1, (by omega)⟩
    intro b s b0 hb
    show _ = some (s, h)
    simp -implicitDefEqProofs (disch := omega) only [lp_succ, F_b_X0_rowSum_6, k1, k2, k3, k4, iv_add, iv_sub, iv_mul, iv_neg, iv_zero, iv_ltT, iv_ltF, iv_leT, iv_leF, iv_eqT, iv_eqF, iv_div, rm_iv, tn_iv, ib_iv, some_cb, some_cbv, ↓nm_eq, ↓reduceIte, true_and, and_true, Bool.true_eq_false, Bool.false_eq_true, not_false_eq_true, not_true_eq_false]
  | succ n ih =>
    intro N hN; obtain ⟨N, rfl⟩ : ∃ N', N = N' + 1 := ⟨N - 1, (by omega)⟩
    intro b s b0 hb
    have hi := ih N (by omega) (b + 1) (s + f b) (by omega) (by omega)
    have hv := hf b b0 (by omega)
    have r1 : 0 ≤ g * cC := Int.mul_nonneg g0.1 (by omega)
    show _ = some (aJ f (s + f b) (b + 1) n, h)
    rw [← hi]
    simp -implicitDefEqProofs (disch := omega) only [lp_succ, F_b_X0_rowSum_6, k1, k2, k3, k4, k5, k6, hv, iv_add, iv_sub, iv_mul, iv_neg, iv_zero, iv_ltT, iv_ltF, iv_leT, iv_leF, iv_eqT, iv_eqF, iv_div, rm_iv, tn_iv, ib_iv, some_cb, some_cbv, ↓nm_eq, ↓reduceIte, true_and, and_true, Bool.true_eq_false, Bool.false_eq_true, not_false_eq_true, not_true_eq_false]
set_option maxRecDepth 100000 in
theorem c_colSum {a x G : Nat} {i k : Int} {f : Int → Int64} {cC cG : Int} (k1 : gK h x = 100) (k2 : gR h x 0 = G) (k3 : gK h G = 106) (k4 : gI h G 1 = iv cC) (k4' : gI h G 0 = iv cG) (k5 : gK h a = 2) (k6 : gN h a = 60) (c1 : 2 ≤ cC ∧ cC ≤ 3) (g1 : 2 ≤ cG ∧ cG ≤ 4) (k0 : 0 ≤ k ∧ k < cC) (i0 : 0 ≤ i) (i1 : i + cG * cC ≤ 60) (hf : ∀ g : Int, 0 ≤ g → g < cG → gJ h a (i + g * cC + k).toNat = f g) : ∀ (n N : Nat), n < N → ∀ (b : Int) (s : Int64), 0 ≤ b → b + n = cG → lp b_X0_columnSum_6 (fun _ _ _ _ _ _ _ => none) N x a (iv i) (iv k) s (iv b) h = some (aJ f s b n, h) := by
  intro n
  induction n with
  | zero =>
    intro N hN; obtain ⟨N, rfl⟩ : ∃ N', N = N' + 1 := ⟨N - 1, (by omega)⟩
    intro b s b0 hb
    show _ = some (s, h)
    simp -implicitDefEqProofs (disch := omega) only [lp_succ, F_b_X0_columnSum_6, k1, k2, k3, k4', iv_add, iv_sub, iv_mul, iv_neg, iv_zero, iv_ltT, iv_ltF, iv_leT, iv_leF, iv_eqT, iv_eqF, iv_div, rm_iv, tn_iv, ib_iv, some_cb, some_cbv, ↓nm_eq, ↓reduceIte, true_and, and_true, Bool.true_eq_false, Bool.false_eq_true, not_false_eq_true, not_true_eq_false]
  | succ n ih =>
    intro N hN; obtain ⟨N, rfl⟩ : ∃ N', N = N' + 1 := ⟨N - 1, (by omega)⟩
    intro b s b0 hb
    have hi := ih N (by omega) (b + 1) (s + f b) (by omega) (by omega)
    have hv := hf b b0 (by omega)
    have r1 : 0 ≤ b * cC := Int.mul_nonneg b0 (by omega)
    have r2 : (b + 1) * cC ≤ cG * cC := Int.mul_le_mul_of_nonneg_right (by omega) (by omega)
    rw [Int.add_mul, Int.one_mul] at r2
    show _ = some (aJ f (s + f b) (b + 1) n, h)
    rw [← hi]
    simp -implicitDefEqProofs (disch := omega) only [lp_succ, F_b_X0_columnSum_6, k1, k2, k3, k4, k4', k5, k6, hv, iv_add, iv_sub, iv_mul, iv_neg, iv_zero, iv_ltT, iv_ltF, iv_leT, iv_leF, iv_eqT, iv_eqF, iv_div, rm_iv, tn_iv, ib_iv, some_cb, some_cbv, ↓nm_eq, ↓reduceIte, true_and, and_true, Bool.true_eq_false, Bool.false_eq_true, not_false_eq_true, not_true_eq_false]
set_option maxRecDepth 100000 in
theorem q_rowSum (hS : QS w h) {x s i m g c : Int} {f : Int → Int64} (k9 : Nat → Int32 → Int32 → Int32 → Int32 → Int32 → AH → Option (Int32 × AH)) (k24 : Nat → Int32 → Int32 → Int32 → Int32 → Int32 → Int32 → AH → Option (Int32 × AH)) (hl : lvM w m) (s0 : 0 ≤ s ∧ s < 6) (g0 : 0 ≤ g ∧ g ≤ 3) (c0 : 0 ≤ c ∧ c < wCh w m) (i0 : 0 ≤ i) (i1 : i + wCh w m * g + wCh w m ≤ 60) (hf : ∀ k : Int, 0 ≤ k → k < wCh w m → sEl w (60 * s + i + wCh w m * g + k) = f k) : ∀ (n N : Nat), n < N → ∀ (b : Int) (r : Int64), 0 ≤ b → b + n = c + 1 → lp (b_X12_mayNot_85 k9 k24) (fun _ _ _ _ _ _ _ _ _ _ => none) N 91 (iv x) (iv s) (iv i) (iv m) (iv g) (iv c) r (iv b) h = f_X12_mayNot_134 k9 k24 91 (iv x) (iv s) (iv i) (iv m) (iv g) (iv c) (aJ f r b n) (jv 0) (iv 0) h := by
  have hF := hS.F
  have hR := hS.R
  obtain ⟨⟨w1, w2⟩, -⟩ := hS.W
  obtain ⟨-, ⟨gc1, gc2⟩, -⟩ := hS.W.mat hl
  obtain ⟨l1, l2⟩ := id hl
  have r1 : 0 ≤ wCh w m * g := Int.mul_nonneg (by omega) g0.1
  intro n
  induction n with
  | zero =>
    intro N hN; obtain ⟨N, rfl⟩ : ∃ N', N = N' + 1 := ⟨N - 1, (by omega)⟩
    intro b r b0 hb
    show _ = f_X12_mayNot_134 k9 k24 91 (iv x) (iv s) (iv i) (iv m) (iv g) (iv c) r (jv 0) (iv 0) h
    simp -implicitDefEqProofs (disch := omega) only [lp_succ, F_b_X12_mayNot_85, iv_add, iv_sub, iv_mul, iv_neg, iv_zero, iv_ltT, iv_ltF, iv_leT, iv_leF, iv_eqT, iv_eqF, iv_div, rm_iv, tn_iv, ib_iv, some_cb, some_cbv, ↓nm_eq, ↓reduceIte, true_and, and_true, Bool.true_eq_false, Bool.false_eq_true, not_false_eq_true, not_true_eq_false]
  | succ n ih =>
    intro N hN; obtain ⟨N, rfl⟩ : ∃ N', N = N' + 1 := ⟨N - 1, (by omega)⟩
    intro b r b0 hb
    have hi := ih N (by omega) (b + 1) (r + f b) (by omega) (by omega)
    have hv := hf b b0 (by omega)
    have hr := RR_El hR (i := 60 * s + i + wCh w m * g + b) (by omega)
    rw [hv] at hr
    show _ = f_X12_mayNot_134 k9 k24 91 (iv x) (iv s) (iv i) (iv m) (iv g) (iv c) (aJ f (r + f b) (b + 1) n) (jv 0) (iv 0) h
    rw [← hi]
    simp -implicitDefEqProofs (disch := omega) only [lp_succ, F_b_X12_mayNot_85, K91 hF, R91_2 hF, K93 hF, N93 hF, RR_Ch hR, R91_27 hF, K115 hF, N115 hF, hr, iv_add, iv_sub, iv_mul, iv_neg, iv_zero, iv_ltT, iv_ltF, iv_leT, iv_leF, iv_eqT, iv_eqF, iv_div, rm_iv, tn_iv, ib_iv, some_cb, some_cbv, ↓nm_eq, ↓reduceIte, true_and, and_true, Bool.true_eq_false, Bool.false_eq_true, not_false_eq_true, not_true_eq_false]
end Q
