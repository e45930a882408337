section Q
variable {w : WD} {A : Int → Nat} {h : AH}
theorem c_endOf0 {r k n : Int} (h1 : -1000000000 ≤ r + k - n) (h2 : r + k - n ≤ 1000000000) : f_X11_endOf (iv r) (iv k) (iv n) (iv 0) h = some (iv (max 0 (r + k - n)), h) := by
  simp (disch := omega) only [f_X11_endOf, iv_add, iv_sub, iv_mul, iv_neg, iv_zero, iv_lt, iv_le, iv_eq, iv_div, rm_iv, tn_iv, ib_iv, if_true, j_max, some_cb]
theorem c_endOf1 {r k : Int} {n : Int32} (h1 : -1000000000 ≤ r) (h2 : r ≤ 1000000000) (h3 : -1000000000 ≤ k) (h4 : k ≤ 1000000000) : f_X11_endOf (iv r) (iv k) n (iv 1) h = some (iv (min r k), h) := by
  simp (disch := omega) only [f_X11_endOf, iv_add, iv_sub, iv_mul, iv_neg, iv_zero, iv_lt, iv_le, iv_eq, iv_div, rm_iv, tn_iv, ib_iv, if_neg, j_min, some_cb]
theorem box_ran (hW : WI w) {m b : Int} (hl : lvM w m) (b0 : 0 ≤ b) (b1 : b < wBx w m) : (0 ≤ 12 * m + b ∧ 12 * m + b < 48) ∧ (0 ≤ wV w (12 * m + b) ∧ wV w (12 * m + b) ≤ 297) := by
  obtain ⟨⟨w1, w2⟩, -⟩ := id hW
  obtain ⟨-, -, ⟨b2, b3⟩, -⟩ := hW.mat hl
  obtain ⟨-, q2, -, -, q5, -⟩ := hW.box hl b0 b1
  obtain ⟨m1, m2⟩ := hl
  have e0 := q2 0 (by omega) (by omega)
  have e1 := q2 1 (by omega) (by omega)
  have e2 := q2 2 (by omega) (by omega)
  omega
theorem c_least (hS : Sim w A h) {m b g k : Int} (hl : lvM w m) (b0 : 0 ≤ b) (b1 : b < wBx w m) (g0 : 0 ≤ g) (hg : g < wGr w m) (k0 : 0 ≤ k) (hk : k < wCh w m) : f_X0_least (A (10 + (12 * m + b))) (iv (3 * g + k)) h = some (iv (wLe w m (12 * m + b) g k), h) := by
  obtain ⟨⟨g1, g2⟩, ⟨c1, c2⟩, -⟩ := hS.W.mat hl
  obtain ⟨q1, q2, q3, q4, q5, q6, q7, -⟩ := hS.W.box hl b0 b1
  obtain ⟨-, v1, v2⟩ := box_ran hS.W hl b0 b1
  obtain ⟨k1, -, r1, r2, -, r4, ⟨k2, n2⟩, ⟨k3, n3⟩, -, ⟨k5, n5⟩, d1, d2, -, d4, d5, -, d7⟩ := hS.B hl b0 b1
  generalize 12 * m + b = x at *
  have e3 : (3 * g + k) / 3 = g := by omega
  have em : (3 * g + k) % 3 = k := by omega
  have y1 := q1 g g0 (by omega)
  have y2 := q2 k k0 (by omega)
  unfold wLe
  by_cases e : wO w x = 1
  · simp (disch := omega) only [f_X0_least, k1, r4, k5, n5, d7, d4 _ _ _, e, iv_add, iv_sub, iv_mul, iv_neg, iv_zero, iv_lt, iv_le, iv_eq, iv_div, rm_iv, tn_iv, ib_iv, if_true, if_pos, if_neg, if_false, true_and]
  · have e' : wO w x = 0 := by omega
    simp (disch := omega) only [f_X0_least, k1, r1, r2, k2, n2, k3, n3, d7, e', e3, em, d1, d2, d5, c_endOf0, some_cb, iv_add, iv_sub, iv_mul, iv_neg, iv_zero, iv_lt, iv_le, iv_eq, iv_div, rm_iv, tn_iv, ib_iv, if_true, if_pos, if_neg, if_false, true_and]
theorem c_most (hS : Sim w A h) {m b g k : Int} (hl : lvM w m) (b0 : 0 ≤ b) (b1 : b < wBx w m) (g0 : 0 ≤ g) (hg : g < wGr w m) (k0 : 0 ≤ k) (hk : k < wCh w m) : f_X0_most (A (10 + (12 * m + b))) (iv (3 * g + k)) h = some (iv (wMo w m (12 * m + b) g k), h) := by
  obtain ⟨⟨g1, g2⟩, ⟨c1, c2⟩, -⟩ := hS.W.mat hl
  obtain ⟨q1, q2, q3, q4, q5, q6, q7, -⟩ := hS.W.box hl b0 b1
  obtain ⟨-, v1, v2⟩ := box_ran hS.W hl b0 b1
  obtain ⟨k1, -, r1, r2, -, r4, ⟨k2, n2⟩, ⟨k3, n3⟩, -, ⟨k5, n5⟩, d1, d2, -, d4, d5, -, d7⟩ := hS.B hl b0 b1
  generalize 12 * m + b = x at *
  have e3 : (3 * g + k) / 3 = g := by omega
  have em : (3 * g + k) % 3 = k := by omega
  have y1 := q1 g g0 (by omega)
  have y2 := q2 k k0 (by omega)
  unfold wMo
  by_cases e : wO w x = 1
  · simp (disch := omega) only [f_X0_most, k1, r4, k5, n5, d7, d4 _ _ _, e, iv_add, iv_sub, iv_mul, iv_neg, iv_zero, iv_lt, iv_le, iv_eq, iv_div, rm_iv, tn_iv, ib_iv, if_true, if_pos, if_neg, if_false, true_and]
  · have e' : wO w x = 0 := by omega
    simp (disch := omega) only [f_X0_most, k1, r1, r2, k2, n2, k3, n3, d7, e', e3, em, d1, d2, d5, c_endOf1, some_cb, iv_add, iv_sub, iv_mul, iv_neg, iv_zero, iv_lt, iv_le, iv_eq, iv_div, rm_iv, tn_iv, ib_iv, if_true, if_pos, if_neg, if_false, true_and]
theorem c_wide (hS : Sim w A h) {m b g k : Int} (hl : lvM w m) (b0 : 0 ≤ b) (b1 : b < wBx w m) (g0 : 0 ≤ g) (hg : g < wGr w m) (k0 : 0 ≤ k) (hk : k < wCh w m) : f_X0_wide (A (10 + (12 * m + b))) (iv (3 * g + k)) h = some (iv (wMo w m (12 * m + b) g k - wLe w m (12 * m + b) g k), h) := by
  obtain ⟨k1, -⟩ := hS.B hl b0 b1
  simp only [f_X0_wide, k1, c_most hS hl b0 b1 g0 hg k0 hk, c_least hS hl b0 b1 g0 hg k0 hk, some_cb, if_true, iv_sub]
theorem q_least (hS : QS w h) {m b c g k : Int} (hl : lvM w m) (b0 : 0 ≤ b) (b1 : b < wBx w m) (h2 : c ≤ 2147483647) (h0 : 0 ≤ c) (eg : c / 10 = g) (ek : c % 10 = k) (hg : g < wGr w m) (hk : k < wCh w m) : f_X12_least 91 (iv (12 * m + b)) (iv c) h = some (iv (wLe w m (12 * m + b) g k), h) := by
  obtain ⟨⟨g1, g2⟩, ⟨c1, c2⟩, -⟩ := hS.W.mat hl
  obtain ⟨q1, q2, q3, q4, q5, q6, q7, -⟩ := hS.W.box hl b0 b1
  obtain ⟨⟨x0, x1⟩, v1, v2⟩ := box_ran hS.W hl b0 b1
  have hF := hS.F
  have hR := hS.R
  generalize 12 * m + b = x at *
  have g0 : 0 ≤ g := by omega
  have k0 : 0 ≤ k := by omega
  have y1 := q1 g g0 (by omega)
  have y2 := q2 k k0 (by omega)
  rw [wP_lt hg] at y1
  unfold wLe
  rw [wP_lt hg]
  by_cases e : wO w x = 1
  · simp (disch := omega) only [f_X12_least, K91 hF, R91_7 hF, K98 hF, N98 hF, R91_8 hF, K99 hF, N99 hF, RR_O hR, RR_Se3 hR, eg, ek, e, iv_add, iv_sub, iv_mul, iv_neg, iv_zero, iv_lt, iv_le, iv_eq, iv_div, rm_iv, tn_iv, ib_iv, if_true, if_pos, if_neg, if_false, true_and]
  · have e' : wO w x = 0 := by omega
    simp (disch := omega) only [f_X12_least, K91 hF, R91_7 hF, K98 hF, N98 hF, R91_4 hF, K95 hF, N95 hF, R91_5 hF, K96 hF, N96 hF, R91_6 hF, K97 hF, N97 hF, RR_O hR, RR_G hR, RR_C hR, RR_V hR, q_greater, some_cb, eg, ek, e', iv_add, iv_sub, iv_mul, iv_neg, iv_zero, iv_lt, iv_le, iv_eq, iv_div, rm_iv, tn_iv, ib_iv, if_true, if_pos, if_neg, if_false, true_and]
theorem q_most (hS : QS w h) {m b c g k : Int} (hl : lvM w m) (b0 : 0 ≤ b) (b1 : b < wBx w m) (h2 : c ≤ 2147483647) (h0 : 0 ≤ c) (eg : c / 10 = g) (ek : c % 10 = k) (hg : g < wGr w m) (hk : k < wCh w m) : f_X12_most 91 (iv (12 * m + b)) (iv c) h = some (iv (wMo w m (12 * m + b) g k), h) := by
  obtain ⟨⟨g1, g2⟩, ⟨c1, c2⟩, -⟩ := hS.W.mat hl
  obtain ⟨q1, q2, q3, q4, q5, q6, q7, -⟩ := hS.W.box hl b0 b1
  obtain ⟨⟨x0, x1⟩, v1, v2⟩ := box_ran hS.W hl b0 b1
  have hF := hS.F
  have hR := hS.R
  generalize 12 * m + b = x at *
  have g0 : 0 ≤ g := by omega
  have k0 : 0 ≤ k := by omega
  have y1 := q1 g g0 (by omega)
  have y2 := q2 k k0 (by omega)
  rw [wP_lt hg] at y1
  unfold wMo
  rw [wP_lt hg]
  by_cases e : wO w x = 1
  · simp (disch := omega) only [f_X12_most, K91 hF, R91_7 hF, K98 hF, N98 hF, R91_8 hF, K99 hF, N99 hF, RR_O hR, RR_Se3 hR, eg, ek, e, iv_add, iv_sub, iv_mul, iv_neg, iv_zero, iv_lt, iv_le, iv_eq, iv_div, rm_iv, tn_iv, ib_iv, if_true, if_pos, if_neg, if_false, true_and]
  · have e' : wO w x = 0 := by omega
    simp (disch := omega) only [f_X12_most, K91 hF, R91_7 hF, K98 hF, N98 hF, R91_4 hF, K95 hF, N95 hF, R91_5 hF, K96 hF, N96 hF, RR_O hR, RR_G hR, RR_C hR, q_lesser, some_cb, eg, ek, e', iv_add, iv_sub, iv_mul, iv_neg, iv_zero, iv_lt, iv_le, iv_eq, iv_div, rm_iv, tn_iv, ib_iv, if_true, if_pos, if_neg, if_false, true_and]
theorem q_wide (hS : QS w h) {m b c g k : Int} (hl : lvM w m) (b0 : 0 ≤ b) (b1 : b < wBx w m) (h2 : c ≤ 2147483647) (h0 : 0 ≤ c) (eg : c / 10 = g) (ek : c % 10 = k) (hg : g < wGr w m) (hk : k < wCh w m) : f_X12_wide 91 (iv (12 * m + b)) (iv c) h = some (iv (wMo w m (12 * m + b) g k - wLe w m (12 * m + b) g k), h) := by
  simp only [f_X12_wide, K91 hS.F, q_most hS.Q hl b0 b1 h2 h0 eg ek hg hk, q_least hS.Q hl b0 b1 h2 h0 eg ek hg hk, some_cb, if_true, iv_sub]
/-- what is proved of each call: both answer alike, and the likeness stands -/
def Ext (h h2 : AH) : Prop := gC h2 ≤ gC h + 100 ∧ gS h2 ≤ gS h + 500 ∧ gN h2 2 = gN h 2 ∧ gI h2 2 = gI h 2
/-- the class's end leaves the script alone -/
def Exb (h h1 : AH) : Prop := gN h1 2 = gN h 2 ∧ gI h1 2 = gI h 2 ∧ gK h1 91 = 112
def Both {ρ : Type} (f g : AH → Option (ρ × AH)) (h : AH) : Prop := ∃ (r : ρ) (h1 h2 : AH) (w' : WD) (A' : Int → Nat), f h = some (r, h1) ∧ g h1 = some (r, h2) ∧ Sim w' A' h2 ∧ Ext h h2 ∧ Exb h h1
theorem Ext.rfl' (h : AH) : Ext h h := ⟨by omega, by omega, rfl, rfl⟩
theorem Both.still {ρ : Type} {f g : AH → Option (ρ × AH)} (hS : Sim w A h) {r : ρ} (hf : f h = some (r, h)) (hg : g h = some (r, h)) : Both f g h := ⟨r, h, h, w, A, hf, hg, hS, Ext.rfl' h, rfl, rfl, K91 hS.F⟩
end Q
