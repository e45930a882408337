/-! cells and their ends -/
def wLe (w : WD) (m x g k : Int) : Int := if wO w x = 1 then wSe w x (3 * g + k) else max 0 (wP w m x g + wC w x k - wV w x)
def wMo (w : WD) (m x g k : Int) : Int := if wO w x = 1 then wSe w x (3 * g + k) else min (wP w m x g) (wC w x k)
section Q
variable {w : WD} {A : Int → Nat} {h : AH}
theorem c_placeOf1 (hS : Sim w A h) {m c g k : Int} (h2 : c ≤ 2147483647) (hl : lvM w m) (h0 : 0 ≤ c) (hg : c / 10 = g) (hk : c % 10 = k) (hgr : g < wGr w m) (hch : k < wCh w m) : f_X11_placeOf (A m) (iv c) h = some (iv (3 * g + k), h) := by
  obtain ⟨⟨g1, g2⟩, ⟨c1, c2⟩, -⟩ := hS.W.mat hl
  obtain ⟨k1, k2, k3, -⟩ := hS.M hl
  simp (disch := omega) only [f_X11_placeOf, hS.mA hl, k1, k2, k3, iv_add, iv_sub, iv_mul, iv_neg, iv_zero, iv_lt, iv_le, iv_eq, iv_div, rm_iv, tn_iv, ib_iv, hg, hk, if_true, if_pos, if_neg, if_false]
  rw [Int.mul_comm]
theorem c_placeOf0 (hS : Sim w A h) {m c : Int} (h1 : -2147483648 ≤ c) (h2 : c ≤ 2147483647) (hl : lvM w m) (hc : ¬ isC w m c) : f_X11_placeOf (A m) (iv c) h = some (iv (-1), h) := by
  obtain ⟨⟨g1, g2⟩, ⟨c1, c2⟩, -⟩ := hS.W.mat hl
  obtain ⟨k1, k2, k3, -⟩ := hS.M hl
  by_cases h0 : c < 0
  · simp (disch := omega) only [f_X11_placeOf, hS.mA hl, iv_add, iv_sub, iv_mul, iv_neg, iv_zero, iv_lt, iv_le, iv_eq, iv_div, rm_iv, tn_iv, ib_iv, if_pos, if_false]
  · by_cases hg : wGr w m ≤ c / 10
    · simp (disch := omega) only [f_X11_placeOf, hS.mA hl, k1, k2, k3, iv_add, iv_sub, iv_mul, iv_neg, iv_zero, iv_lt, iv_le, iv_eq, iv_div, rm_iv, tn_iv, ib_iv, if_true, if_pos, if_neg, if_false]
    · have hk : ¬ c % 10 < wCh w m := fun q => hc ⟨by omega, by omega, q⟩
      simp (disch := omega) only [f_X11_placeOf, hS.mA hl, k1, k2, k3, iv_add, iv_sub, iv_mul, iv_neg, iv_zero, iv_lt, iv_le, iv_eq, iv_div, rm_iv, tn_iv, ib_iv, if_true, if_pos, if_neg, if_false]
theorem c_placeOfN {c : Int32} : f_X11_placeOf 0 c h = some (iv (-1), h) := by simp only [f_X11_placeOf, if_true]
theorem c_placeInN {c : Int32} : f_X11_placeIn 0 c h = some (iv (-1), h) := by simp only [f_X11_placeIn, if_true]
theorem c_placeIn1 (hS : Sim w A h) {m b c g k : Int} (h2 : c ≤ 2147483647) (hl : lvM w m) (b0 : 0 ≤ b) (b1 : b < wBx w m) (h0 : 0 ≤ c) (hg : c / 10 = g) (hk : c % 10 = k) (hgr : g < wGr w m) (hch : k < wCh w m) : f_X11_placeIn (A (10 + (12 * m + b))) (iv c) h = some (iv (3 * g + k), h) := by
  obtain ⟨k1, k2, -⟩ := hS.B hl b0 b1
  simp only [f_X11_placeIn, hS.bA hl b0 b1, k1, k2, c_placeOf1 hS h2 hl h0 hg hk hgr hch, some_cb, if_true, if_false]
theorem c_placeIn0 (hS : Sim w A h) {m b c : Int} (h1 : -2147483648 ≤ c) (h2 : c ≤ 2147483647) (hl : lvM w m) (b0 : 0 ≤ b) (b1 : b < wBx w m) (hc : ¬ isC w m c) : f_X11_placeIn (A (10 + (12 * m + b))) (iv c) h = some (iv (-1), h) := by
  obtain ⟨k1, k2, -⟩ := hS.B hl b0 b1
  simp only [f_X11_placeIn, hS.bA hl b0 b1, k1, k2, c_placeOf0 hS h1 h2 hl hc, some_cb, if_true, if_false]
theorem q_isCell1 (hS : QS w h) {m c g k : Int} (h2 : c ≤ 2147483647) (hl : lvM w m) (h0 : 0 ≤ c) (hg : c / 10 = g) (hk : c % 10 = k) (hgr : g < wGr w m) (hch : k < wCh w m) : f_X12_isCell 91 (iv m) (iv c) h = some (iv 1, h) := by
  obtain ⟨⟨w1, w2⟩, -⟩ := hS.W
  obtain ⟨⟨g1, g2⟩, ⟨c1, c2⟩, -⟩ := hS.W.mat hl
  obtain ⟨m1, m2⟩ := hl
  have hF := hS.F
  have hR := hS.R
  simp (disch := omega) only [f_X12_isCell, K91 hF, R91_1 hF, R91_2 hF, K92 hF, N92 hF, K93 hF, N93 hF, RR_Gr hR, RR_Ch hR, iv_add, iv_sub, iv_mul, iv_neg, iv_zero, iv_lt, iv_le, iv_eq, iv_div, rm_iv, tn_iv, ib_iv, hg, hk, if_true, if_pos, if_neg, if_false, true_and, zret1]
theorem q_isCell0 (hS : QS w h) {m c : Int} (h1 : -2147483648 ≤ c) (h2 : c ≤ 2147483647) (hl : lvM w m) (hc : ¬ isC w m c) : f_X12_isCell 91 (iv m) (iv c) h = some (iv 0, h) := by
  obtain ⟨⟨w1, w2⟩, -⟩ := hS.W
  obtain ⟨⟨g1, g2⟩, ⟨c1, c2⟩, -⟩ := hS.W.mat hl
  obtain ⟨m1, m2⟩ := hl
  have hF := hS.F
  have hR := hS.R
  by_cases h0 : c < 0
  · simp (disch := omega) only [f_X12_isCell, iv_add, iv_sub, iv_mul, iv_neg, iv_zero, iv_lt, iv_le, iv_eq, iv_div, rm_iv, tn_iv, ib_iv, if_pos, zret0]
  · by_cases hg : wGr w m ≤ c / 10
    · simp (disch := omega) only [f_X12_isCell, K91 hF, R91_1 hF, K92 hF, N92 hF, RR_Gr hR, iv_add, iv_sub, iv_mul, iv_neg, iv_zero, iv_lt, iv_le, iv_eq, iv_div, rm_iv, tn_iv, ib_iv, if_true, if_pos, if_neg, if_false, true_and, zret0]
    · have hk : ¬ c % 10 < wCh w m := fun q => hc ⟨by omega, by omega, q⟩
      simp (disch := omega) only [f_X12_isCell, K91 hF, R91_1 hF, R91_2 hF, K92 hF, N92 hF, K93 hF, N93 hF, RR_Gr hR, RR_Ch hR, iv_add, iv_sub, iv_mul, iv_neg, iv_zero, iv_lt, iv_le, iv_eq, iv_div, rm_iv, tn_iv, ib_iv, if_true, if_pos, if_neg, if_false, true_and, zret0]
theorem q_isAsked1 (hS : QS w h) {m c g k : Int} (h2 : c ≤ 2147483647) (hl : lvM w m) (h0 : 0 ≤ c) (hg : c / 10 = g) (hk : c % 10 = k) (hgr : g < wGr w m) (hch : k < wCh w m) : f_X12_isAsked 91 (iv m) (iv c) h = some (iv 1, h) := by
  obtain ⟨⟨w1, w2⟩, -⟩ := hS.W
  obtain ⟨m1, m2⟩ := id hl
  simp (disch := omega) only [f_X12_isAsked, f_X12_isAsked_22, K91 hS.F, q_isMatter1 hS.F hS.R hS.W, hl, q_isCell1 hS.Q h2 hl h0 hg hk hgr hch, some_cb, iv_add, iv_sub, iv_mul, iv_neg, iv_zero, iv_lt, iv_le, iv_eq, iv_div, rm_iv, tn_iv, ib_iv, if_true, if_pos, if_neg, if_false, zret1]
theorem q_isAsked0 (hS : QS w h) {m c : Int} (g1 : -2147483648 ≤ m) (g2 : m ≤ 2147483647) (h1 : -2147483648 ≤ c) (h2 : c ≤ 2147483647) (hc : ¬ (lvM w m ∧ isC w m c)) : f_X12_isAsked 91 (iv m) (iv c) h = some (iv 0, h) := by
  by_cases hl : lvM w m
  · have hc : ¬ isC w m c := fun q => hc ⟨hl, q⟩
    obtain ⟨⟨w1, w2⟩, -⟩ := hS.W
    obtain ⟨m1, m2⟩ := id hl
    simp (disch := omega) only [f_X12_isAsked, f_X12_isAsked_22, K91 hS.F, q_isMatter1 hS.F hS.R hS.W, hl, q_isCell0 hS.Q h1 h2 hl hc, some_cb, iv_add, iv_sub, iv_mul, iv_neg, iv_zero, iv_lt, iv_le, iv_eq, iv_div, rm_iv, tn_iv, ib_iv, if_true, if_pos, if_neg, if_false, zret0]
  · simp (disch := omega) only [f_X12_isAsked, K91 hS.F, q_isMatter0 hS.F hS.R hS.W, hl, some_cb, if_true, iv_add, iv_sub, iv_mul, iv_neg, iv_zero, iv_lt, iv_le, iv_eq, iv_div, rm_iv, tn_iv, ib_iv, if_pos, zret0, not_false_eq_true]
theorem wP_lt {m x g : Int} (hg : g < wGr w m) : wP w m x g = wG w x g := if_pos hg
theorem le_rng (hW : WI w) {m b g k : Int} (hl : lvM w m) (b0 : 0 ≤ b) (b1 : b < wBx w m) (g0 : 0 ≤ g) (hg : g < wGr w m) (k0 : 0 ≤ k) (hk : k < wCh w m) : 0 ≤ wLe w m (12 * m + b) g k ∧ wLe w m (12 * m + b) g k ≤ wMo w m (12 * m + b) g k ∧ wMo w m (12 * m + b) g k ≤ 99 := by
  obtain ⟨⟨g1, g2⟩, ⟨c1, c2⟩, -⟩ := hW.mat hl
  obtain ⟨b1, b2, b3, b4, b5, b6, b7, -⟩ := hW.box hl b0 b1
  unfold wLe wMo
  by_cases e : wO w (12 * m + b) = 1
  · have := b7 e (3 * g + k) (by omega) (by omega)
    rw [if_pos e, if_pos e]
    omega
  · have q1 := b1 g g0 (by omega)
    have q2 := b2 k k0 (by omega)
    have a0 := b1 0 (by omega) (by omega)
    have a1 := b1 1 (by omega) (by omega)
    have a2 := b1 2 (by omega) (by omega)
    have a3 := b1 3 (by omega) (by omega)
    have e0 := b2 0 (by omega) (by omega)
    have e1 := b2 1 (by omega) (by omega)
    have e2 := b2 2 (by omega) (by omega)
    rw [if_neg e, if_neg e]
    have u1 : wP w m (12 * m + b) g ≤ wV w (12 * m + b) := by
      rcases (show g = 0 ∨ g = 1 ∨ g = 2 ∨ g = 3 by omega) with r | r | r | r <;> rw [r] <;> omega
    have u2 : wC w (12 * m + b) k ≤ wV w (12 * m + b) := by
      rcases (show k = 0 ∨ k = 1 ∨ k = 2 by omega) with r | r | r <;> rw [r] <;> omega
    omega
end Q
