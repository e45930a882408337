/-! numbers from the caller; the ends of a cell -/
def isB (w : WD) (at0 : Int) : Prop := 0 ≤ at0 ∧ lvM w (at0 / 100) ∧ at0 % 100 < wBx w (at0 / 100)
def isC (w : WD) (m c : Int) : Prop := 0 ≤ c ∧ c / 10 < wGr w m ∧ c % 10 < wCh w m
theorem RR_Se3 {w : WD} {h : AH} (H : RR w h) {x g k : Int} (z : 0 ≤ 12 * x + 3 * g + k) : gI h 99 (12 * x + 3 * g + k).toNat = iv (wSe w x (3 * g + k)) := by
  have := RR_Se H (x := x) (p := 3 * g + k) (by omega)
  rwa [← Int.add_assoc] at this
theorem RR_W3 {w : WD} {h : AH} (H : RR w h) {m g k : Int} (z : 0 ≤ 12 * m + 3 * g + k) : gI h 102 (12 * m + 3 * g + k).toNat = iv (wW w m (3 * g + k)) := by
  have := RR_W H (m := m) (p := 3 * g + k) (by omega)
  rwa [← Int.add_assoc] at this
section Q
variable {w : WD} {A : Int → Nat} {h : AH}
theorem WI.mat (hW : WI w) {m : Int} (hm : lvM w m) : matOK w m := hW.2.2.2.2.2.1 m hm
theorem WI.box (hW : WI w) {m b : Int} (hm : lvM w m) (h0 : 0 ≤ b) (h1 : b < wBx w m) : boxOK w m (12 * m + b) := hW.2.2.2.2.2.2.1 m b hm h0 h1
theorem j_max {a b : Int} (h1 : -2147483648 ≤ a) (h2 : a ≤ 2147483647) (h3 : -2147483648 ≤ b) (h4 : b ≤ 2147483647) : f_J9_max_7cf53 (iv a) (iv b) h = some (iv (max a b), h) := by
  by_cases e : a < b
  · simp (disch := omega) only [f_J9_max_7cf53, iv_add, iv_sub, iv_mul, iv_neg, iv_zero, iv_lt, iv_le, iv_eq, iv_div, rm_iv, tn_iv, ib_iv, if_pos]; rw [show max a b = b by omega]
  · simp (disch := omega) only [f_J9_max_7cf53, iv_add, iv_sub, iv_mul, iv_neg, iv_zero, iv_lt, iv_le, iv_eq, iv_div, rm_iv, tn_iv, ib_iv, if_neg]; rw [show max a b = a by omega]
theorem j_min {a b : Int} (h1 : -2147483648 ≤ a) (h2 : a ≤ 2147483647) (h3 : -2147483648 ≤ b) (h4 : b ≤ 2147483647) : f_J9_min_7cf53 (iv a) (iv b) h = some (iv (min a b), h) := by
  by_cases e : b < a
  · simp (disch := omega) only [f_J9_min_7cf53, iv_add, iv_sub, iv_mul, iv_neg, iv_zero, iv_lt, iv_le, iv_eq, iv_div, rm_iv, tn_iv, ib_iv, if_pos]; rw [show min a b = b by omega]
  · simp (disch := omega) only [f_J9_min_7cf53, iv_add, iv_sub, iv_mul, iv_neg, iv_zero, iv_lt, iv_le, iv_eq, iv_div, rm_iv, tn_iv, ib_iv, if_neg]; rw [show min a b = a by omega]
theorem q_greater {a b : Int} (h1 : -2147483648 ≤ a) (h2 : a ≤ 2147483647) (h3 : -2147483648 ≤ b) (h4 : b ≤ 2147483647) : f_X12_greater (iv a) (iv b) h = some (iv (max a b), h) := by
  by_cases e : a ≤ b
  · simp (disch := omega) only [f_X12_greater, iv_add, iv_sub, iv_mul, iv_neg, iv_zero, iv_lt, iv_le, iv_eq, iv_div, rm_iv, tn_iv, ib_iv, if_pos]; rw [show max a b = b by omega]
  · simp (disch := omega) only [f_X12_greater, iv_add, iv_sub, iv_mul, iv_neg, iv_zero, iv_lt, iv_le, iv_eq, iv_div, rm_iv, tn_iv, ib_iv, if_neg]; rw [show max a b = a by omega]
theorem q_lesser {a b : Int} (h1 : -2147483648 ≤ a) (h2 : a ≤ 2147483647) (h3 : -2147483648 ≤ b) (h4 : b ≤ 2147483647) : f_X12_lesser (iv a) (iv b) h = some (iv (min a b), h) := by
  by_cases e : b ≤ a
  · simp (disch := omega) only [f_X12_lesser, iv_add, iv_sub, iv_mul, iv_neg, iv_zero, iv_lt, iv_le, iv_eq, iv_div, rm_iv, tn_iv, ib_iv, if_pos]; rw [show min a b = b by omega]
  · simp (disch := omega) only [f_X12_lesser, iv_add, iv_sub, iv_mul, iv_neg, iv_zero, iv_lt, iv_le, iv_eq, iv_div, rm_iv, tn_iv, ib_iv, if_neg]; rw [show min a b = a by omega]
theorem Sim.F (hS : Sim w A h) : Fix h := hS.1
theorem Sim.R (hS : Sim w A h) : RR w h := hS.2.1
theorem Sim.W (hS : Sim w A h) : WI w := hS.2.2.1
theorem Sim.C (hS : Sim w A h) : Cls w A h := hS.2.2.2.1
theorem Sim.M (hS : Sim w A h) {m : Int} (hm : lvM w m) : ObM w A h m := hS.2.2.2.2.1 m hm
theorem Sim.B (hS : Sim w A h) {m b : Int} (hm : lvM w m) (h0 : 0 ≤ b) (h1 : b < wBx w m) : ObB w A h m (12 * m + b) := hS.2.2.2.2.2.1 m b hm h0 h1
theorem Sim.H (hS : Sim w A h) {m k : Int} (hm : lvM w m) (h0 : 0 ≤ k) (h1 : k < wH w m) : ObH w A h (12 * m + k) := hS.2.2.2.2.2.2.1 m k hm h0 h1
theorem Sim.K (hS : Sim w A h) {k : Int} (h0 : 0 ≤ k) (h1 : k < wK w) : ObK w A h k := hS.2.2.2.2.2.2.2.1 k h0 h1
theorem Sim.S (hS : Sim w A h) {s : Int} (h0 : 0 ≤ s) (h1 : s < 6) : ObS w A h s := hS.2.2.2.2.2.2.2.2.1 s h0 h1
theorem Sim.sep (hS : Sim w A h) : Sep w A h := hS.2.2.2.2.2.2.2.2.2.1
theorem Sim.gc (hS : Sim w A h) : 121 ≤ gC h := hS.2.2.2.2.2.2.2.2.2.2.1
theorem Sim.wy (hS : Sim w A h) : WyOK w A h := hS.2.2.2.2.2.2.2.2.2.2.2
theorem Sim.Q (hS : Sim w A h) : QS w h := ⟨hS.1, hS.2.1, hS.2.2.1⟩
theorem QS.F (hS : QS w h) : Fix h := hS.1
theorem QS.R (hS : QS w h) : RR w h := hS.2.1
theorem QS.W (hS : QS w h) : WI w := hS.2.2
theorem QS.Q (hS : QS w h) : QS w h := hS
theorem Sim.mA (hS : Sim w A h) {m : Int} (hm : lvM w m) : ¬ A m = 0 := by
  have := (hS.sep m (Or.inl hm)).1
  omega
theorem Sim.bA (hS : Sim w A h) {m b : Int} (hm : lvM w m) (h0 : 0 ≤ b) (h1 : b < wBx w m) : ¬ A (10 + (12 * m + b)) = 0 := by
  have := (hS.sep _ (Or.inr (Or.inl ⟨m, b, hm, h0, h1, rfl⟩))).1
  omega
theorem c_boxAt1 (hS : Sim w A h) {at0 m b : Int} (h2 : at0 ≤ 2147483647) (h0 : 0 ≤ at0) (hm : at0 / 100 = m) (hb : at0 % 100 = b) (hl : lvM w m) (hx : b < wBx w m) : f_X11_boxAt 3 (iv at0) h = some (A (10 + (12 * m + b)), h) := by
  obtain ⟨⟨w1, w2⟩, -⟩ := hS.W
  obtain ⟨m1, m2⟩ := id hl
  obtain ⟨-, -, ⟨b1, b2⟩, -⟩ := hS.W.mat hl
  obtain ⟨k1, k2, k3, k4, k5, k6, k7, k8, k9, k10, k11, k12, k13, k14, k15, k16, k17⟩ := hS.M hl
  have b0 : 0 ≤ b := by omega
  simp (disch := omega) only [f_X11_boxAt, K3 hS.F, c_matterAt1 hS.F hS.C hS.W, hm, hb, k1, k4, k6, k9, k10, k16, hl, hS.mA hl, iv_add, iv_sub, iv_mul, iv_neg, iv_zero, iv_lt, iv_le, iv_eq, iv_div, rm_iv, tn_iv, ib_iv, if_true, if_pos, if_neg, if_false, true_and, some_cb, nm_eq]
theorem c_boxAt0 (hS : Sim w A h) {at0 : Int} (h1 : -2147483648 ≤ at0) (h2 : at0 ≤ 2147483647) (hb : ¬ isB w at0) : f_X11_boxAt 3 (iv at0) h = some (0, h) := by
  obtain ⟨⟨w1, w2⟩, -⟩ := hS.W
  by_cases h0 : 0 ≤ at0
  · by_cases hl : lvM w (at0 / 100)
    · have hx : ¬ at0 % 100 < wBx w (at0 / 100) := fun q => hb ⟨h0, hl, q⟩
      obtain ⟨m1, m2⟩ := id hl
      obtain ⟨-, -, ⟨b1, b2⟩, -⟩ := hS.W.mat hl
      obtain ⟨k1, k2, k3, k4, k5, k6, k7, k8, k9, k10, k11, k12, k13, k14, k15, k16, k17⟩ := hS.M hl
      simp (disch := omega) only [f_X11_boxAt, K3 hS.F, c_matterAt1 hS.F hS.C hS.W, k1, k4, hl, hS.mA hl, iv_add, iv_sub, iv_mul, iv_neg, iv_zero, iv_lt, iv_le, iv_eq, iv_div, rm_iv, tn_iv, ib_iv, if_true, if_pos, if_neg, if_false, true_and, some_cb, nm_eq]
    · simp (disch := omega) only [f_X11_boxAt, K3 hS.F, c_matterAt0 hS.F hS.C hS.W, hl, iv_add, iv_sub, iv_mul, iv_neg, iv_zero, iv_lt, iv_le, iv_eq, iv_div, rm_iv, tn_iv, ib_iv, if_true, if_pos, if_neg, if_false, true_and, some_cb, nm_eq, not_false_eq_true]
  · simp (disch := omega) only [f_X11_boxAt, iv_add, iv_sub, iv_mul, iv_neg, iv_zero, iv_lt, iv_le, iv_eq, iv_div, rm_iv, tn_iv, ib_iv, if_neg]
theorem q_boxOf1 (hS : QS w h) {at0 m b : Int} (h2 : at0 ≤ 2147483647) (h0 : 0 ≤ at0) (hm : at0 / 100 = m) (hb : at0 % 100 = b) (hl : lvM w m) (hx : b < wBx w m) : f_X12_boxOf 91 (iv at0) h = some (iv (12 * m + b), h) := by
  obtain ⟨⟨w1, w2⟩, -⟩ := hS.W
  obtain ⟨m1, m2⟩ := id hl
  obtain ⟨-, -, ⟨b1, b2⟩, -⟩ := hS.W.mat hl
  have hF := hS.F
  have hR := hS.R
  have b0 : 0 ≤ b := by omega
  simp (disch := omega) only [f_X12_boxOf, f_X12_boxOf_42, K91 hF, K92 hF, N92 hF, K93 hF, N93 hF, K94 hF, N94 hF, K95 hF, N95 hF, K96 hF, N96 hF, K97 hF, N97 hF, K98 hF, N98 hF, K99 hF, N99 hF, K100 hF, N100 hF, K101 hF, N101 hF, K102 hF, N102 hF, K103 hF, N103 hF, K104 hF, N104 hF, K105 hF, N105 hF, K106 hF, N106 hF, K107 hF, N107 hF, K108 hF, N108 hF, K109 hF, N109 hF, K110 hF, N110 hF, K111 hF, N111 hF, K112 hF, N112 hF, K113 hF, N113 hF, K114 hF, N114 hF, K115 hF, N115 hF, K116 hF, N116 hF, K117 hF, N117 hF, K118 hF, N118 hF, K119 hF, N119 hF, K120 hF, N120 hF, R91_1 hF, R91_2 hF, R91_3 hF, R91_4 hF, R91_5 hF, R91_6 hF, R91_7 hF, R91_8 hF, R91_9 hF, R91_10 hF, R91_11 hF, R91_12 hF, R91_13 hF, R91_14 hF, R91_15 hF, R91_16 hF, R91_17 hF, R91_18 hF, R91_21 hF, R91_22 hF, R91_24 hF, R91_25 hF, R91_26 hF, R91_27 hF, R91_29 hF, R91_30 hF, R91_31 hF, R91_32 hF, R91_44 hF, RR_M hR, RR_T hR, RR_K hR, RR_Bo hR, RR_Gr hR, RR_Ch hR, RR_Bx hR, RR_G hR, RR_C hR, RR_G0 hR, RR_C0 hR, RR_V hR, RR_O hR, RR_Se hR, RR_S2 hR, RR_L hR, RR_W hR, RR_H hR, RR_hSo hR, RR_hCe hR, RR_hBo hR, RR_hOt hR, RR_hMu hR, RR_Ta hR, RR_Ki hR, RR_Tr hR, RR_Is hR, RR_So hR, RR_Sz hR, RR_El hR, q_isMatter1 hS.F hS.R hS.W, hm, hb, hl, iv_add, iv_sub, iv_mul, iv_neg, iv_zero, iv_lt, iv_le, iv_eq, iv_div, rm_iv, tn_iv, ib_iv, if_true, if_pos, if_neg, if_false, true_and, some_cb, nm_eq]
theorem q_boxOf0 (hS : QS w h) {at0 : Int} (h1 : -2147483648 ≤ at0) (h2 : at0 ≤ 2147483647) (hb : ¬ isB w at0) : f_X12_boxOf 91 (iv at0) h = some (iv (-1), h) := by
  obtain ⟨⟨w1, w2⟩, -⟩ := hS.W
  have hF := hS.F
  have hR := hS.R
  by_cases h0 : 0 ≤ at0
  · by_cases hl : lvM w (at0 / 100)
    · have hx : ¬ at0 % 100 < wBx w (at0 / 100) := fun q => hb ⟨h0, hl, q⟩
      obtain ⟨m1, m2⟩ := id hl
      obtain ⟨-, -, ⟨b1, b2⟩, -⟩ := hS.W.mat hl
      simp (disch := omega) only [f_X12_boxOf, f_X12_boxOf_42, K91 hF, K92 hF, N92 hF, K93 hF, N93 hF, K94 hF, N94 hF, K95 hF, N95 hF, K96 hF, N96 hF, K97 hF, N97 hF, K98 hF, N98 hF, K99 hF, N99 hF, K100 hF, N100 hF, K101 hF, N101 hF, K102 hF, N102 hF, K103 hF, N103 hF, K104 hF, N104 hF, K105 hF, N105 hF, K106 hF, N106 hF, K107 hF, N107 hF, K108 hF, N108 hF, K109 hF, N109 hF, K110 hF, N110 hF, K111 hF, N111 hF, K112 hF, N112 hF, K113 hF, N113 hF, K114 hF, N114 hF, K115 hF, N115 hF, K116 hF, N116 hF, K117 hF, N117 hF, K118 hF, N118 hF, K119 hF, N119 hF, K120 hF, N120 hF, R91_1 hF, R91_2 hF, R91_3 hF, R91_4 hF, R91_5 hF, R91_6 hF, R91_7 hF, R91_8 hF, R91_9 hF, R91_10 hF, R91_11 hF, R91_12 hF, R91_13 hF, R91_14 hF, R91_15 hF, R91_16 hF, R91_17 hF, R91_18 hF, R91_21 hF, R91_22 hF, R91_24 hF, R91_25 hF, R91_26 hF, R91_27 hF, R91_29 hF, R91_30 hF, R91_31 hF, R91_32 hF, R91_44 hF, RR_M hR, RR_T hR, RR_K hR, RR_Bo hR, RR_Gr hR, RR_Ch hR, RR_Bx hR, RR_G hR, RR_C hR, RR_G0 hR, RR_C0 hR, RR_V hR, RR_O hR, RR_Se hR, RR_S2 hR, RR_L hR, RR_W hR, RR_H hR, RR_hSo hR, RR_hCe hR, RR_hBo hR, RR_hOt hR, RR_hMu hR, RR_Ta hR, RR_Ki hR, RR_Tr hR, RR_Is hR, RR_So hR, RR_Sz hR, RR_El hR, q_isMatter1 hS.F hS.R hS.W, hl, iv_add, iv_sub, iv_mul, iv_neg, iv_zero, iv_lt, iv_le, iv_eq, iv_div, rm_iv, tn_iv, ib_iv, if_true, if_pos, if_neg, if_false, true_and, some_cb, nm_eq]
    · simp (disch := omega) only [f_X12_boxOf, K91 hF, K92 hF, N92 hF, K93 hF, N93 hF, K94 hF, N94 hF, K95 hF, N95 hF, K96 hF, N96 hF, K97 hF, N97 hF, K98 hF, N98 hF, K99 hF, N99 hF, K100 hF, N100 hF, K101 hF, N101 hF, K102 hF, N102 hF, K103 hF, N103 hF, K104 hF, N104 hF, K105 hF, N105 hF, K106 hF, N106 hF, K107 hF, N107 hF, K108 hF, N108 hF, K109 hF, N109 hF, K110 hF, N110 hF, K111 hF, N111 hF, K112 hF, N112 hF, K113 hF, N113 hF, K114 hF, N114 hF, K115 hF, N115 hF, K116 hF, N116 hF, K117 hF, N117 hF, K118 hF, N118 hF, K119 hF, N119 hF, K120 hF, N120 hF, R91_1 hF, R91_2 hF, R91_3 hF, R91_4 hF, R91_5 hF, R91_6 hF, R91_7 hF, R91_8 hF, R91_9 hF, R91_10 hF, R91_11 hF, R91_12 hF, R91_13 hF, R91_14 hF, R91_15 hF, R91_16 hF, R91_17 hF, R91_18 hF, R91_21 hF, R91_22 hF, R91_24 hF, R91_25 hF, R91_26 hF, R91_27 hF, R91_29 hF, R91_30 hF, R91_31 hF, R91_32 hF, R91_44 hF, q_isMatter0 hS.F hS.R hS.W, hl, iv_add, iv_sub, iv_mul, iv_neg, iv_zero, iv_lt, iv_le, iv_eq, iv_div, rm_iv, tn_iv, ib_iv, if_true, if_pos, if_neg, if_false, true_and, some_cb, nm_eq, not_false_eq_true]
  · simp (disch := omega) only [f_X12_boxOf, iv_add, iv_sub, iv_mul, iv_neg, iv_zero, iv_lt, iv_le, iv_eq, iv_div, rm_iv, tn_iv, ib_iv, if_pos]
end Q
