/-! the smallest methods of both -/
theorem some_cb {α β γ : Type} (a : α) (c : γ) (E : α → γ → Option β) : cb (some (a, c)) E = E a c := rfl
theorem some_cbv {β γ : Type} (c : γ) (E : γ → Option β) : cbv (some c) E = E c := rfl
theorem nm_eq {α β : Type} (x : α) (E : α → β) : nm x E = E x := rfl
theorem zret0 (h : AH) : zret (iv 0) h = some (iv 0, h) := rfl
theorem zret1 (h : AH) : zret (iv 1) h = some (iv 1, h) := rfl
theorem Rg {x : Int32} {z : Int} (_ : x = iv z) : True := trivial
section Q
variable {w : WD} {A : Int → Nat} {h : AH}
theorem q_in1 {z a b : Int} (h1 : -2147483648 ≤ z) (h2 : z ≤ 2147483647) (h3 : -2147483648 ≤ a) (h4 : a ≤ 2147483647) (h5 : -2147483648 ≤ b) (h6 : b ≤ 2147483647) (hz : a ≤ z ∧ z ≤ b) : f_X12_in (iv z) (iv a) (iv b) h = some (iv 1, h) := by
  simp (disch := omega) only [f_X12_in, iv_add, iv_sub, iv_mul, iv_neg, iv_zero, iv_lt, iv_le, iv_eq, iv_div, rm_iv, tn_iv, ib_iv, if_neg, zret1]
theorem q_in0 {z a b : Int} (h1 : -2147483648 ≤ z) (h2 : z ≤ 2147483647) (h3 : -2147483648 ≤ a) (h4 : a ≤ 2147483647) (h5 : -2147483648 ≤ b) (h6 : b ≤ 2147483647) (hz : ¬ (a ≤ z ∧ z ≤ b)) : f_X12_in (iv z) (iv a) (iv b) h = some (iv 0, h) := by
  by_cases h7 : z < a
  · simp (disch := omega) only [f_X12_in, iv_add, iv_sub, iv_mul, iv_neg, iv_zero, iv_lt, iv_le, iv_eq, iv_div, rm_iv, tn_iv, ib_iv, if_pos, zret0]
  · simp (disch := omega) only [f_X12_in, iv_add, iv_sub, iv_mul, iv_neg, iv_zero, iv_lt, iv_le, iv_eq, iv_div, rm_iv, tn_iv, ib_iv, if_neg, if_pos, zret0]
theorem q_isMatter1 (hF : Fix h) (hR : RR w h) (hW : WI w) {m : Int} (h1 : -2147483648 ≤ m) (h2 : m ≤ 2147483647) (hm : lvM w m) : f_X12_isMatter 91 (iv m) h = some (iv 1, h) := by
  obtain ⟨⟨w1, w2⟩, -⟩ := hW
  obtain ⟨m1, m2⟩ := hm
  simp (disch := omega) only [f_X12_isMatter, K91 hF, K92 hF, N92 hF, K93 hF, N93 hF, K94 hF, N94 hF, K95 hF, N95 hF, K96 hF, N96 hF, K97 hF, N97 hF, K98 hF, N98 hF, K99 hF, N99 hF, K100 hF, N100 hF, K101 hF, N101 hF, K102 hF, N102 hF, K103 hF, N103 hF, K104 hF, N104 hF, K105 hF, N105 hF, K106 hF, N106 hF, K107 hF, N107 hF, K108 hF, N108 hF, K109 hF, N109 hF, K110 hF, N110 hF, K111 hF, N111 hF, K112 hF, N112 hF, K113 hF, N113 hF, K114 hF, N114 hF, K115 hF, N115 hF, K116 hF, N116 hF, K117 hF, N117 hF, K118 hF, N118 hF, K119 hF, N119 hF, K120 hF, N120 hF, R91_1 hF, R91_2 hF, R91_3 hF, R91_4 hF, R91_5 hF, R91_6 hF, R91_7 hF, R91_8 hF, R91_9 hF, R91_10 hF, R91_11 hF, R91_12 hF, R91_13 hF, R91_14 hF, R91_15 hF, R91_16 hF, R91_17 hF, R91_18 hF, R91_21 hF, R91_22 hF, R91_24 hF, R91_25 hF, R91_26 hF, R91_27 hF, R91_29 hF, R91_30 hF, R91_31 hF, R91_32 hF, R91_44 hF, RR_M hR, RR_T hR, RR_K hR, RR_Bo hR, RR_Gr hR, RR_Ch hR, RR_Bx hR, RR_G hR, RR_C hR, RR_G0 hR, RR_C0 hR, RR_V hR, RR_O hR, RR_Se hR, RR_S2 hR, RR_L hR, RR_W hR, RR_H hR, RR_hSo hR, RR_hCe hR, RR_hBo hR, RR_hOt hR, RR_hMu hR, RR_Ta hR, RR_Ki hR, RR_Tr hR, RR_Is hR, RR_So hR, RR_Sz hR, RR_El hR, iv_add, iv_sub, iv_mul, iv_neg, iv_zero, iv_lt, iv_le, iv_eq, iv_div, rm_iv, tn_iv, ib_iv, if_true, q_in1, some_cb, zret1]
theorem q_isMatter0 (hF : Fix h) (hR : RR w h) (hW : WI w) {m : Int} (h1 : -2147483648 ≤ m) (h2 : m ≤ 2147483647) (hm : ¬ lvM w m) : f_X12_isMatter 91 (iv m) h = some (iv 0, h) := by
  obtain ⟨⟨w1, w2⟩, -⟩ := hW
  unfold lvM at hm
  simp (disch := omega) only [f_X12_isMatter, K91 hF, K92 hF, N92 hF, K93 hF, N93 hF, K94 hF, N94 hF, K95 hF, N95 hF, K96 hF, N96 hF, K97 hF, N97 hF, K98 hF, N98 hF, K99 hF, N99 hF, K100 hF, N100 hF, K101 hF, N101 hF, K102 hF, N102 hF, K103 hF, N103 hF, K104 hF, N104 hF, K105 hF, N105 hF, K106 hF, N106 hF, K107 hF, N107 hF, K108 hF, N108 hF, K109 hF, N109 hF, K110 hF, N110 hF, K111 hF, N111 hF, K112 hF, N112 hF, K113 hF, N113 hF, K114 hF, N114 hF, K115 hF, N115 hF, K116 hF, N116 hF, K117 hF, N117 hF, K118 hF, N118 hF, K119 hF, N119 hF, K120 hF, N120 hF, R91_1 hF, R91_2 hF, R91_3 hF, R91_4 hF, R91_5 hF, R91_6 hF, R91_7 hF, R91_8 hF, R91_9 hF, R91_10 hF, R91_11 hF, R91_12 hF, R91_13 hF, R91_14 hF, R91_15 hF, R91_16 hF, R91_17 hF, R91_18 hF, R91_21 hF, R91_22 hF, R91_24 hF, R91_25 hF, R91_26 hF, R91_27 hF, R91_29 hF, R91_30 hF, R91_31 hF, R91_32 hF, R91_44 hF, RR_M hR, RR_T hR, RR_K hR, RR_Bo hR, RR_Gr hR, RR_Ch hR, RR_Bx hR, RR_G hR, RR_C hR, RR_G0 hR, RR_C0 hR, RR_V hR, RR_O hR, RR_Se hR, RR_S2 hR, RR_L hR, RR_W hR, RR_H hR, RR_hSo hR, RR_hCe hR, RR_hBo hR, RR_hOt hR, RR_hMu hR, RR_Ta hR, RR_Ki hR, RR_Tr hR, RR_Is hR, RR_So hR, RR_Sz hR, RR_El hR, iv_add, iv_sub, iv_mul, iv_neg, iv_zero, iv_lt, iv_le, iv_eq, iv_div, rm_iv, tn_iv, ib_iv, if_true, q_in0, some_cb, zret0]
theorem c_matterAt1 (hF : Fix h) (hC : Cls w A h) (hW : WI w) {m : Int} (h1 : -2147483648 ≤ m) (h2 : m ≤ 2147483647) (hm : lvM w m) : f_X11_matterAt 3 (iv m) h = some (A m, h) := by
  obtain ⟨⟨w1, w2⟩, -⟩ := hW
  obtain ⟨m1, m2⟩ := id hm
  simp (disch := omega) only [f_X11_matterAt, K3 hF, R3_1 hF, K7 hF, N7 hF, hC.1, iv_add, iv_sub, iv_mul, iv_neg, iv_zero, iv_lt, iv_le, iv_eq, iv_div, rm_iv, tn_iv, ib_iv, if_true, if_pos, if_neg, true_and, hC.2.2.2.2.2.2.1 m hm]
theorem c_matterAt0 (hF : Fix h) (hC : Cls w A h) (hW : WI w) {m : Int} (h1 : -2147483648 ≤ m) (h2 : m ≤ 2147483647) (hm : ¬ lvM w m) : f_X11_matterAt 3 (iv m) h = some (0, h) := by
  obtain ⟨⟨w1, w2⟩, -⟩ := hW
  unfold lvM at hm
  by_cases h7 : m < 0
  · simp (disch := omega) only [f_X11_matterAt, K3 hF, R3_1 hF, K7 hF, N7 hF, hC.1, iv_add, iv_sub, iv_mul, iv_neg, iv_zero, iv_lt, iv_le, iv_eq, iv_div, rm_iv, tn_iv, ib_iv, if_true, if_pos]
  · simp (disch := omega) only [f_X11_matterAt, K3 hF, R3_1 hF, K7 hF, N7 hF, hC.1, iv_add, iv_sub, iv_mul, iv_neg, iv_zero, iv_lt, iv_le, iv_eq, iv_div, rm_iv, tn_iv, ib_iv, if_true, if_pos, if_neg]
end Q
