section Q
variable {w : WD} {A : Int → Nat} {h : AH}
theorem lvM_dec (w : WD) (m : Int) : lvM w m ∨ ¬ lvM w m := Classical.em _
theorem M_of (hS : Sim w A h) (x1 x2 : Int32) : Both (f_X11_of 3 x1 x2) (f_X12_of 91 x1 x2) h := by
  obtain ⟨m, rfl, m1, m2⟩ := iv_ex x1
  obtain ⟨c, rfl, c1, c2⟩ := iv_ex x2
  have hF := hS.F
  have hR := hS.R
  by_cases hl : lvM w m
  · obtain ⟨⟨w1, w2⟩, -⟩ := hS.W
    obtain ⟨l1, l2⟩ := id hl
    obtain ⟨k1, k2, k3, k4, k5, -⟩ := hS.M hl
    have e0 : f_X11_of 3 (iv m) (iv c) h = some (iv (if c = 0 then wGr w m else if c = 1 then wCh w m else if c = 2 then wBx w m else if c = 3 then wH w m else -1), h) := by
      simp (disch := omega) only [f_X11_of, K3 hF, c_matterAt1 hF hS.C hS.W, hl, hS.mA hl, k1, k2, k3, k4, k5, some_cb, nm_eq, iv_add, iv_sub, iv_mul, iv_neg, iv_zero, iv_lt, iv_le, iv_eq, iv_div, rm_iv, tn_iv, ib_iv, if_true, if_false]
      by_cases a0 : c = 0
      · simp only [a0, if_true]
      by_cases a1 : c = 1
      · simp only [a1, if_true]; rfl
      by_cases a2 : c = 2
      · simp only [a2, if_true]; rfl
      by_cases a3 : c = 3
      · simp only [a3, if_true]; rfl
      simp only [a0, a1, a2, a3, if_false]
    have e1 : f_X12_of 91 (iv m) (iv c) h = some (iv (if c = 0 then wGr w m else if c = 1 then wCh w m else if c = 2 then wBx w m else if c = 3 then wH w m else -1), h) := by
      simp (disch := omega) only [f_X12_of, K91 hF, q_isMatter1 hF hR hS.W, hl, R91_1 hF, R91_2 hF, R91_3 hF, R91_12 hF, K92 hF, N92 hF, K93 hF, N93 hF, K94 hF, N94 hF, K103 hF, N103 hF, RR_Gr hR, RR_Ch hR, RR_Bx hR, RR_H hR, some_cb, nm_eq, iv_add, iv_sub, iv_mul, iv_neg, iv_zero, iv_lt, iv_le, iv_eq, iv_div, rm_iv, tn_iv, ib_iv, if_true, if_false, if_neg, true_and]
      by_cases a0 : c = 0
      · simp only [a0, if_true]
      by_cases a1 : c = 1
      · simp only [a1, if_true]; rfl
      by_cases a2 : c = 2
      · simp only [a2, if_true]; rfl
      by_cases a3 : c = 3
      · simp only [a3, if_true]; rfl
      simp only [a0, a1, a2, a3, if_false]
    exact Both.still hS e0 e1
  · exact Both.still hS (r := iv (-1)) (by simp (disch := omega) only [f_X11_of, K3 hF, c_matterAt0 hF hS.C hS.W, hl, some_cb, nm_eq, if_true, not_false_eq_true]) (by simp (disch := omega) only [f_X12_of, K91 hF, q_isMatter0 hF hR hS.W, hl, some_cb, nm_eq, iv_add, iv_sub, iv_mul, iv_neg, iv_zero, iv_lt, iv_le, iv_eq, iv_div, rm_iv, tn_iv, ib_iv, if_true, if_pos, not_false_eq_true])
theorem M_ends (hS : Sim w A h) (x1 x2 x3 : Int32) : Both (f_X11_ends 3 x1 x2 x3) (f_X12_ends 91 x1 x2 x3) h := by
  obtain ⟨t, rfl, t1, t2⟩ := iv_ex x1
  obtain ⟨c, rfl, c1, c2⟩ := iv_ex x2
  obtain ⟨e, rfl, e1, e2⟩ := iv_ex x3
  have hF := hS.F
  by_cases hb : isB w t
  · obtain ⟨t0, hl, tb⟩ := hb
    obtain ⟨m, hm⟩ : ∃ m, t / 100 = m := ⟨_, rfl⟩
    obtain ⟨b, hbb⟩ : ∃ b, t % 100 = b := ⟨_, rfl⟩
    rw [hm] at hl tb
    rw [hbb] at tb
    have b0 : 0 ≤ b := by omega
    obtain ⟨⟨x0, x1⟩, -⟩ := box_ran hS.W hl b0 tb
    obtain ⟨k1, -⟩ := hS.B hl b0 tb
    obtain ⟨⟨w1, w2⟩, -⟩ := hS.W
    obtain ⟨-, -, ⟨b2, b3⟩, -⟩ := hS.W.mat hl
    have hx : (12 * m + b) / 12 = m := by omega
    by_cases hc : isC w m c
    · obtain ⟨cc0, cg, ck⟩ := hc
      obtain ⟨g, hg⟩ : ∃ g, c / 10 = g := ⟨_, rfl⟩
      obtain ⟨k, hk⟩ : ∃ k, c % 10 = k := ⟨_, rfl⟩
      rw [hg] at cg
      rw [hk] at ck
      have g0 : 0 ≤ g := by omega
      have k0 : 0 ≤ k := by omega
      obtain ⟨⟨gg1, gg2⟩, ⟨gc1, gc2⟩, -⟩ := hS.W.mat hl
      by_cases q0 : e = 0
      · subst q0
        exact Both.still hS (r := iv (wLe w m (12 * m + b) g k)) (by simp (disch := omega) only [f_X11_ends, K3 hF, c_boxAt1 hS t2 t0 hm hbb hl tb, c_placeIn1 hS c2 hl b0 tb cc0 hg hk cg ck, f_X11_isEnd, zret1, k1, c_least hS hl b0 tb g0 cg k0 ck, some_cb, nm_eq, iv_add, iv_sub, iv_mul, iv_neg, iv_zero, iv_lt, iv_le, iv_eq, iv_div, rm_iv, tn_iv, ib_iv, if_true, if_neg]) (by simp (disch := omega) only [f_X12_ends, K91 hF, q_boxOf1 hS.Q t2 t0 hm hbb hl tb, hx, q_isCell1 hS.Q c2 hl cc0 hg hk cg ck, q_in1, q_least hS.Q hl b0 tb c2 cc0 hg hk cg ck, some_cb, nm_eq, iv_add, iv_sub, iv_mul, iv_neg, iv_zero, iv_lt, iv_le, iv_eq, iv_div, rm_iv, tn_iv, ib_iv, if_true, if_neg, if_pos])
      by_cases q1 : e = 1
      · subst q1
        exact Both.still hS (r := iv (wMo w m (12 * m + b) g k)) (by simp (disch := omega) only [f_X11_ends, K3 hF, c_boxAt1 hS t2 t0 hm hbb hl tb, c_placeIn1 hS c2 hl b0 tb cc0 hg hk cg ck, f_X11_isEnd, zret1, k1, c_most hS hl b0 tb g0 cg k0 ck, some_cb, nm_eq, iv_add, iv_sub, iv_mul, iv_neg, iv_zero, iv_lt, iv_le, iv_eq, iv_div, rm_iv, tn_iv, ib_iv, if_true, if_neg]) (by simp (disch := omega) only [f_X12_ends, K91 hF, q_boxOf1 hS.Q t2 t0 hm hbb hl tb, hx, q_isCell1 hS.Q c2 hl cc0 hg hk cg ck, q_in1, q_most hS.Q hl b0 tb c2 cc0 hg hk cg ck, some_cb, nm_eq, iv_add, iv_sub, iv_mul, iv_neg, iv_zero, iv_lt, iv_le, iv_eq, iv_div, rm_iv, tn_iv, ib_iv, if_true, if_neg, if_pos])
      exact Both.still hS (r := iv (-1)) (by simp (disch := omega) only [f_X11_ends, K3 hF, c_boxAt1 hS t2 t0 hm hbb hl tb, c_placeIn1 hS c2 hl b0 tb cc0 hg hk cg ck, f_X11_isEnd, zret0, q0, q1, some_cb, nm_eq, iv_add, iv_sub, iv_mul, iv_neg, iv_zero, iv_lt, iv_le, iv_eq, iv_div, rm_iv, tn_iv, ib_iv, if_true, if_neg, if_false]) (by simp (disch := omega) only [f_X12_ends, K91 hF, q_boxOf1 hS.Q t2 t0 hm hbb hl tb, hx, q_isCell1 hS.Q c2 hl cc0 hg hk cg ck, q_in0, some_cb, nm_eq, iv_add, iv_sub, iv_mul, iv_neg, iv_zero, iv_lt, iv_le, iv_eq, iv_div, rm_iv, tn_iv, ib_iv, if_true, if_neg, if_pos])
    · exact Both.still hS (r := iv (-1)) (by simp (disch := omega) only [f_X11_ends, K3 hF, c_boxAt1 hS t2 t0 hm hbb hl tb, c_placeIn0 hS c1 c2 hl b0 tb hc, some_cb, nm_eq, iv_add, iv_sub, iv_mul, iv_neg, iv_zero, iv_lt, iv_le, iv_eq, iv_div, rm_iv, tn_iv, ib_iv, if_true, if_pos]) (by simp (disch := omega) only [f_X12_ends, K91 hF, q_boxOf1 hS.Q t2 t0 hm hbb hl tb, hx, q_isCell0 hS.Q c1 c2 hl hc, some_cb, nm_eq, iv_add, iv_sub, iv_mul, iv_neg, iv_zero, iv_lt, iv_le, iv_eq, iv_div, rm_iv, tn_iv, ib_iv, if_true, if_pos, if_neg])
  · exact Both.still hS (r := iv (-1)) (by simp (disch := omega) only [f_X11_ends, K3 hF, c_boxAt0 hS t1 t2 hb, c_placeInN, some_cb, nm_eq, iv_add, iv_sub, iv_mul, iv_neg, iv_zero, iv_lt, iv_le, iv_eq, iv_div, rm_iv, tn_iv, ib_iv, if_true, if_pos]) (by simp (disch := omega) only [f_X12_ends, K91 hF, q_boxOf0 hS.Q t1 t2 hb, some_cb, nm_eq, iv_add, iv_sub, iv_mul, iv_neg, iv_zero, iv_lt, iv_le, iv_eq, iv_div, rm_iv, tn_iv, ib_iv, if_true, if_neg])
end Q
