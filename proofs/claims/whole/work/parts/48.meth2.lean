section Q
variable {w : WD} {A : Int → Nat} {h : AH}
/-- boxes of a matter, gone through by both -/
theorem sure_loop (hS : Sim w A h) {m c g k : Int} (hl : lvM w m) (c2 : c ≤ 2147483647) (cc0 : 0 ≤ c) (hg : c / 10 = g) (hk : c % 10 = k) (cg : g < wGr w m) (ck : k < wCh w m) : ∀ (n N : Nat) (b : Int) (bits : Int32), n < N → 0 ≤ b → b + n = wBx w m → ∃ r : Int32, lp b_X6_sureBoxes_4 (fun _ _ _ _ _ => none) N (A m) (iv (3 * g + k)) bits (iv b) h = some (r, h) ∧ lp b_X12_sure_16 (fun _ _ _ _ _ _ => none) N 91 (iv m) (iv c) bits (iv b) h = some (r, h) := by
  obtain ⟨⟨w1, w2⟩, -⟩ := hS.W; obtain ⟨⟨gg1, gg2⟩, ⟨gc1, gc2⟩, ⟨b2, b3⟩, ⟨hh1, hh2⟩, -⟩ := hS.W.mat hl; obtain ⟨l1, l2⟩ := id hl
  have hF := hS.F
  have hR := hS.R
  obtain ⟨k1, k2, k3, k4, k5, k6, k7, k8, k9, k10, k11, k12, k13, k14, k15, k16, k17⟩ := hS.M hl
  intro n
  induction n with
  | zero =>
    intro N b bits hN b0 hb
    obtain ⟨N, rfl⟩ : ∃ N', N = N' + 1 := ⟨N - 1, by omega⟩
    exact ⟨bits, by simp (disch := omega) only [lp_succ, b_X6_sureBoxes_4, k1, k4, iv_add, iv_sub, iv_mul, iv_neg, iv_zero, iv_lt, iv_le, iv_eq, iv_div, rm_iv, tn_iv, ib_iv, some_cb, nm_eq, if_true, if_pos, if_neg, if_false, true_and, Bool.true_eq_false, Bool.false_eq_true], by simp (disch := omega) only [lp_succ, b_X12_sure_16, K91 hF, R91_3 hF, K94 hF, N94 hF, RR_Bx hR, iv_add, iv_sub, iv_mul, iv_neg, iv_zero, iv_lt, iv_le, iv_eq, iv_div, rm_iv, tn_iv, ib_iv, some_cb, nm_eq, if_true, if_pos, if_neg, if_false, true_and, Bool.true_eq_false, Bool.false_eq_true]⟩
  | succ n ih =>
    intro N b bits hN b0 hb
    obtain ⟨N, rfl⟩ : ∃ N', N = N' + 1 := ⟨N - 1, by omega⟩
    have tb : b < wBx w m := by omega
    obtain ⟨⟨x0, x1⟩, -⟩ := box_ran hS.W hl b0 tb
    obtain ⟨o1, -⟩ := hS.B hl b0 tb
    have g0 : 0 ≤ g := by omega
    have k0 : 0 ≤ k := by omega
    obtain ⟨u1, u2, u3⟩ := le_rng hS.W hl b0 tb g0 cg k0 ck
    by_cases e : wMo w m (12 * m + b) g k - wLe w m (12 * m + b) g k = 0
    · obtain ⟨r, r1, r2⟩ := ih N (b + 1) (bits ||| (iv 1 <<< (iv b &&& 31))) (by omega) (by omega) (by omega)
      exact ⟨r, by simp (disch := omega) only [lp_succ, b_X6_sureBoxes_4, k1, k4, k6, k9, k10, k16 b b0 tb, o1, c_wide hS hl b0 tb g0 cg k0 ck, r1, e, iv_add, iv_sub, iv_mul, iv_neg, iv_zero, iv_lt, iv_le, iv_eq, iv_div, rm_iv, tn_iv, ib_iv, some_cb, nm_eq, if_true, if_pos, if_neg, if_false, true_and, Bool.true_eq_false, Bool.false_eq_true], by simp (disch := omega) only [lp_succ, b_X12_sure_16, K91 hF, R91_3 hF, K94 hF, N94 hF, RR_Bx hR, q_wide hS.Q hl b0 tb c2 cc0 hg hk cg ck, r2, e, iv_add, iv_sub, iv_mul, iv_neg, iv_zero, iv_lt, iv_le, iv_eq, iv_div, rm_iv, tn_iv, ib_iv, some_cb, nm_eq, if_true, if_pos, if_neg, if_false, true_and, Bool.true_eq_false, Bool.false_eq_true]⟩
    · obtain ⟨r, r1, r2⟩ := ih N (b + 1) bits (by omega) (by omega) (by omega)
      have or0 : bits ||| iv 0 = bits := Int32.or_zero
      exact ⟨r, by simp (disch := omega) only [lp_succ, b_X6_sureBoxes_4, k1, k4, k6, k9, k10, k16 b b0 tb, o1, c_wide hS hl b0 tb g0 cg k0 ck, r1, e, iv_add, iv_sub, iv_mul, iv_neg, iv_zero, iv_lt, iv_le, iv_eq, iv_div, rm_iv, tn_iv, ib_iv, some_cb, nm_eq, if_true, if_pos, if_neg, if_false, true_and, Bool.true_eq_false, Bool.false_eq_true], by simp (disch := omega) only [lp_succ, b_X12_sure_16, K91 hF, R91_3 hF, K94 hF, N94 hF, RR_Bx hR, q_wide hS.Q hl b0 tb c2 cc0 hg hk cg ck, r2, e, or0, iv_add, iv_sub, iv_mul, iv_neg, iv_zero, iv_lt, iv_le, iv_eq, iv_div, rm_iv, tn_iv, ib_iv, some_cb, nm_eq, if_true, if_pos, if_neg, if_false, true_and, Bool.true_eq_false, Bool.false_eq_true]⟩
theorem FU_gt {n : Nat} (h : n ≤ 100000) : n < FU := by unfold FU; omega
theorem M_sure (hS : Sim w A h) (x1 x2 : Int32) : Both (f_X11_sure 3 x1 x2) (f_X12_sure 91 x1 x2) h := by
  obtain ⟨m, rfl, m1, m2⟩ := iv_ex x1
  obtain ⟨c, rfl, c1, c2⟩ := iv_ex x2
  have hF := hS.F
  have hR := hS.R
  by_cases hl : lvM w m
  · by_cases hc : isC w m c
    · obtain ⟨⟨w1, w2⟩, -⟩ := hS.W; obtain ⟨⟨gg1, gg2⟩, ⟨gc1, gc2⟩, ⟨b2, b3⟩, ⟨hh1, hh2⟩, -⟩ := hS.W.mat hl; obtain ⟨l1, l2⟩ := id hl
      obtain ⟨cc0, cg, ck⟩ := hc; obtain ⟨g, hg⟩ : ∃ g, c / 10 = g := ⟨_, rfl⟩; obtain ⟨k, hk⟩ : ∃ k, c % 10 = k := ⟨_, rfl⟩; rw [hg] at cg; rw [hk] at ck; have g0 : 0 ≤ g := (by omega); have k0 : 0 ≤ k := (by omega)
      obtain ⟨r, r1, r2⟩ := sure_loop hS hl c2 cc0 hg hk cg ck (wBx w m).toNat FU 0 (iv 0) (FU_gt (by omega)) (by omega) (by omega)
      exact Both.still hS (r := r) (by simp (disch := omega) only [f_X11_sure, K3 hF, c_matterAt1 hF hS.C hS.W, hl, c_placeOf1 hS c2 hl cc0 hg hk cg ck, hS.M hl |>.1, f_X6_sureBoxes, f_X6_sureBoxes_4, r1, iv_add, iv_sub, iv_mul, iv_neg, iv_zero, iv_lt, iv_le, iv_eq, iv_div, rm_iv, tn_iv, ib_iv, some_cb, nm_eq, if_true, if_pos, if_neg, if_false, true_and, Bool.true_eq_false, Bool.false_eq_true]) (by simp (disch := omega) only [f_X12_sure, f_X12_sure_16, K91 hF, q_isAsked1 hS.Q c2 hl cc0 hg hk cg ck, r2, iv_add, iv_sub, iv_mul, iv_neg, iv_zero, iv_lt, iv_le, iv_eq, iv_div, rm_iv, tn_iv, ib_iv, some_cb, nm_eq, if_true, if_pos, if_neg, if_false, true_and, Bool.true_eq_false, Bool.false_eq_true])
    · exact Both.still hS (r := iv (-1)) (by simp (disch := omega) only [f_X11_sure, K3 hF, c_matterAt1 hF hS.C hS.W, hl, c_placeOf0 hS c1 c2 hl hc, iv_add, iv_sub, iv_mul, iv_neg, iv_zero, iv_lt, iv_le, iv_eq, iv_div, rm_iv, tn_iv, ib_iv, some_cb, nm_eq, if_true, if_pos, if_neg, if_false, true_and, Bool.true_eq_false, Bool.false_eq_true]) (by simp (disch := omega) only [f_X12_sure, K91 hF, q_isAsked0 hS.Q m1 m2 c1 c2 (fun q => hc q.2), iv_add, iv_sub, iv_mul, iv_neg, iv_zero, iv_lt, iv_le, iv_eq, iv_div, rm_iv, tn_iv, ib_iv, some_cb, nm_eq, if_true, if_pos, if_neg, if_false, true_and, Bool.true_eq_false, Bool.false_eq_true])
  · exact Both.still hS (r := iv (-1)) (by simp (disch := omega) only [f_X11_sure, K3 hF, c_matterAt0 hF hS.C hS.W, hl, c_placeOfN, not_false_eq_true, iv_add, iv_sub, iv_mul, iv_neg, iv_zero, iv_lt, iv_le, iv_eq, iv_div, rm_iv, tn_iv, ib_iv, some_cb, nm_eq, if_true, if_pos, if_neg, if_false, true_and, Bool.true_eq_false, Bool.false_eq_true]) (by simp (disch := omega) only [f_X12_sure, K91 hF, q_isAsked0 hS.Q m1 m2 c1 c2 (fun q => hl q.1), iv_add, iv_sub, iv_mul, iv_neg, iv_zero, iv_lt, iv_le, iv_eq, iv_div, rm_iv, tn_iv, ib_iv, some_cb, nm_eq, if_true, if_pos, if_neg, if_false, true_and, Bool.true_eq_false, Bool.false_eq_true])
end Q
