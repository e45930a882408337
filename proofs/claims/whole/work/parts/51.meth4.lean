theorem sF_flip {f f' : Int → Int} {j : Int} : ∀ (n : Nat) (b : Int), (∀ i : Int, i ≠ j → f' i = f i) → b ≤ j → j < b + n → sF f' b n = sF f b n + (f' j - f j) := by
  intro n
  induction n with
  | zero => intro b _ h1 h2; omega
  | succ n ih =>
    intro b h h1 h2
    rw [sF_succ, sF_succ]
    by_cases e : b = j
    · subst e
      rw [sF_congr (f := f') (g := f) n (b + 1) (fun i q1 q2 => h i (by omega))]
      omega
    · rw [ih (b + 1) h (by omega) (by omega), h b e]
      omega
section Q
variable {w : WD} {A : Int → Nat} {h : AH}
theorem M_inAll (hS : Sim w A h) (x1 x2 x3 : Int32) : Both (f_X11_inAll 3 x1 x2 x3) (f_X12_inAll 91 x1 x2 x3) h := by
  obtain ⟨m, rfl, m1, m2⟩ := iv_ex x1
  obtain ⟨c, rfl, c1, c2⟩ := iv_ex x2
  obtain ⟨e, rfl, e1, e2⟩ := iv_ex x3
  have hF := hS.F
  by_cases hl : lvM w m
  · by_cases hc : isC w m c
    · obtain ⟨cc0, cg, ck⟩ := hc; obtain ⟨g, hg⟩ : ∃ g, c / 10 = g := ⟨_, rfl⟩; obtain ⟨k, hk⟩ : ∃ k, c % 10 = k := ⟨_, rfl⟩; rw [hg] at cg; rw [hk] at ck; have g0 : 0 ≤ g := (by omega); have k0 : 0 ≤ k := (by omega)
      by_cases he : 0 ≤ e ∧ e ≤ 3
      · obtain ⟨he0, he1⟩ := he
        obtain ⟨⟨w1, w2⟩, -⟩ := hS.W; obtain ⟨⟨gg1, gg2⟩, ⟨gc1, gc2⟩, ⟨b2, b3⟩, ⟨hh1, hh2⟩, -⟩ := hS.W.mat hl; obtain ⟨l1, l2⟩ := id hl
        obtain ⟨o1, -⟩ := hS.M hl
        obtain ⟨a1, a2, a3⟩ := aLe_rng hS.W hl g0 cg k0 ck
        obtain ⟨a4, a5⟩ := aGr_rng hS.W hl g0 cg
        have hg3 : (3 * g + k) / 3 = g := by omega
        by_cases p : e % 2 = 0
        · have hq := q_inAll_loop hS.Q hl c2 cc0 hg hk cg ck he0 he1 a1 (by omega)
          refine Both.still hS (r := iv (if e < 2 then aLe w m g k else if aGr w m g = 0 then -2000000000 else 1000 * aLe w m g k / aGr w m g)) ?_ (by simp (disch := omega) only [f_X12_inAll, K91 hF, q_isAsked1 hS.Q c2 hl cc0 hg hk cg ck, q_in1, q_leastAll hS.Q hl c2 cc0 hg hk cg ck, hq, p, iv_add, iv_sub, iv_mul, iv_neg, iv_zero, iv_lt, iv_le, iv_eq, iv_div, rm_iv, tn_iv, ib_iv, some_cb, nm_eq, if_true, if_pos, if_neg, if_false, true_and, Bool.true_eq_false, Bool.false_eq_true])
          by_cases q : e < 2
          · simp (disch := omega) only [f_X11_inAll, K3 hF, c_matterAt1 hF hS.C hS.W, hl, c_placeOf1 hS c2 hl cc0 hg hk cg ck, o1, c_endInAll0 hS hl g0 cg k0 ck, p, iv_add, iv_sub, iv_mul, iv_neg, iv_zero, iv_lt, iv_le, iv_eq, iv_div, rm_iv, tn_iv, ib_iv, some_cb, nm_eq, if_true, if_pos, if_neg, if_false, true_and, Bool.true_eq_false, Bool.false_eq_true]
          · by_cases z : aGr w m g = 0
            · simp (disch := omega) only [f_X11_inAll, K3 hF, c_matterAt1 hF hS.C hS.W, hl, c_placeOf1 hS c2 hl cc0 hg hk cg ck, o1, c_endInAll0 hS hl g0 cg k0 ck, c_groupInAll hS hl g0 cg, hg3, p, z, iv_add, iv_sub, iv_mul, iv_neg, iv_zero, iv_lt, iv_le, iv_eq, iv_div, rm_iv, tn_iv, ib_iv, some_cb, nm_eq, if_true, if_pos, if_neg, if_false, true_and, Bool.true_eq_false, Bool.false_eq_true]
            · simp (disch := omega) only [f_X11_inAll, K3 hF, c_matterAt1 hF hS.C hS.W, hl, c_placeOf1 hS c2 hl cc0 hg hk cg ck, o1, c_endInAll0 hS hl g0 cg k0 ck, c_groupInAll hS hl g0 cg, hg3, p, z, iv_add, iv_sub, iv_mul, iv_neg, iv_zero, iv_lt, iv_le, iv_eq, iv_div, rm_iv, tn_iv, ib_iv, some_cb, nm_eq, if_true, if_pos, if_neg, if_false, true_and, Bool.true_eq_false, Bool.false_eq_true]
              rw [Int.mul_comm]
        · have p1 : e % 2 = 1 := by omega
          have hq := q_inAll_loop hS.Q hl c2 cc0 hg hk cg ck he0 he1 (v := aMo w m g k) (by omega) (by omega)
          refine Both.still hS (r := iv (if e < 2 then aMo w m g k else if aGr w m g = 0 then -2000000000 else 1000 * aMo w m g k / aGr w m g)) ?_ (by simp (disch := omega) only [f_X12_inAll, K91 hF, q_isAsked1 hS.Q c2 hl cc0 hg hk cg ck, q_in1, q_mostAll hS.Q hl c2 cc0 hg hk cg ck, hq, p1, iv_add, iv_sub, iv_mul, iv_neg, iv_zero, iv_lt, iv_le, iv_eq, iv_div, rm_iv, tn_iv, ib_iv, some_cb, nm_eq, if_true, if_pos, if_neg, if_false, true_and, Bool.true_eq_false, Bool.false_eq_true])
          by_cases q : e < 2
          · simp (disch := omega) only [f_X11_inAll, K3 hF, c_matterAt1 hF hS.C hS.W, hl, c_placeOf1 hS c2 hl cc0 hg hk cg ck, o1, c_endInAll1 hS hl g0 cg k0 ck, p1, iv_add, iv_sub, iv_mul, iv_neg, iv_zero, iv_lt, iv_le, iv_eq, iv_div, rm_iv, tn_iv, ib_iv, some_cb, nm_eq, if_true, if_pos, if_neg, if_false, true_and, Bool.true_eq_false, Bool.false_eq_true]
          · by_cases z : aGr w m g = 0
            · simp (disch := omega) only [f_X11_inAll, K3 hF, c_matterAt1 hF hS.C hS.W, hl, c_placeOf1 hS c2 hl cc0 hg hk cg ck, o1, c_endInAll1 hS hl g0 cg k0 ck, c_groupInAll hS hl g0 cg, hg3, p1, z, iv_add, iv_sub, iv_mul, iv_neg, iv_zero, iv_lt, iv_le, iv_eq, iv_div, rm_iv, tn_iv, ib_iv, some_cb, nm_eq, if_true, if_pos, if_neg, if_false, true_and, Bool.true_eq_false, Bool.false_eq_true]
            · simp (disch := omega) only [f_X11_inAll, K3 hF, c_matterAt1 hF hS.C hS.W, hl, c_placeOf1 hS c2 hl cc0 hg hk cg ck, o1, c_endInAll1 hS hl g0 cg k0 ck, c_groupInAll hS hl g0 cg, hg3, p1, z, iv_add, iv_sub, iv_mul, iv_neg, iv_zero, iv_lt, iv_le, iv_eq, iv_div, rm_iv, tn_iv, ib_iv, some_cb, nm_eq, if_true, if_pos, if_neg, if_false, true_and, Bool.true_eq_false, Bool.false_eq_true]
              rw [Int.mul_comm]
      · refine Both.still hS (r := iv (-2000000000)) ?_ (by simp (disch := omega) only [f_X12_inAll, K91 hF, q_isAsked1 hS.Q c2 hl cc0 hg hk cg ck, q_in0, iv_add, iv_sub, iv_mul, iv_neg, iv_zero, iv_lt, iv_le, iv_eq, iv_div, rm_iv, tn_iv, ib_iv, some_cb, nm_eq, if_true, if_pos, if_neg, if_false, true_and, Bool.true_eq_false, Bool.false_eq_true])
        by_cases q : e < 0
        · simp (disch := omega) only [f_X11_inAll, K3 hF, c_matterAt1 hF hS.C hS.W, hl, c_placeOf1 hS c2 hl cc0 hg hk cg ck, iv_add, iv_sub, iv_mul, iv_neg, iv_zero, iv_lt, iv_le, iv_eq, iv_div, rm_iv, tn_iv, ib_iv, some_cb, nm_eq, if_true, if_pos, if_neg, if_false, true_and, Bool.true_eq_false, Bool.false_eq_true]
        · simp (disch := omega) only [f_X11_inAll, K3 hF, c_matterAt1 hF hS.C hS.W, hl, c_placeOf1 hS c2 hl cc0 hg hk cg ck, iv_add, iv_sub, iv_mul, iv_neg, iv_zero, iv_lt, iv_le, iv_eq, iv_div, rm_iv, tn_iv, ib_iv, some_cb, nm_eq, if_true, if_pos, if_neg, if_false, true_and, Bool.true_eq_false, Bool.false_eq_true]
    · exact Both.still hS (r := iv (-2000000000)) (by simp (disch := omega) only [f_X11_inAll, K3 hF, c_matterAt1 hF hS.C hS.W, hl, c_placeOf0 hS c1 c2 hl hc, iv_add, iv_sub, iv_mul, iv_neg, iv_zero, iv_lt, iv_le, iv_eq, iv_div, rm_iv, tn_iv, ib_iv, some_cb, nm_eq, if_true, if_pos, if_neg, if_false, true_and, Bool.true_eq_false, Bool.false_eq_true]) (by simp (disch := omega) only [f_X12_inAll, K91 hF, q_isAsked0 hS.Q m1 m2 c1 c2 (fun q => hc q.2), iv_add, iv_sub, iv_mul, iv_neg, iv_zero, iv_lt, iv_le, iv_eq, iv_div, rm_iv, tn_iv, ib_iv, some_cb, nm_eq, if_true, if_pos, if_neg, if_false, true_and, Bool.true_eq_false, Bool.false_eq_true])
  · exact Both.still hS (r := iv (-2000000000)) (by simp (disch := omega) only [f_X11_inAll, K3 hF, c_matterAt0 hF hS.C hS.W, hl, c_placeOfN, not_false_eq_true, iv_add, iv_sub, iv_mul, iv_neg, iv_zero, iv_lt, iv_le, iv_eq, iv_div, rm_iv, tn_iv, ib_iv, some_cb, nm_eq, if_true, if_pos, if_neg, if_false, true_and, Bool.true_eq_false, Bool.false_eq_true]) (by simp (disch := omega) only [f_X12_inAll, K91 hF, q_isAsked0 hS.Q m1 m2 c1 c2 (fun q => hl q.1), iv_add, iv_sub, iv_mul, iv_neg, iv_zero, iv_lt, iv_le, iv_eq, iv_div, rm_iv, tn_iv, ib_iv, some_cb, nm_eq, if_true, if_pos, if_neg, if_false, true_and, Bool.true_eq_false, Bool.false_eq_true])
def wDb (w : WD) (m g k b : Int) : Int := wMo w m (12 * m + b) g k - wLe w m (12 * m + b) g k
/-- the widest box that is not among those of the bits -/
def Wid (w : WD) (m g k : Int) (bits : Int32) (n rc rr : Int) : Prop := (rc = -1 ∧ rr = -2 ∧ ∀ j : Int, 0 ≤ j → j < n → tbit bits j = false → wDb w m g k j ≤ 0) ∨ (rc = rr ∧ 0 ≤ rr ∧ rr < n ∧ tbit bits rr = false ∧ 0 < wDb w m g k rr)
theorem wid_loop (hS : Sim w A h) {m c g k : Int} (hl : lvM w m) (c2 : c ≤ 2147483647) (cc0 : 0 ≤ c) (hg : c / 10 = g) (hk : c % 10 = k) (cg : g < wGr w m) (ck : k < wCh w m) {bits : Int32} : ∀ (n N : Nat), n < N → ∀ (b rc rr mu : Int), 0 ≤ b → b + n = wBx w m → Wid w m g k bits b rc rr → (mu = if rr < 0 then 0 else wDb w m g k rr) → ∃ rc' rr' : Int, lp b_X6_widest_8 (fun _ _ _ _ _ _ _ => none) N (A m) (iv (3 * g + k)) bits (iv rc) (iv mu) (iv b) h = some (iv rc', h) ∧ lp b_X12_widest_10 (fun _ _ _ _ _ _ _ _ => none) N 91 (iv m) (iv c) bits (iv rr) (iv mu) (iv b) h = some (iv rr', h) ∧ Wid w m g k bits (wBx w m) rc' rr' := by
  obtain ⟨⟨w1, w2⟩, -⟩ := hS.W; obtain ⟨⟨gg1, gg2⟩, ⟨gc1, gc2⟩, ⟨b2, b3⟩, ⟨hh1, hh2⟩, -⟩ := hS.W.mat hl; obtain ⟨l1, l2⟩ := id hl
  obtain ⟨k1, k2, k3, k4, k5, k6, k7, k8, k9, k10, k11, k12, k13, k14, k15, k16, k17⟩ := hS.M hl
  have hF := hS.F
  have hR := hS.R
  have g0 : 0 ≤ g := by omega
  have k0 : 0 ≤ k := by omega
  intro n
  induction n with
  | zero =>
    intro N hN; obtain ⟨N, rfl⟩ : ∃ N', N = N' + 1 := ⟨N - 1, (by omega)⟩
    intro b rc rr mu b0 hb hw _
    refine ⟨rc, rr, by simp (disch := omega) only [lp_succ, b_X6_widest_8, k1, k4, iv_add, iv_sub, iv_mul, iv_neg, iv_zero, iv_lt, iv_le, iv_eq, iv_div, rm_iv, tn_iv, ib_iv, some_cb, nm_eq, if_true, if_pos, if_neg, if_false, true_and, Bool.true_eq_false, Bool.false_eq_true], by simp (disch := omega) only [lp_succ, b_X12_widest_10, K91 hF, R91_3 hF, K94 hF, N94 hF, RR_Bx hR, iv_add, iv_sub, iv_mul, iv_neg, iv_zero, iv_lt, iv_le, iv_eq, iv_div, rm_iv, tn_iv, ib_iv, some_cb, nm_eq, if_true, if_pos, if_neg, if_false, true_and, Bool.true_eq_false, Bool.false_eq_true], ?_⟩
    rw [show wBx w m = b by omega]; exact hw
  | succ n ih =>
    intro N hN; obtain ⟨N, rfl⟩ : ∃ N', N = N' + 1 := ⟨N - 1, (by omega)⟩
    intro b rc rr mu b0 hb hw hmu
    have tb : b < wBx w m := by omega
    obtain ⟨⟨x0, x1⟩, -⟩ := box_ran hS.W hl b0 tb
    obtain ⟨o1, -⟩ := hS.B hl b0 tb
    obtain ⟨u1, u2, u3⟩ := le_rng hS.W hl b0 tb g0 cg k0 ck
    have hD : wMo w m (12 * m + b) g k - wLe w m (12 * m + b) g k = wDb w m g k b := rfl
    have hmr : 0 ≤ mu ∧ mu ≤ 99 := by
      by_cases z : rr < 0
      · rw [if_pos z] at hmu; omega
      · rw [if_neg z] at hmu
        rcases hw with ⟨z1, z2, -⟩ | ⟨z1, z2, z3, z4, z5⟩
        · omega
        · have := le_rng hS.W hl z2 (show rr < wBx w m by omega) g0 cg k0 ck
          unfold wDb at hmu z5
          omega
    by_cases q : tbit bits b = false
    · by_cases q2 : mu < wDb w m g k b
      · have hw' : Wid w m g k bits (b + 1) b b := Or.inr ⟨rfl, b0, by omega, q, by omega⟩
        obtain ⟨rc', rr', r1, r2, r3⟩ := ih N (by omega) (b + 1) b b (wDb w m g k b) (by omega) (by omega) hw' (by rw [if_neg (by omega)])
        exact ⟨rc', rr', by simp (disch := omega) only [lp_succ, b_X6_widest_8, k1, k4, k6, k9, k10, k16 b b0 tb, o1, c_wide hS hl b0 tb g0 cg k0 ck, hD, bit0, q, r1, iv_add, iv_sub, iv_mul, iv_neg, iv_zero, iv_lt, iv_le, iv_eq, iv_div, rm_iv, tn_iv, ib_iv, some_cb, nm_eq, if_true, if_pos, if_neg, if_false, true_and, Bool.true_eq_false, Bool.false_eq_true], by simp (disch := omega) only [lp_succ, b_X12_widest_10, K91 hF, R91_3 hF, K94 hF, N94 hF, RR_Bx hR, q_wide hS.Q hl b0 tb c2 cc0 hg hk cg ck, hD, bit0, q, r2, iv_add, iv_sub, iv_mul, iv_neg, iv_zero, iv_lt, iv_le, iv_eq, iv_div, rm_iv, tn_iv, ib_iv, some_cb, nm_eq, if_true, if_pos, if_neg, if_false, true_and, Bool.true_eq_false, Bool.false_eq_true], r3⟩
      · have hw' : Wid w m g k bits (b + 1) rc rr := by
          rcases hw with ⟨z1, z2, z3⟩ | ⟨z1, z2, z3, z4, z5⟩
          · refine Or.inl ⟨z1, z2, fun j j0 j1 jt => ?_⟩
            by_cases e : j = b
            · subst e; rw [if_pos (by omega)] at hmu; omega
            · exact z3 j j0 (by omega) jt
          · exact Or.inr ⟨z1, z2, by omega, z4, z5⟩
        obtain ⟨rc', rr', r1, r2, r3⟩ := ih N (by omega) (b + 1) rc rr mu (by omega) (by omega) hw' hmu
        exact ⟨rc', rr', by simp (disch := omega) only [lp_succ, b_X6_widest_8, k1, k4, k6, k9, k10, k16 b b0 tb, o1, c_wide hS hl b0 tb g0 cg k0 ck, hD, bit0, q, r1, iv_add, iv_sub, iv_mul, iv_neg, iv_zero, iv_lt, iv_le, iv_eq, iv_div, rm_iv, tn_iv, ib_iv, some_cb, nm_eq, if_true, if_pos, if_neg, if_false, true_and, Bool.true_eq_false, Bool.false_eq_true], by simp (disch := omega) only [lp_succ, b_X12_widest_10, K91 hF, R91_3 hF, K94 hF, N94 hF, RR_Bx hR, q_wide hS.Q hl b0 tb c2 cc0 hg hk cg ck, hD, bit0, q, r2, iv_add, iv_sub, iv_mul, iv_neg, iv_zero, iv_lt, iv_le, iv_eq, iv_div, rm_iv, tn_iv, ib_iv, some_cb, nm_eq, if_true, if_pos, if_neg, if_false, true_and, Bool.true_eq_false, Bool.false_eq_true], r3⟩
    · have hw' : Wid w m g k bits (b + 1) rc rr := by
        rcases hw with ⟨z1, z2, z3⟩ | ⟨z1, z2, z3, z4, z5⟩
        · refine Or.inl ⟨z1, z2, fun j j0 j1 jt => ?_⟩
          by_cases e : j = b
          · subst e; exact absurd jt q
          · exact z3 j j0 (by omega) jt
        · exact Or.inr ⟨z1, z2, by omega, z4, z5⟩
      obtain ⟨rc', rr', r1, r2, r3⟩ := ih N (by omega) (b + 1) rc rr mu (by omega) (by omega) hw' hmu
      exact ⟨rc', rr', by simp (disch := omega) only [lp_succ, b_X6_widest_8, k1, k4, bit0, q, r1, iv_add, iv_sub, iv_mul, iv_neg, iv_zero, iv_lt, iv_le, iv_eq, iv_div, rm_iv, tn_iv, ib_iv, some_cb, nm_eq, if_true, if_pos, if_neg, if_false, true_and, Bool.true_eq_false, Bool.false_eq_true], by simp (disch := omega) only [lp_succ, b_X12_widest_10, K91 hF, R91_3 hF, K94 hF, N94 hF, RR_Bx hR, bit0, q, r2, iv_add, iv_sub, iv_mul, iv_neg, iv_zero, iv_lt, iv_le, iv_eq, iv_div, rm_iv, tn_iv, ib_iv, some_cb, nm_eq, if_true, if_pos, if_neg, if_false, true_and, Bool.true_eq_false, Bool.false_eq_true], r3⟩
theorem wid (hS : Sim w A h) {m c g k : Int} (hl : lvM w m) (c2 : c ≤ 2147483647) (cc0 : 0 ≤ c) (hg : c / 10 = g) (hk : c % 10 = k) (cg : g < wGr w m) (ck : k < wCh w m) (bits : Int32) : ∃ rc rr : Int, f_X6_widest (A m) (iv (3 * g + k)) bits h = some (iv rc, h) ∧ f_X12_widest 91 (iv m) (iv c) bits h = some (iv rr, h) ∧ Wid w m g k bits (wBx w m) rc rr := by
  obtain ⟨⟨w1, w2⟩, -⟩ := hS.W; obtain ⟨⟨gg1, gg2⟩, ⟨gc1, gc2⟩, ⟨b2, b3⟩, ⟨hh1, hh2⟩, -⟩ := hS.W.mat hl; obtain ⟨l1, l2⟩ := id hl
  exact wid_loop hS hl c2 cc0 hg hk cg ck (wBx w m).toNat FU (FU_gt (by omega)) 0 (-1) (-2) 0 (by omega) (by omega) (Or.inl ⟨rfl, rfl, fun j j0 j1 => by omega⟩) (by rw [if_pos (by omega)])
theorem M_next (hS : Sim w A h) (x1 x2 : Int32) : Both (f_X11_next 3 x1 x2) (f_X12_next 91 x1 x2) h := by
  obtain ⟨m, rfl, m1, m2⟩ := iv_ex x1
  obtain ⟨c, rfl, c1, c2⟩ := iv_ex x2
  have hF := hS.F
  by_cases hl : lvM w m
  · by_cases hc : isC w m c
    · obtain ⟨⟨w1, w2⟩, -⟩ := hS.W; obtain ⟨⟨gg1, gg2⟩, ⟨gc1, gc2⟩, ⟨b2, b3⟩, ⟨hh1, hh2⟩, -⟩ := hS.W.mat hl; obtain ⟨l1, l2⟩ := id hl
      obtain ⟨cc0, cg, ck⟩ := hc; obtain ⟨g, hg⟩ : ∃ g, c / 10 = g := ⟨_, rfl⟩; obtain ⟨k, hk⟩ : ∃ k, c % 10 = k := ⟨_, rfl⟩; rw [hg] at cg; rw [hk] at ck; have g0 : 0 ≤ g := (by omega); have k0 : 0 ≤ k := (by omega)
      obtain ⟨rc, rr, r1, r2, r3⟩ := wid hS hl c2 cc0 hg hk cg ck (iv 0)
      obtain ⟨o1, -⟩ := hS.M hl
      refine Both.still hS (r := iv rr) ?_ (by simp (disch := omega) only [f_X12_next, K91 hF, q_isAsked1 hS.Q c2 hl cc0 hg hk cg ck, r2, iv_add, iv_sub, iv_mul, iv_neg, iv_zero, iv_lt, iv_le, iv_eq, iv_div, rm_iv, tn_iv, ib_iv, some_cb, nm_eq, if_true, if_pos, if_neg, if_false, true_and, Bool.true_eq_false, Bool.false_eq_true])
      rcases r3 with ⟨z1, z2, -⟩ | ⟨z1, z2, z3, -⟩
      · subst z1; subst z2
        simp (disch := omega) only [f_X11_next, K3 hF, c_matterAt1 hF hS.C hS.W, hl, c_placeOf1 hS c2 hl cc0 hg hk cg ck, o1, r1, iv_add, iv_sub, iv_mul, iv_neg, iv_zero, iv_lt, iv_le, iv_eq, iv_div, rm_iv, tn_iv, ib_iv, some_cb, nm_eq, if_true, if_pos, if_neg, if_false, true_and, Bool.true_eq_false, Bool.false_eq_true]
      · subst z1
        simp (disch := omega) only [f_X11_next, K3 hF, c_matterAt1 hF hS.C hS.W, hl, c_placeOf1 hS c2 hl cc0 hg hk cg ck, o1, r1, iv_add, iv_sub, iv_mul, iv_neg, iv_zero, iv_lt, iv_le, iv_eq, iv_div, rm_iv, tn_iv, ib_iv, some_cb, nm_eq, if_true, if_pos, if_neg, if_false, true_and, Bool.true_eq_false, Bool.false_eq_true]
    · exact Both.still hS (r := iv (-1)) (by simp (disch := omega) only [f_X11_next, K3 hF, c_matterAt1 hF hS.C hS.W, hl, c_placeOf0 hS c1 c2 hl hc, iv_add, iv_sub, iv_mul, iv_neg, iv_zero, iv_lt, iv_le, iv_eq, iv_div, rm_iv, tn_iv, ib_iv, some_cb, nm_eq, if_true, if_pos, if_neg, if_false, true_and, Bool.true_eq_false, Bool.false_eq_true]) (by simp (disch := omega) only [f_X12_next, K91 hF, q_isAsked0 hS.Q m1 m2 c1 c2 (fun q => hc q.2), iv_add, iv_sub, iv_mul, iv_neg, iv_zero, iv_lt, iv_le, iv_eq, iv_div, rm_iv, tn_iv, ib_iv, some_cb, nm_eq, if_true, if_pos, if_neg, if_false, true_and, Bool.true_eq_false, Bool.false_eq_true])
  · exact Both.still hS (r := iv (-1)) (by simp (disch := omega) only [f_X11_next, K3 hF, c_matterAt0 hF hS.C hS.W, hl, c_placeOfN, not_false_eq_true, iv_add, iv_sub, iv_mul, iv_neg, iv_zero, iv_lt, iv_le, iv_eq, iv_div, rm_iv, tn_iv, ib_iv, some_cb, nm_eq, if_true, if_pos, if_neg, if_false, true_and, Bool.true_eq_false, Bool.false_eq_true]) (by simp (disch := omega) only [f_X12_next, K91 hF, q_isAsked0 hS.Q m1 m2 c1 c2 (fun q => hl q.1), iv_add, iv_sub, iv_mul, iv_neg, iv_zero, iv_lt, iv_le, iv_eq, iv_div, rm_iv, tn_iv, ib_iv, some_cb, nm_eq, if_true, if_pos, if_neg, if_false, true_and, Bool.true_eq_false, Bool.false_eq_true])
/-- what is left by bits -/
def lft (w : WD) (m g k : Int) (bits : Int32) : Int := sF (fun b => if tbit bits b then 0 else wDb w m g k b) 0 (wBx w m).toNat
def cnB (bits : Int32) (n : Nat) : Int := sF (fun b => if tbit bits b then 1 else 0) 0 n
theorem opens_loop (hS : Sim w A h) {m c g k v : Int} (hl : lvM w m) (c2 : c ≤ 2147483647) (cc0 : 0 ≤ c) (hg : c / 10 = g) (hk : c % 10 = k) (cg : g < wGr w m) (ck : k < wCh w m) (v0 : 0 ≤ v) (v1 : v ≤ 9999) : ∀ (n N : Nat), n < N → ∀ (o : Int) (bits : Int32), 0 ≤ o → o + n = wBx w m → cnB bits (wBx w m).toNat = o → lft w m g k bits ≤ 1188 → ∃ r : Int32, lp b_X6_openingsTill_20 (fun _ _ _ _ _ _ _ => none) N (A m) (iv (3 * g + k)) (iv v) (iv (lft w m g k bits)) bits (iv o) h = some (r, h) ∧ lp b_X12_opens_43 (fun _ _ _ _ _ _ _ _ => none) N 91 (iv m) (iv c) (iv v) (iv (lft w m g k bits)) bits (iv o) h = some (r, h) := by
  obtain ⟨⟨w1, w2⟩, -⟩ := hS.W; obtain ⟨⟨gg1, gg2⟩, ⟨gc1, gc2⟩, ⟨b2, b3⟩, ⟨hh1, hh2⟩, -⟩ := hS.W.mat hl; obtain ⟨l1, l2⟩ := id hl
  obtain ⟨k1, k2, k3, k4, k5, k6, k7, k8, k9, k10, k11, k12, k13, k14, k15, k16, k17⟩ := hS.M hl
  have hF := hS.F
  have g0 : 0 ≤ g := by omega
  have k0 : 0 ≤ k := by omega
  have wd0 : ∀ j : Int, 0 ≤ j → j < wBx w m → 0 ≤ wDb w m g k j ∧ wDb w m g k j ≤ 99 := fun j j0 j1 => by
    obtain ⟨u1, u2, u3⟩ := le_rng hS.W hl j0 j1 g0 cg k0 ck
    unfold wDb
    omega
  have l0 : ∀ bits : Int32, 0 ≤ lft w m g k bits := fun bits => by
    have := sF_ge (fun b => if tbit bits b then 0 else wDb w m g k b) 0 (wBx w m).toNat 0 (fun i i0 i1 => by
      show 0 ≤ if tbit bits i = true then 0 else wDb w m g k i
      have := wd0 i i0 (by omega)
      split <;> omega)
    unfold lft
    omega
  intro n
  induction n with
  | zero =>
    intro N hN; obtain ⟨N, rfl⟩ : ∃ N', N = N' + 1 := ⟨N - 1, (by omega)⟩
    intro o bits o0 ho hc hlt
    have hz : lft w m g k bits ≤ v := by
      apply Int.not_lt.mp
      intro hv
      obtain ⟨i, i1, i2, i3⟩ := sF_pos _ _ (show 0 < lft w m g k bits by omega)
      have i3 : 0 < (if tbit bits i = true then 0 else wDb w m g k i) := i3
      have hb : tbit bits i = false := by
        cases hh : tbit bits i with
        | false => rfl
        | true => rw [hh, if_pos rfl] at i3; omega
      have e1 := sF_le (fun b => if tbit bits b then (1 : Int) else 0) 1 (wBx w m).toNat 0 (fun j _ _ => by split <;> omega)
      have e2 := sF_flip (f := fun b => if tbit bits b then (1 : Int) else 0) (f' := fun b => if b = i then 1 else if tbit bits b then (1 : Int) else 0) (j := i) (wBx w m).toNat 0 (fun j hj => if_neg hj) i1 i2
      have e3 := sF_le (fun b => if b = i then 1 else if tbit bits b then (1 : Int) else 0) 1 (wBx w m).toNat 0 (fun j _ _ => by split <;> (try split) <;> omega)
      rw [if_pos rfl, hb, if_neg (by decide)] at e2
      unfold cnB at hc
      omega
    have := l0 bits
    exact ⟨iv (wBx w m), by simp (disch := omega) only [lp_succ, b_X6_openingsTill_20, k1, k4, iv_add, iv_sub, iv_mul, iv_neg, iv_zero, iv_lt, iv_le, iv_eq, iv_div, rm_iv, tn_iv, ib_iv, some_cb, nm_eq, if_true, if_pos, if_neg, if_false, true_and, Bool.true_eq_false, Bool.false_eq_true], by
      rw [show wBx w m = o by omega]
      simp (disch := omega) only [lp_succ, b_X12_opens_43, iv_add, iv_sub, iv_mul, iv_neg, iv_zero, iv_lt, iv_le, iv_eq, iv_div, rm_iv, tn_iv, ib_iv, some_cb, nm_eq, if_true, if_pos, if_neg, if_false, true_and, Bool.true_eq_false, Bool.false_eq_true]⟩
  | succ n ih =>
    intro N hN; obtain ⟨N, rfl⟩ : ∃ N', N = N' + 1 := ⟨N - 1, (by omega)⟩
    intro o bits o0 ho hc hlt
    obtain ⟨rc, rr, r1, r2, r3⟩ := wid hS hl c2 cc0 hg hk cg ck bits
    have hln := l0 bits
    by_cases hz : lft w m g k bits ≤ v
    · exact ⟨iv o, by simp (disch := omega) only [lp_succ, b_X6_openingsTill_20, k1, k4, r1, iv_add, iv_sub, iv_mul, iv_neg, iv_zero, iv_lt, iv_le, iv_eq, iv_div, rm_iv, tn_iv, ib_iv, some_cb, nm_eq, if_true, if_pos, if_neg, if_false, true_and, Bool.true_eq_false, Bool.false_eq_true], by simp (disch := omega) only [lp_succ, b_X12_opens_43, iv_add, iv_sub, iv_mul, iv_neg, iv_zero, iv_lt, iv_le, iv_eq, iv_div, rm_iv, tn_iv, ib_iv, some_cb, nm_eq, if_true, if_pos, if_neg, if_false, true_and, Bool.true_eq_false, Bool.false_eq_true]⟩
    · rcases r3 with ⟨z1, z2, z3⟩ | ⟨z1, z2, z3, z4, z5⟩
      · exfalso
        obtain ⟨i, i1, i2, i3⟩ := sF_pos _ _ (show 0 < lft w m g k bits by omega)
        have i3 : 0 < (if tbit bits i = true then 0 else wDb w m g k i) := i3
        cases hh : tbit bits i with
        | false =>
          rw [hh] at i3
          have := z3 i i1 (by omega) hh
          rw [if_neg (by decide)] at i3
          omega
        | true => rw [hh, if_pos rfl] at i3; omega
      · subst z1
        have hbit : ∀ j : Int, 0 ≤ j → j < 32 → tbit (bits ||| (iv 1 <<< (iv rc &&& 31))) j = (tbit bits j || decide (j = rc)) := fun j j0 j1 => by
          rw [tbit_or, tbit_shl z2 (by omega) j0 j1]
        have e1 : lft w m g k (bits ||| (iv 1 <<< (iv rc &&& 31))) = lft w m g k bits - wDb w m g k rc := by
          have := sF_flip (f := fun b => if tbit bits b then 0 else wDb w m g k b) (f' := fun b => if b = rc then 0 else if tbit bits b then 0 else wDb w m g k b) (j := rc) (wBx w m).toNat 0 (fun j hj => if_neg hj) z2 (by omega)
          have t3 : lft w m g k (bits ||| (iv 1 <<< (iv rc &&& 31))) = sF (fun b => if b = rc then 0 else if tbit bits b then 0 else wDb w m g k b) 0 (wBx w m).toNat := sF_congr _ _ (fun i i0 i1 => by
            show (if tbit _ i = true then 0 else _) = _
            rw [hbit i i0 (by omega)]
            by_cases e : i = rc
            · simp [e]
            · simp [e])
          rw [t3, this, if_pos rfl, z4, if_neg (by decide)]
          unfold lft
          omega
        have e2 : cnB (bits ||| (iv 1 <<< (iv rc &&& 31))) (wBx w m).toNat = cnB bits (wBx w m).toNat + 1 := by
          have := sF_flip (f := fun b => if tbit bits b then (1 : Int) else 0) (f' := fun b => if b = rc then 1 else if tbit bits b then (1 : Int) else 0) (j := rc) (wBx w m).toNat 0 (fun j hj => if_neg hj) z2 (by omega)
          have t3 : cnB (bits ||| (iv 1 <<< (iv rc &&& 31))) (wBx w m).toNat = sF (fun b => if b = rc then 1 else if tbit bits b then (1 : Int) else 0) 0 (wBx w m).toNat := sF_congr _ _ (fun i i0 i1 => by
            show (if tbit _ i = true then (1 : Int) else 0) = _
            rw [hbit i i0 (by omega)]
            by_cases e : i = rc
            · simp [e]
            · simp [e])
          rw [t3, this, if_pos rfl, z4, if_neg (by decide)]
          unfold cnB
          omega
        obtain ⟨o1, -⟩ := hS.B hl z2 z3
        obtain ⟨r, q1, q2⟩ := ih N (by omega) (o + 1) (bits ||| (iv 1 <<< (iv rc &&& 31))) (by omega) (by omega) (by omega) (by omega)
        rw [e1] at q1 q2
        have hD : wMo w m (12 * m + rc) g k - wLe w m (12 * m + rc) g k = wDb w m g k rc := rfl
        obtain ⟨⟨x0, x1⟩, -⟩ := box_ran hS.W hl z2 z3
        exact ⟨r, by simp (disch := omega) only [lp_succ, b_X6_openingsTill_20, k1, k4, k6, k9, k10, k16 rc z2 z3, o1, r1, c_wide hS hl z2 z3 g0 cg k0 ck, hD, q1, iv_add, iv_sub, iv_mul, iv_neg, iv_zero, iv_lt, iv_le, iv_eq, iv_div, rm_iv, tn_iv, ib_iv, some_cb, nm_eq, if_true, if_pos, if_neg, if_false, true_and, Bool.true_eq_false, Bool.false_eq_true], by simp (disch := omega) only [lp_succ, b_X12_opens_43, K91 hF, r2, q_wide hS.Q hl z2 z3 c2 cc0 hg hk cg ck, hD, q2, iv_add, iv_sub, iv_mul, iv_neg, iv_zero, iv_lt, iv_le, iv_eq, iv_div, rm_iv, tn_iv, ib_iv, some_cb, nm_eq, if_true, if_pos, if_neg, if_false, true_and, Bool.true_eq_false, Bool.false_eq_true]⟩
theorem M_opens (hS : Sim w A h) (x1 x2 x3 : Int32) : Both (f_X11_opens 3 x1 x2 x3) (f_X12_opens 91 x1 x2 x3) h := by
  obtain ⟨m, rfl, m1, m2⟩ := iv_ex x1
  obtain ⟨c, rfl, c1, c2⟩ := iv_ex x2
  obtain ⟨e, rfl, e1, e2⟩ := iv_ex x3
  have hF := hS.F
  by_cases hl : lvM w m
  · by_cases hc : isC w m c
    · obtain ⟨cc0, cg, ck⟩ := hc; obtain ⟨g, hg⟩ : ∃ g, c / 10 = g := ⟨_, rfl⟩; obtain ⟨k, hk⟩ : ∃ k, c % 10 = k := ⟨_, rfl⟩; rw [hg] at cg; rw [hk] at ck; have g0 : 0 ≤ g := (by omega); have k0 : 0 ≤ k := (by omega)
      by_cases he : 0 ≤ e ∧ e ≤ 9999
      · obtain ⟨he0, he1⟩ := he
        obtain ⟨⟨w1, w2⟩, -⟩ := hS.W; obtain ⟨⟨gg1, gg2⟩, ⟨gc1, gc2⟩, ⟨b2, b3⟩, ⟨hh1, hh2⟩, -⟩ := hS.W.mat hl; obtain ⟨l1, l2⟩ := id hl
        obtain ⟨o1, -⟩ := hS.M hl
        obtain ⟨a1, a2, a3⟩ := aLe_rng hS.W hl g0 cg k0 ck
        have e0 : lft w m g k (iv 0) = aMo w m g k - aLe w m g k := by
          unfold aMo aLe
          rw [← sF_sub]
          exact sF_congr _ _ (fun i _ _ => by show (if tbit (iv 0) i = true then 0 else _) = _; rw [tbit_0]; rfl)
        have e3 : cnB (iv 0) (wBx w m).toNat = 0 := by
          have q1 := sF_le (fun b => if tbit (iv 0) b then (1 : Int) else 0) 0 (wBx w m).toNat 0 (fun i _ _ => by show (if tbit (iv 0) i = true then (1 : Int) else 0) ≤ 0; rw [tbit_0]; simp)
          have q2 := sF_ge (fun b => if tbit (iv 0) b then (1 : Int) else 0) 0 (wBx w m).toNat 0 (fun i _ _ => by show 0 ≤ (if tbit (iv 0) i = true then (1 : Int) else 0); rw [tbit_0]; simp)
          unfold cnB
          omega
        obtain ⟨r, r1, r2⟩ := opens_loop hS hl c2 cc0 hg hk cg ck he0 he1 (wBx w m).toNat FU (FU_gt (by omega)) 0 (iv 0) (by omega) (by omega) e3 (by omega)
        rw [e0] at r1 r2
        exact Both.still hS (r := r) (by simp (disch := omega) only [f_X11_opens, K3 hF, c_matterAt1 hF hS.C hS.W, hl, c_placeOf1 hS c2 hl cc0 hg hk cg ck, o1, f_X6_openingsTill, f_X6_openingsTill_20, c_endInAll0 hS hl g0 cg k0 ck, c_endInAll1 hS hl g0 cg k0 ck, r1, iv_add, iv_sub, iv_mul, iv_neg, iv_zero, iv_lt, iv_le, iv_eq, iv_div, rm_iv, tn_iv, ib_iv, some_cb, nm_eq, if_true, if_pos, if_neg, if_false, true_and, Bool.true_eq_false, Bool.false_eq_true]) (by simp (disch := omega) only [f_X12_opens, f_X12_opens_43, K91 hF, q_isAsked1 hS.Q c2 hl cc0 hg hk cg ck, q_in1, q_leastAll hS.Q hl c2 cc0 hg hk cg ck, q_mostAll hS.Q hl c2 cc0 hg hk cg ck, r2, iv_add, iv_sub, iv_mul, iv_neg, iv_zero, iv_lt, iv_le, iv_eq, iv_div, rm_iv, tn_iv, ib_iv, some_cb, nm_eq, if_true, if_pos, if_neg, if_false, true_and, Bool.true_eq_false, Bool.false_eq_true])
      · refine Both.still hS (r := iv (-1)) ?_ (by simp (disch := omega) only [f_X12_opens, K91 hF, q_isAsked1 hS.Q c2 hl cc0 hg hk cg ck, q_in0, iv_add, iv_sub, iv_mul, iv_neg, iv_zero, iv_lt, iv_le, iv_eq, iv_div, rm_iv, tn_iv, ib_iv, some_cb, nm_eq, if_true, if_pos, if_neg, if_false, true_and, Bool.true_eq_false, Bool.false_eq_true])
        by_cases q : e < 0
        · simp (disch := omega) only [f_X11_opens, K3 hF, c_matterAt1 hF hS.C hS.W, hl, c_placeOf1 hS c2 hl cc0 hg hk cg ck, iv_add, iv_sub, iv_mul, iv_neg, iv_zero, iv_lt, iv_le, iv_eq, iv_div, rm_iv, tn_iv, ib_iv, some_cb, nm_eq, if_true, if_pos, if_neg, if_false, true_and, Bool.true_eq_false, Bool.false_eq_true]
        · simp (disch := omega) only [f_X11_opens, K3 hF, c_matterAt1 hF hS.C hS.W, hl, c_placeOf1 hS c2 hl cc0 hg hk cg ck, iv_add, iv_sub, iv_mul, iv_neg, iv_zero, iv_lt, iv_le, iv_eq, iv_div, rm_iv, tn_iv, ib_iv, some_cb, nm_eq, if_true, if_pos, if_neg, if_false, true_and, Bool.true_eq_false, Bool.false_eq_true]
    · exact Both.still hS (r := iv (-1)) (by simp (disch := omega) only [f_X11_opens, K3 hF, c_matterAt1 hF hS.C hS.W, hl, c_placeOf0 hS c1 c2 hl hc, iv_add, iv_sub, iv_mul, iv_neg, iv_zero, iv_lt, iv_le, iv_eq, iv_div, rm_iv, tn_iv, ib_iv, some_cb, nm_eq, if_true, if_pos, if_neg, if_false, true_and, Bool.true_eq_false, Bool.false_eq_true]) (by simp (disch := omega) only [f_X12_opens, K91 hF, q_isAsked0 hS.Q m1 m2 c1 c2 (fun q => hc q.2), iv_add, iv_sub, iv_mul, iv_neg, iv_zero, iv_lt, iv_le, iv_eq, iv_div, rm_iv, tn_iv, ib_iv, some_cb, nm_eq, if_true, if_pos, if_neg, if_false, true_and, Bool.true_eq_false, Bool.false_eq_true])
  · exact Both.still hS (r := iv (-1)) (by simp (disch := omega) only [f_X11_opens, K3 hF, c_matterAt0 hF hS.C hS.W, hl, c_placeOfN, not_false_eq_true, iv_add, iv_sub, iv_mul, iv_neg, iv_zero, iv_lt, iv_le, iv_eq, iv_div, rm_iv, tn_iv, ib_iv, some_cb, nm_eq, if_true, if_pos, if_neg, if_false, true_and, Bool.true_eq_false, Bool.false_eq_true]) (by simp (disch := omega) only [f_X12_opens, K91 hF, q_isAsked0 hS.Q m1 m2 c1 c2 (fun q => hl q.1), iv_add, iv_sub, iv_mul, iv_neg, iv_zero, iv_lt, iv_le, iv_eq, iv_div, rm_iv, tn_iv, ib_iv, some_cb, nm_eq, if_true, if_pos, if_neg, if_false, true_and, Bool.true_eq_false, Bool.false_eq_true])
end Q
