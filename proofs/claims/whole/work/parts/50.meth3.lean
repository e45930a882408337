section Q
variable {w : WD} {A : Int → Nat} {h : AH}
theorem c_endInAll0_loop (hS : Sim w A h) {m g k : Int} (hl : lvM w m) (g0 : 0 ≤ g) (cg : g < wGr w m) (k0 : 0 ≤ k) (ck : k < wCh w m) : ∀ (n N : Nat), n < N → ∀ (b acc : Int), 0 ≤ b → b + n = wBx w m → lp b_X6_endInAll_5 (fun _ _ _ _ _ _ => none) N (A m) (iv (3 * g + k)) (iv 0) (iv acc) (iv b) h = some (iv (acc + sF (fun b => wLe w m (12 * m + b) g k) b n), h) := by
  obtain ⟨⟨w1, w2⟩, -⟩ := hS.W; obtain ⟨⟨gg1, gg2⟩, ⟨gc1, gc2⟩, ⟨b2, b3⟩, ⟨hh1, hh2⟩, -⟩ := hS.W.mat hl; obtain ⟨l1, l2⟩ := id hl
  obtain ⟨k1, k2, k3, k4, k5, k6, k7, k8, k9, k10, k11, k12, k13, k14, k15, k16, k17⟩ := hS.M hl
  intro n
  induction n with
  | zero =>
    intro N hN; obtain ⟨N, rfl⟩ : ∃ N', N = N' + 1 := ⟨N - 1, (by omega)⟩
    intro b acc b0 hb
    simp (disch := omega) only [lp_succ, b_X6_endInAll_5, k1, k4, sF_zero, Int.add_zero, iv_add, iv_sub, iv_mul, iv_neg, iv_zero, iv_lt, iv_le, iv_eq, iv_div, rm_iv, tn_iv, ib_iv, some_cb, nm_eq, if_true, if_pos, if_neg, if_false, true_and, Bool.true_eq_false, Bool.false_eq_true]
  | succ n ih =>
    intro N hN; obtain ⟨N, rfl⟩ : ∃ N', N = N' + 1 := ⟨N - 1, (by omega)⟩
    intro b acc b0 hb
    have tb : b < wBx w m := (by omega)
    obtain ⟨o1, -⟩ := hS.B hl b0 tb
    simp (disch := omega) only [lp_succ, b_X6_endInAll_5, k1, k4, k6, k9, k10, k16 b b0 tb, o1, c_least hS hl b0 tb g0 cg k0 ck, ih N (by omega) (b + 1) _ (by omega) (by omega), sF_succ, Int.add_assoc, iv_add, iv_sub, iv_mul, iv_neg, iv_zero, iv_lt, iv_le, iv_eq, iv_div, rm_iv, tn_iv, ib_iv, some_cb, nm_eq, if_true, if_pos, if_neg, if_false, true_and, Bool.true_eq_false, Bool.false_eq_true]
theorem c_endInAll1_loop (hS : Sim w A h) {m g k : Int} (hl : lvM w m) (g0 : 0 ≤ g) (cg : g < wGr w m) (k0 : 0 ≤ k) (ck : k < wCh w m) : ∀ (n N : Nat), n < N → ∀ (b acc : Int), 0 ≤ b → b + n = wBx w m → lp b_X6_endInAll_5 (fun _ _ _ _ _ _ => none) N (A m) (iv (3 * g + k)) (iv 1) (iv acc) (iv b) h = some (iv (acc + sF (fun b => wMo w m (12 * m + b) g k) b n), h) := by
  obtain ⟨⟨w1, w2⟩, -⟩ := hS.W; obtain ⟨⟨gg1, gg2⟩, ⟨gc1, gc2⟩, ⟨b2, b3⟩, ⟨hh1, hh2⟩, -⟩ := hS.W.mat hl; obtain ⟨l1, l2⟩ := id hl
  obtain ⟨k1, k2, k3, k4, k5, k6, k7, k8, k9, k10, k11, k12, k13, k14, k15, k16, k17⟩ := hS.M hl
  intro n
  induction n with
  | zero =>
    intro N hN; obtain ⟨N, rfl⟩ : ∃ N', N = N' + 1 := ⟨N - 1, (by omega)⟩
    intro b acc b0 hb
    simp (disch := omega) only [lp_succ, b_X6_endInAll_5, k1, k4, sF_zero, Int.add_zero, iv_add, iv_sub, iv_mul, iv_neg, iv_zero, iv_lt, iv_le, iv_eq, iv_div, rm_iv, tn_iv, ib_iv, some_cb, nm_eq, if_true, if_pos, if_neg, if_false, true_and, Bool.true_eq_false, Bool.false_eq_true]
  | succ n ih =>
    intro N hN; obtain ⟨N, rfl⟩ : ∃ N', N = N' + 1 := ⟨N - 1, (by omega)⟩
    intro b acc b0 hb
    have tb : b < wBx w m := (by omega)
    obtain ⟨o1, -⟩ := hS.B hl b0 tb
    simp (disch := omega) only [lp_succ, b_X6_endInAll_5, k1, k4, k6, k9, k10, k16 b b0 tb, o1, c_most hS hl b0 tb g0 cg k0 ck, ih N (by omega) (b + 1) _ (by omega) (by omega), sF_succ, Int.add_assoc, iv_add, iv_sub, iv_mul, iv_neg, iv_zero, iv_lt, iv_le, iv_eq, iv_div, rm_iv, tn_iv, ib_iv, some_cb, nm_eq, if_true, if_pos, if_neg, if_false, true_and, Bool.true_eq_false, Bool.false_eq_true]
/-- all boxes of a matter: least, most of a cell, and what a group is in all -/
def aLe (w : WD) (m g k : Int) : Int := sF (fun b => wLe w m (12 * m + b) g k) 0 (wBx w m).toNat
def aMo (w : WD) (m g k : Int) : Int := sF (fun b => wMo w m (12 * m + b) g k) 0 (wBx w m).toNat
def aGr (w : WD) (m g : Int) : Int := sF (fun b => wG w (12 * m + b) g) 0 (wBx w m).toNat
theorem c_endInAll0 (hS : Sim w A h) {m g k : Int} (hl : lvM w m) (g0 : 0 ≤ g) (cg : g < wGr w m) (k0 : 0 ≤ k) (ck : k < wCh w m) : f_X6_endInAll (A m) (iv (3 * g + k)) (iv 0) h = some (iv (aLe w m g k), h) := by
  obtain ⟨⟨w1, w2⟩, -⟩ := hS.W; obtain ⟨⟨gg1, gg2⟩, ⟨gc1, gc2⟩, ⟨b2, b3⟩, ⟨hh1, hh2⟩, -⟩ := hS.W.mat hl; obtain ⟨l1, l2⟩ := id hl
  have := c_endInAll0_loop hS hl g0 cg k0 ck (wBx w m).toNat FU (FU_gt (by omega)) 0 0 (by omega) (by omega)
  rw [Int.zero_add] at this
  exact this
theorem c_endInAll1 (hS : Sim w A h) {m g k : Int} (hl : lvM w m) (g0 : 0 ≤ g) (cg : g < wGr w m) (k0 : 0 ≤ k) (ck : k < wCh w m) : f_X6_endInAll (A m) (iv (3 * g + k)) (iv 1) h = some (iv (aMo w m g k), h) := by
  obtain ⟨⟨w1, w2⟩, -⟩ := hS.W; obtain ⟨⟨gg1, gg2⟩, ⟨gc1, gc2⟩, ⟨b2, b3⟩, ⟨hh1, hh2⟩, -⟩ := hS.W.mat hl; obtain ⟨l1, l2⟩ := id hl
  have := c_endInAll1_loop hS hl g0 cg k0 ck (wBx w m).toNat FU (FU_gt (by omega)) 0 0 (by omega) (by omega)
  rw [Int.zero_add] at this
  exact this
theorem c_groupInAll_loop (hS : Sim w A h) {m g : Int} (hl : lvM w m) (g0 : 0 ≤ g) (cg : g < wGr w m) : ∀ (n N : Nat), n < N → ∀ (b acc : Int), 0 ≤ b → b + n = wBx w m → lp b_X6_groupInAll_4 (fun _ _ _ _ _ => none) N (A m) (iv g) (iv acc) (iv b) h = some (iv (acc + sF (fun b => wG w (12 * m + b) g) b n), h) := by
  obtain ⟨⟨w1, w2⟩, -⟩ := hS.W; obtain ⟨⟨gg1, gg2⟩, ⟨gc1, gc2⟩, ⟨b2, b3⟩, ⟨hh1, hh2⟩, -⟩ := hS.W.mat hl; obtain ⟨l1, l2⟩ := id hl
  obtain ⟨k1, k2, k3, k4, k5, k6, k7, k8, k9, k10, k11, k12, k13, k14, k15, k16, k17⟩ := hS.M hl
  intro n
  induction n with
  | zero =>
    intro N hN; obtain ⟨N, rfl⟩ : ∃ N', N = N' + 1 := ⟨N - 1, (by omega)⟩
    intro b acc b0 hb
    simp (disch := omega) only [lp_succ, b_X6_groupInAll_4, k1, k4, sF_zero, Int.add_zero, iv_add, iv_sub, iv_mul, iv_neg, iv_zero, iv_lt, iv_le, iv_eq, iv_div, rm_iv, tn_iv, ib_iv, some_cb, nm_eq, if_true, if_pos, if_neg, if_false, true_and, Bool.true_eq_false, Bool.false_eq_true]
  | succ n ih =>
    intro N hN; obtain ⟨N, rfl⟩ : ∃ N', N = N' + 1 := ⟨N - 1, (by omega)⟩
    intro b acc b0 hb
    have tb : b < wBx w m := (by omega)
    obtain ⟨o1, -, r1, -, -, -, ⟨o2, o3⟩, -, -, -, d1, -⟩ := hS.B hl b0 tb
    have d1' := d1 g g0 (by omega)
    rw [wP_lt cg] at d1'
    simp (disch := omega) only [lp_succ, b_X6_groupInAll_4, k1, k4, k6, k9, k10, k16 b b0 tb, o1, r1, o2, o3, d1', ih N (by omega) (b + 1) _ (by omega) (by omega), sF_succ, Int.add_assoc, iv_add, iv_sub, iv_mul, iv_neg, iv_zero, iv_lt, iv_le, iv_eq, iv_div, rm_iv, tn_iv, ib_iv, some_cb, nm_eq, if_true, if_pos, if_neg, if_false, true_and, Bool.true_eq_false, Bool.false_eq_true]
theorem c_groupInAll (hS : Sim w A h) {m g : Int} (hl : lvM w m) (g0 : 0 ≤ g) (cg : g < wGr w m) : f_X6_groupInAll (A m) (iv g) h = some (iv (aGr w m g), h) := by
  obtain ⟨⟨w1, w2⟩, -⟩ := hS.W; obtain ⟨⟨gg1, gg2⟩, ⟨gc1, gc2⟩, ⟨b2, b3⟩, ⟨hh1, hh2⟩, -⟩ := hS.W.mat hl; obtain ⟨l1, l2⟩ := id hl
  have := c_groupInAll_loop hS hl g0 cg (wBx w m).toNat FU (FU_gt (by omega)) 0 0 (by omega) (by omega)
  rw [Int.zero_add] at this
  exact this
theorem q_leastAll (hS : QS w h) {m c g k : Int} (hl : lvM w m) (h2 : c ≤ 2147483647) (h0 : 0 ≤ c) (eg : c / 10 = g) (ek : c % 10 = k) (hg : g < wGr w m) (hk : k < wCh w m) : f_X12_leastAll 91 (iv m) (iv c) h = some (iv (aLe w m g k), h) := by
  obtain ⟨⟨w1, w2⟩, -⟩ := hS.W; obtain ⟨⟨gg1, gg2⟩, ⟨gc1, gc2⟩, ⟨b2, b3⟩, ⟨hh1, hh2⟩, -⟩ := hS.W.mat hl; obtain ⟨l1, l2⟩ := id hl
  have hF := hS.F
  have hR := hS.R
  have key : ∀ (n N : Nat), n < N → ∀ (b acc : Int), 0 ≤ b → b + n = wBx w m → lp b_X12_leastAll_5 (fun _ _ _ _ _ _ => none) N 91 (iv m) (iv c) (iv acc) (iv b) h = some (iv (acc + sF (fun b => wLe w m (12 * m + b) g k) b n), h) := by
    intro n
    induction n with
    | zero =>
      intro N hN; obtain ⟨N, rfl⟩ : ∃ N', N = N' + 1 := ⟨N - 1, (by omega)⟩
      intro b acc b0 hb
      simp (disch := omega) only [lp_succ, b_X12_leastAll_5, K91 hF, R91_3 hF, K94 hF, N94 hF, RR_Bx hR, sF_zero, Int.add_zero, iv_add, iv_sub, iv_mul, iv_neg, iv_zero, iv_lt, iv_le, iv_eq, iv_div, rm_iv, tn_iv, ib_iv, some_cb, nm_eq, if_true, if_pos, if_neg, if_false, true_and, Bool.true_eq_false, Bool.false_eq_true]
    | succ n ih =>
      intro N hN; obtain ⟨N, rfl⟩ : ∃ N', N = N' + 1 := ⟨N - 1, (by omega)⟩
      intro b acc b0 hb
      have tb : b < wBx w m := (by omega)
      simp (disch := omega) only [lp_succ, b_X12_leastAll_5, K91 hF, R91_3 hF, K94 hF, N94 hF, RR_Bx hR, q_least hS.Q hl b0 tb h2 h0 eg ek hg hk, ih N (by omega) (b + 1) _ (by omega) (by omega), sF_succ, Int.add_assoc, iv_add, iv_sub, iv_mul, iv_neg, iv_zero, iv_lt, iv_le, iv_eq, iv_div, rm_iv, tn_iv, ib_iv, some_cb, nm_eq, if_true, if_pos, if_neg, if_false, true_and, Bool.true_eq_false, Bool.false_eq_true]
  have := key (wBx w m).toNat FU (FU_gt (by omega)) 0 0 (by omega) (by omega)
  rw [Int.zero_add] at this
  exact this
theorem q_mostAll (hS : QS w h) {m c g k : Int} (hl : lvM w m) (h2 : c ≤ 2147483647) (h0 : 0 ≤ c) (eg : c / 10 = g) (ek : c % 10 = k) (hg : g < wGr w m) (hk : k < wCh w m) : f_X12_mostAll 91 (iv m) (iv c) h = some (iv (aMo w m g k), h) := by
  obtain ⟨⟨w1, w2⟩, -⟩ := hS.W; obtain ⟨⟨gg1, gg2⟩, ⟨gc1, gc2⟩, ⟨b2, b3⟩, ⟨hh1, hh2⟩, -⟩ := hS.W.mat hl; obtain ⟨l1, l2⟩ := id hl
  have hF := hS.F
  have hR := hS.R
  have key : ∀ (n N : Nat), n < N → ∀ (b acc : Int), 0 ≤ b → b + n = wBx w m → lp b_X12_mostAll_5 (fun _ _ _ _ _ _ => none) N 91 (iv m) (iv c) (iv acc) (iv b) h = some (iv (acc + sF (fun b => wMo w m (12 * m + b) g k) b n), h) := by
    intro n
    induction n with
    | zero =>
      intro N hN; obtain ⟨N, rfl⟩ : ∃ N', N = N' + 1 := ⟨N - 1, (by omega)⟩
      intro b acc b0 hb
      simp (disch := omega) only [lp_succ, b_X12_mostAll_5, K91 hF, R91_3 hF, K94 hF, N94 hF, RR_Bx hR, sF_zero, Int.add_zero, iv_add, iv_sub, iv_mul, iv_neg, iv_zero, iv_lt, iv_le, iv_eq, iv_div, rm_iv, tn_iv, ib_iv, some_cb, nm_eq, if_true, if_pos, if_neg, if_false, true_and, Bool.true_eq_false, Bool.false_eq_true]
    | succ n ih =>
      intro N hN; obtain ⟨N, rfl⟩ : ∃ N', N = N' + 1 := ⟨N - 1, (by omega)⟩
      intro b acc b0 hb
      have tb : b < wBx w m := (by omega)
      simp (disch := omega) only [lp_succ, b_X12_mostAll_5, K91 hF, R91_3 hF, K94 hF, N94 hF, RR_Bx hR, q_most hS.Q hl b0 tb h2 h0 eg ek hg hk, ih N (by omega) (b + 1) _ (by omega) (by omega), sF_succ, Int.add_assoc, iv_add, iv_sub, iv_mul, iv_neg, iv_zero, iv_lt, iv_le, iv_eq, iv_div, rm_iv, tn_iv, ib_iv, some_cb, nm_eq, if_true, if_pos, if_neg, if_false, true_and, Bool.true_eq_false, Bool.false_eq_true]
  have := key (wBx w m).toNat FU (FU_gt (by omega)) 0 0 (by omega) (by omega)
  rw [Int.zero_add] at this
  exact this
theorem aLe_rng (hW : WI w) {m g k : Int} (hl : lvM w m) (g0 : 0 ≤ g) (hg : g < wGr w m) (k0 : 0 ≤ k) (hk : k < wCh w m) : 0 ≤ aLe w m g k ∧ aLe w m g k ≤ aMo w m g k ∧ aMo w m g k ≤ 1188 := by
  obtain ⟨-, -, ⟨b2, b3⟩, -⟩ := hW.mat hl
  have r := fun (b : Int) (b0 : 0 ≤ b) (b1 : b < wBx w m) => le_rng hW hl b0 b1 g0 hg k0 hk
  have e1 := sF_ge (fun b => wLe w m (12 * m + b) g k) 0 (wBx w m).toNat 0 (fun i i0 i1 => (r i i0 (by omega)).1)
  have e2 := sF_mono (f := fun b => wLe w m (12 * m + b) g k) (g := fun b => wMo w m (12 * m + b) g k) (wBx w m).toNat 0 (fun i i0 i1 => (r i i0 (by omega)).2.1)
  have e3 := sF_le (fun b => wMo w m (12 * m + b) g k) 99 (wBx w m).toNat 0 (fun i i0 i1 => (r i i0 (by omega)).2.2)
  unfold aLe aMo
  omega
theorem aGr_rng (hW : WI w) {m g : Int} (hl : lvM w m) (g0 : 0 ≤ g) (hg : g < wGr w m) : 0 ≤ aGr w m g ∧ aGr w m g ≤ 1188 := by
  obtain ⟨⟨q1, q2⟩, -, ⟨b2, b3⟩, -⟩ := hW.mat hl
  have r : ∀ (b : Int) (b0 : 0 ≤ b) (b1 : b < wBx w m), 0 ≤ wG w (12 * m + b) g ∧ wG w (12 * m + b) g ≤ 99 := fun b b0 b1 => by
    have := (hW.box hl b0 b1).1 g g0 (by omega)
    rwa [wP_lt hg] at this
  have e1 := sF_ge (fun b => wG w (12 * m + b) g) 0 (wBx w m).toNat 0 (fun i i0 i1 => (r i i0 (by omega)).1)
  have e3 := sF_le (fun b => wG w (12 * m + b) g) 99 (wBx w m).toNat 0 (fun i i0 i1 => (r i i0 (by omega)).2)
  unfold aGr
  omega
theorem q_inAll_loop (hS : QS w h) {m c g k e v : Int} (hl : lvM w m) (h2 : c ≤ 2147483647) (h0 : 0 ≤ c) (eg : c / 10 = g) (ek : c % 10 = k) (hg : g < wGr w m) (hk : k < wCh w m) (e0 : 0 ≤ e) (e1 : e ≤ 3) (v0 : 0 ≤ v) (v1 : v ≤ 1188) : f_X12_inAll_50 91 (iv m) (iv c) (iv e) (iv v) (iv 0) (iv 0) h = some (iv (if e < 2 then v else if aGr w m g = 0 then -2000000000 else 1000 * v / aGr w m g), h) := by
  obtain ⟨⟨w1, w2⟩, -⟩ := hS.W; obtain ⟨⟨gg1, gg2⟩, ⟨gc1, gc2⟩, ⟨b2, b3⟩, ⟨hh1, hh2⟩, -⟩ := hS.W.mat hl; obtain ⟨l1, l2⟩ := id hl
  have hF := hS.F
  have hR := hS.R
  have gr := aGr_rng hS.W hl (show 0 ≤ g by omega) hg
  have key : ∀ (n N : Nat), n < N → ∀ (b acc : Int), 0 ≤ b → b + n = wBx w m → acc + sF (fun b => wG w (12 * m + b) g) b n = aGr w m g → lp b_X12_inAll_50 (fun _ _ _ _ _ _ _ _ => none) N 91 (iv m) (iv c) (iv e) (iv v) (iv acc) (iv b) h = some (iv (if e < 2 then v else if aGr w m g = 0 then -2000000000 else 1000 * v / aGr w m g), h) := by
    intro n
    induction n with
    | zero =>
      intro N hN; obtain ⟨N, rfl⟩ : ∃ N', N = N' + 1 := ⟨N - 1, (by omega)⟩
      intro b acc b0 hb ha
      rw [sF_zero, Int.add_zero] at ha
      subst ha
      by_cases q : e < 2
      · simp (disch := omega) only [lp_succ, b_X12_inAll_50, K91 hF, R91_3 hF, K94 hF, N94 hF, RR_Bx hR, iv_add, iv_sub, iv_mul, iv_neg, iv_zero, iv_lt, iv_le, iv_eq, iv_div, rm_iv, tn_iv, ib_iv, some_cb, nm_eq, if_true, if_pos, if_neg, if_false, true_and, Bool.true_eq_false, Bool.false_eq_true]
      · by_cases z : aGr w m g = 0
        · simp (disch := omega) only [lp_succ, b_X12_inAll_50, K91 hF, R91_3 hF, K94 hF, N94 hF, RR_Bx hR, z, iv_add, iv_sub, iv_mul, iv_neg, iv_zero, iv_lt, iv_le, iv_eq, iv_div, rm_iv, tn_iv, ib_iv, some_cb, nm_eq, if_true, if_pos, if_neg, if_false, true_and, Bool.true_eq_false, Bool.false_eq_true]
        · simp (disch := omega) only [lp_succ, b_X12_inAll_50, K91 hF, R91_3 hF, K94 hF, N94 hF, RR_Bx hR, z, iv_add, iv_sub, iv_mul, iv_neg, iv_zero, iv_lt, iv_le, iv_eq, iv_div, rm_iv, tn_iv, ib_iv, some_cb, nm_eq, if_true, if_pos, if_neg, if_false, true_and, Bool.true_eq_false, Bool.false_eq_true]
    | succ n ih =>
      intro N hN; obtain ⟨N, rfl⟩ : ∃ N', N = N' + 1 := ⟨N - 1, (by omega)⟩
      intro b acc b0 hb ha
      have tb : b < wBx w m := (by omega)
      obtain ⟨⟨x0, x1⟩, -⟩ := box_ran hS.W hl b0 tb
      rw [sF_succ] at ha
      have hi := ih N (by omega) (b + 1) (acc + wG w (12 * m + b) g) (by omega) (by omega) (by omega)
      have ix : 4 * (12 * m + b) + g < 240 := (by omega)
      simp (disch := omega) only [lp_succ, b_X12_inAll_50, K91 hF, R91_3 hF, K94 hF, N94 hF, R91_4 hF, K95 hF, N95 hF, RR_Bx hR, RR_G hR, eg, hi, iv_add, iv_sub, iv_mul, iv_neg, iv_zero, iv_lt, iv_le, iv_eq, iv_div, rm_iv, tn_iv, ib_iv, some_cb, nm_eq, if_true, if_pos, if_neg, if_false, true_and, Bool.true_eq_false, Bool.false_eq_true]
  have := key (wBx w m).toNat FU (FU_gt (by omega)) 0 0 (by omega) (by omega) (by rw [Int.zero_add]; rfl)
  exact this
end Q
