/-! a box more: how it is made -/
section R
variable {h : AH} {r M b G C : Nat} {u : Nat → Int} {o : Int}
/-- what is needed of a matter and of the row that holds the sums -/
def AdC (h : AH) (M b G C r : Nat) (o : Int) (u : Nat → Int) : Prop := (gK h M = 106 ∧ gI h M 0 = iv G ∧ gI h M 1 = iv C ∧ gI h M 5 = iv b ∧ gR h M 2 = M + 1 ∧ gK h (M + 1) = 10 ∧ gN h (M + 1) = 12) ∧ (121 ≤ M ∧ M + 4 ≤ gC h ∧ r < 121) ∧ (2 ≤ G ∧ G ≤ 4 ∧ 2 ≤ C ∧ C ≤ 3 ∧ b ≤ 12) ∧ (gK h r = 1 ∧ 0 ≤ o ∧ o + G + C ≤ gN h r ∧ gN h r ≤ 200) ∧ ∀ j : Nat, j < G + C → gI h r (o + j).toNat = iv (u j) ∧ -2147483648 ≤ u j ∧ u j ≤ 2147483647
def AdOK (G C : Nat) (u : Nat → Int) : Prop := (∀ j : Nat, j < G + C → 0 ≤ u j ∧ u j ≤ 99) ∧ suU u G = suU (fun k => u (G + k)) C
set_option maxRecDepth 100000 in
theorem c_ev1 (H : AdC h M b G C r o u) (hu : ∀ j : Nat, j < G + C → 0 ≤ u j ∧ u j ≤ 99) (n : Nat) : ∀ (N j : Nat), n < N → j + n = G → lp b_X9_isEven_6 (fun _ _ _ _ _ _ _ => none) N r (iv o) (iv G) (iv C) (iv (suU u j)) (iv j) h = f_X9_isEven_32 r (iv o) (iv G) (iv C) (iv (suU u G)) (iv 0) h := by
  obtain ⟨-, -, ⟨g0, g1, c0, c1, -⟩, ⟨k0, o0, o1, o2⟩, hv⟩ := H
  induction n with
  | zero =>
    intro N j hN hj
    obtain ⟨N, rfl⟩ : ∃ N', N = N' + 1 := ⟨N - 1, by omega⟩
    obtain rfl : j = G := by omega
    simp -implicitDefEqProofs (disch := omega) only [lp_succ, F_b_X9_isEven_6, iv_add, iv_sub, iv_mul, iv_neg, iv_zero, iv_ltT, iv_ltF, iv_leT, iv_leF, iv_eqT, iv_eqF, iv_div, rm_iv, tn_iv, ib_iv, some_cb, some_cbv, ↓nm_eq, ↓reduceIte, true_and, and_true, Bool.true_eq_false, Bool.false_eq_true, not_false_eq_true, not_true_eq_false]
  | succ n ih =>
    intro N j hN hj
    obtain ⟨N, rfl⟩ : ∃ N', N = N' + 1 := ⟨N - 1, by omega⟩
    rw [← ih N (j + 1) (by omega) (by omega), show ((j + 1 : Nat) : Int) = (j : Int) + 1 by omega]
    have e := (hv j (by omega)).1
    show _ = lp b_X9_isEven_6 (fun _ _ _ _ _ _ _ => none) N r (iv o) (iv G) (iv C) (iv (suU u j + u j)) (iv ((j : Int) + 1)) h
    simp -implicitDefEqProofs (disch := omega) only [lp_succ, F_b_X9_isEven_6, k0, e, iv_add, iv_sub, iv_mul, iv_neg, iv_zero, iv_ltT, iv_ltF, iv_leT, iv_leF, iv_eqT, iv_eqF, iv_div, rm_iv, tn_iv, ib_iv, some_cb, some_cbv, ↓nm_eq, ↓reduceIte, true_and, and_true, Bool.true_eq_false, Bool.false_eq_true, not_false_eq_true, not_true_eq_false]
set_option maxRecDepth 100000 in
theorem c_ev2 (H : AdC h M b G C r o u) (hu : ∀ j : Nat, j < G + C → 0 ≤ u j ∧ u j ≤ 99) (n : Nat) : ∀ (N j : Nat), n < N → j + n = C → lp b_X9_isEven_32 (fun _ _ _ _ _ _ _ => none) N r (iv o) (iv G) (iv C) (iv (suU u G - suU (fun k => u (G + k)) j)) (iv j) h = some (iv (if suU u G = suU (fun k => u (G + k)) C then 1 else 0), h) := by
  obtain ⟨-, -, ⟨g0, g1, c0, c1, -⟩, ⟨k0, o0, o1, o2⟩, hv⟩ := H
  induction n with
  | zero =>
    intro N j hN hj
    obtain ⟨N, rfl⟩ : ∃ N', N = N' + 1 := ⟨N - 1, by omega⟩
    obtain rfl : j = C := by omega
    have s1 := suU_rng (u := u) G (fun i hi => hu i (by omega))
    have s2 := suU_rng (u := fun k => u (G + k)) j (fun i hi => hu (G + i) (by omega))
    by_cases q : suU u G = suU (fun k => u (G + k)) j
    · rw [if_pos q]
      simp -implicitDefEqProofs (disch := omega) only [lp_succ, F_b_X9_isEven_32, zret0, zret1, iv_add, iv_sub, iv_mul, iv_neg, iv_zero, iv_ltT, iv_ltF, iv_leT, iv_leF, iv_eqT, iv_eqF, iv_div, rm_iv, tn_iv, ib_iv, some_cb, some_cbv, ↓nm_eq, ↓reduceIte, true_and, and_true, Bool.true_eq_false, Bool.false_eq_true, not_false_eq_true, not_true_eq_false]
    · rw [if_neg q]
      simp -implicitDefEqProofs (disch := omega) only [lp_succ, F_b_X9_isEven_32, zret0, zret1, iv_add, iv_sub, iv_mul, iv_neg, iv_zero, iv_ltT, iv_ltF, iv_leT, iv_leF, iv_eqT, iv_eqF, iv_div, rm_iv, tn_iv, ib_iv, some_cb, some_cbv, ↓nm_eq, ↓reduceIte, true_and, and_true, Bool.true_eq_false, Bool.false_eq_true, not_false_eq_true, not_true_eq_false]
  | succ n ih =>
    intro N j hN hj
    obtain ⟨N, rfl⟩ : ∃ N', N = N' + 1 := ⟨N - 1, by omega⟩
    rw [← ih N (j + 1) (by omega) (by omega), show ((j + 1 : Nat) : Int) = (j : Int) + 1 by omega]
    have e := (hv (G + j) (by omega)).1
    rw [show o + ((G + j : Nat) : Int) = o + G + j by omega] at e
    show _ = lp b_X9_isEven_32 (fun _ _ _ _ _ _ _ => none) N r (iv o) (iv G) (iv C) (iv (suU u G - (suU (fun k => u (G + k)) j + u (G + j)))) (iv ((j : Int) + 1)) h
    rw [← Int.sub_sub]
    simp -implicitDefEqProofs (disch := omega) only [lp_succ, F_b_X9_isEven_32, k0, e, iv_add, iv_sub, iv_mul, iv_neg, iv_zero, iv_ltT, iv_ltF, iv_leT, iv_leF, iv_eqT, iv_eqF, iv_div, rm_iv, tn_iv, ib_iv, some_cb, some_cbv, ↓nm_eq, ↓reduceIte, true_and, and_true, Bool.true_eq_false, Bool.false_eq_true, not_false_eq_true, not_true_eq_false]
set_option maxRecDepth 100000 in
theorem c_even (H : AdC h M b G C r o u) (hu : ∀ j : Nat, j < G + C → 0 ≤ u j ∧ u j ≤ 99) : f_X9_isEven r (iv o) (iv G) (iv C) h = some (iv (if suU u G = suU (fun k => u (G + k)) C then 1 else 0), h) := by
  have hC := H.2.2.1
  have l1 := c_ev1 H hu G FU 0 (FU_gt (by omega)) (by omega)
  have l2 := c_ev2 H hu C FU 0 (FU_gt (by omega)) (by omega)
  rw [show suU (fun k => u (G + k)) 0 = 0 from rfl, Int.sub_zero] at l2
  exact l1.trans l2
set_option maxRecDepth 100000 in
theorem c_chk (H : AdC h M b G C r o u) (n : Nat) : ∀ (N j : Nat), n < N → j + n = G + C → (∀ i : Nat, j ≤ i → i < G + C → 0 ≤ u i ∧ u i ≤ 99) → ∃ N', lp b_X6_addBox_13 (fun _ _ _ _ _ => none) N M r (iv o) (iv j) h = lp b_X6_addBox_13 (fun _ _ _ _ _ => none) (N' + 1) M r (iv o) (iv ((G + C : Nat) : Int)) h := by
  obtain ⟨⟨m0, m1, m2, m3, m4, m5, m6⟩, -, ⟨g0, g1, c0, c1, -⟩, ⟨k0, o0, o1, o2⟩, hv⟩ := H
  induction n with
  | zero =>
    intro N j hN hj hu
    obtain ⟨N, rfl⟩ : ∃ N', N = N' + 1 := ⟨N - 1, by omega⟩
    exact ⟨N, by rw [show j = G + C by omega]⟩
  | succ n ih =>
    intro N j hN hj hu
    obtain ⟨N, rfl⟩ : ∃ N', N = N' + 1 := ⟨N - 1, by omega⟩
    obtain ⟨N', e'⟩ := ih N (j + 1) (by omega) (by omega) (fun i y z => hu i (by omega) z)
    refine ⟨N', ?_⟩
    rw [← e', show ((j + 1 : Nat) : Int) = (j : Int) + 1 by omega]
    clear e' ih
    have e := (hv j (by omega)).1
    have hj2 := hu j (by omega) (by omega)
    simp -implicitDefEqProofs (disch := omega) only [lp_succ, F_b_X6_addBox_13, m0, m1, m2, k0, e, iv_add, iv_sub, iv_mul, iv_neg, iv_zero, iv_ltT, iv_ltF, iv_leT, iv_leF, iv_eqT, iv_eqF, iv_div, rm_iv, tn_iv, ib_iv, some_cb, some_cbv, ↓nm_eq, ↓reduceIte, true_and, and_true, Bool.true_eq_false, Bool.false_eq_true, not_false_eq_true, not_true_eq_false]
set_option maxRecDepth 100000 in
theorem c_chkN (H : AdC h M b G C r o u) (n : Nat) : ∀ (N j : Nat), n < N → j + n = G + C → (∃ i : Nat, j ≤ i ∧ i < G + C ∧ ¬ (0 ≤ u i ∧ u i ≤ 99)) → lp b_X6_addBox_13 (fun _ _ _ _ _ => none) N M r (iv o) (iv j) h = some (iv 0, h) := by
  obtain ⟨⟨m0, m1, m2, m3, m4, m5, m6⟩, -, ⟨g0, g1, c0, c1, -⟩, ⟨k0, o0, o1, o2⟩, hv⟩ := H
  induction n with
  | zero =>
    intro N j hN hj hu
    obtain ⟨i, y, z, -⟩ := hu
    omega
  | succ n ih =>
    intro N j hN hj hu
    obtain ⟨N, rfl⟩ : ∃ N', N = N' + 1 := ⟨N - 1, by omega⟩
    obtain ⟨e, e1, e2⟩ := hv j (by omega)
    by_cases q : 0 ≤ u j ∧ u j ≤ 99
    · obtain ⟨q0, q1⟩ := q
      have ih' := ih N (j + 1) (by omega) (by omega) (by
        obtain ⟨i, y, z, t⟩ := hu
        refine ⟨i, ?_, z, t⟩
        by_cases p : i = j
        · subst p; exact absurd ⟨q0, q1⟩ t
        · omega)
      rw [← ih', show ((j + 1 : Nat) : Int) = (j : Int) + 1 by omega]
      clear ih' ih
      simp -implicitDefEqProofs (disch := omega) only [lp_succ, F_b_X6_addBox_13, m0, m1, m2, k0, e, iv_add, iv_sub, iv_mul, iv_neg, iv_zero, iv_ltT, iv_ltF, iv_leT, iv_leF, iv_eqT, iv_eqF, iv_div, rm_iv, tn_iv, ib_iv, some_cb, some_cbv, ↓nm_eq, ↓reduceIte, true_and, and_true, Bool.true_eq_false, Bool.false_eq_true, not_false_eq_true, not_true_eq_false]
    · by_cases p : u j < 0
      · simp -implicitDefEqProofs (disch := omega) only [lp_succ, F_b_X6_addBox_13, m0, m1, m2, k0, e, zret0, iv_add, iv_sub, iv_mul, iv_neg, iv_zero, iv_ltT, iv_ltF, iv_leT, iv_leF, iv_eqT, iv_eqF, iv_div, rm_iv, tn_iv, ib_iv, some_cb, some_cbv, ↓nm_eq, ↓reduceIte, true_and, and_true, Bool.true_eq_false, Bool.false_eq_true, not_false_eq_true, not_true_eq_false]
      · simp -implicitDefEqProofs (disch := omega) only [lp_succ, F_b_X6_addBox_13, m0, m1, m2, k0, e, zret0, iv_add, iv_sub, iv_mul, iv_neg, iv_zero, iv_ltT, iv_ltF, iv_leT, iv_leF, iv_eqT, iv_eqF, iv_div, rm_iv, tn_iv, ib_iv, some_cb, some_cbv, ↓nm_eq, ↓reduceIte, true_and, and_true, Bool.true_eq_false, Bool.false_eq_true, not_false_eq_true, not_true_eq_false]
set_option maxRecDepth 100000 in
theorem c_addN (H : AdC h M b G C r o u) (hb : b < 12) (no : ¬ AdOK G C u) : f_X6_addBox M r (iv o) h = some (iv 0, h) := by
  obtain ⟨⟨m0, m1, m2, m3, m4, m5, m6⟩, -, ⟨g0, g1, c0, c1, -⟩, ⟨k0, o0, o1, o2⟩, hv⟩ := id H
  by_cases hu : ∀ j : Nat, j < G + C → 0 ≤ u j ∧ u j ≤ 99
  · obtain ⟨N', e'⟩ := c_chk H (G + C) FU 0 (FU_gt (by omega)) (by omega) (fun i _ z => hu i z)
    have ev := c_even H hu
    rw [if_neg (fun y => no ⟨hu, y⟩)] at ev
    change lp b_X6_addBox_13 (fun _ _ _ _ _ => none) FU M r (iv o) (iv 0) h = _ at e'
    have e2 : lp b_X6_addBox_13 (fun _ _ _ _ _ => none) (N' + 1) M r (iv o) (iv ((G + C : Nat) : Int)) h = some (iv 0, h) := by
      rw [show ((G + C : Nat) : Int) = (G : Int) + C by omega]
      simp -implicitDefEqProofs (disch := omega) only [lp_succ, F_b_X6_addBox_13, k_X6_addBox_13_1, k_X6_addBox_13_2, m0, m1, m2, ev, zret0, iv_add, iv_sub, iv_mul, iv_neg, iv_zero, iv_ltT, iv_ltF, iv_leT, iv_leF, iv_eqT, iv_eqF, iv_div, rm_iv, tn_iv, ib_iv, some_cb, some_cbv, ↓nm_eq, ↓reduceIte, true_and, and_true, Bool.true_eq_false, Bool.false_eq_true, not_false_eq_true, not_true_eq_false]
    rw [e2] at e'
    simp -implicitDefEqProofs (disch := omega) only [F_f_X6_addBox, f_X6_addBox_13, m0, m3, e', iv_add, iv_sub, iv_mul, iv_neg, iv_zero, iv_ltT, iv_ltF, iv_leT, iv_leF, iv_eqT, iv_eqF, iv_div, rm_iv, tn_iv, ib_iv, some_cb, some_cbv, ↓nm_eq, ↓reduceIte, true_and, and_true, Bool.true_eq_false, Bool.false_eq_true, not_false_eq_true, not_true_eq_false]
  · have ex : ∃ i : Nat, 0 ≤ i ∧ i < G + C ∧ ¬ (0 ≤ u i ∧ u i ≤ 99) := by
      by_cases q : ∃ i : Nat, 0 ≤ i ∧ i < G + C ∧ ¬ (0 ≤ u i ∧ u i ≤ 99)
      · exact q
      · refine absurd (fun j hj => ?_) hu
        by_cases p : 0 ≤ u j ∧ u j ≤ 99
        · exact p
        · exact absurd ⟨j, by omega, hj, p⟩ q
    have e' := c_chkN H (G + C) FU 0 (FU_gt (by omega)) (by omega) ex
    change lp b_X6_addBox_13 (fun _ _ _ _ _ => none) FU M r (iv o) (iv 0) h = _ at e'
    simp -implicitDefEqProofs (disch := omega) only [F_f_X6_addBox, f_X6_addBox_13, m0, m3, e', iv_add, iv_sub, iv_mul, iv_neg, iv_zero, iv_ltT, iv_ltF, iv_leT, iv_leF, iv_eqT, iv_eqF, iv_div, rm_iv, tn_iv, ib_iv, some_cb, some_cbv, ↓nm_eq, ↓reduceIte, true_and, and_true, Bool.true_eq_false, Bool.false_eq_true, not_false_eq_true, not_true_eq_false]
set_option maxRecDepth 100000 in
theorem c_addF {b : Int} (m0 : gK h M = 106) (m3 : gI h M 5 = iv b) (hb : 12 ≤ b) (hb2 : b ≤ 12) : f_X6_addBox M r (iv o) h = some (iv 0, h) := by
  simp -implicitDefEqProofs (disch := omega) only [F_f_X6_addBox, m0, m3, zret0, iv_add, iv_sub, iv_mul, iv_neg, iv_zero, iv_ltT, iv_ltF, iv_leT, iv_leF, iv_eqT, iv_eqF, iv_div, rm_iv, tn_iv, ib_iv, some_cb, some_cbv, ↓nm_eq, ↓reduceIte, true_and, and_true, Bool.true_eq_false, Bool.false_eq_true, not_false_eq_true, not_true_eq_false]
set_option maxRecDepth 100000 in
theorem c_boxG {B : AH} {a : Nat} (ka : gK B a = 100) (kM : gK B M = 106) (g0 : gI B M 0 = iv G) (kr : gK B r = 1) (r1 : gR B a 1 = a + 1) (k1 : gK B (a + 1) = 1) (n1 : gN B (a + 1) = 4) (hG : G ≤ 4) (o0 : 0 ≤ o) (o1 : o + G ≤ gN B r) (o2 : gN B r ≤ 200) (hM : M ≠ a + 1) (hr : r ≠ a + 1) (hv : ∀ j : Nat, j < G → gI B r (o + j).toNat = iv (u j)) (hu : ∀ j : Nat, j < G → 0 ≤ u j ∧ u j ≤ 99) (n : Nat) : ∀ (N j : Nat), n < N → j + n = G → lp b_X0_init_44 (fun _ _ _ _ _ _ _ => none) N a M r (iv o) (iv (suU u j)) (iv j) (fiC B (a + 1) u j) = f_X0_init_87 a M r (iv o) (iv (suU u G)) (iv 0) (fiC B (a + 1) u G) := by
  induction n with
  | zero =>
    intro N j hN hj
    obtain ⟨N, rfl⟩ : ∃ N', N = N' + 1 := ⟨N - 1, by omega⟩
    obtain rfl : j = G := by omega
    simp -implicitDefEqProofs (disch := omega) only [lp_succ, F_b_X0_init_44, fiC_K, fiC_I, kM, g0, iv_add, iv_sub, iv_mul, iv_neg, iv_zero, iv_ltT, iv_ltF, iv_leT, iv_leF, iv_eqT, iv_eqF, iv_div, rm_iv, tn_iv, ib_iv, some_cb, some_cbv, ↓nm_eq, ↓reduceIte, true_and, and_true, Bool.true_eq_false, Bool.false_eq_true, not_false_eq_true, not_true_eq_false]
  | succ n ih =>
    intro N j hN hj
    obtain ⟨N, rfl⟩ : ∃ N', N = N' + 1 := ⟨N - 1, by omega⟩
    rw [← ih N (j + 1) (by omega) (by omega), show ((j + 1 : Nat) : Int) = (j : Int) + 1 by omega]
    have e := hv j (by omega)
    have hj2 := hu j (by omega)
    have s1 := suU_rng (u := u) j (fun i hi => hu i (by omega))
    have jt : (j : Int).toNat = j := Int.toNat_natCast j
    show _ = lp b_X0_init_44 (fun _ _ _ _ _ _ _ => none) N a M r (iv o) (iv (suU u j + u j)) (iv ((j : Int) + 1)) (sI (fiC B (a + 1) u j) (a + 1) j (iv (u j)))
    simp -implicitDefEqProofs (disch := omega) only [lp_succ, F_b_X0_init_44, fiC_K, fiC_N, fiC_R, fiC_I, gK_sI, gN_sI, gR_sI, gI_sIs, ka, kM, g0, kr, r1, k1, n1, e, jt, iv_add, iv_sub, iv_mul, iv_neg, iv_zero, iv_ltT, iv_ltF, iv_leT, iv_leF, iv_eqT, iv_eqF, iv_div, rm_iv, tn_iv, ib_iv, some_cb, some_cbv, ↓nm_eq, ↓reduceIte, true_and, and_true, Bool.true_eq_false, Bool.false_eq_true, not_false_eq_true, not_true_eq_false]
set_option maxRecDepth 100000 in
theorem c_boxC {B : AH} {a : Nat} {v : Int} (ka : gK B a = 100) (kM : gK B M = 106) (g0 : gI B M 0 = iv G) (g1 : gI B M 1 = iv C) (kr : gK B r = 1) (r1 : gR B a 2 = a + 2) (k1 : gK B (a + 2) = 1) (n1 : gN B (a + 2) = 3) (hG : G ≤ 4) (hC : C ≤ 3) (o0 : 0 ≤ o) (o1 : o + G + C ≤ gN B r) (o2 : gN B r ≤ 200) (hM : M ≠ a + 2) (hr : r ≠ a + 2) (hv : ∀ j : Nat, j < C → gI B r (o + G + j).toNat = iv (u j)) (n : Nat) : ∀ (N j : Nat), n < N → j + n = C → lp b_X0_init_87 (fun _ _ _ _ _ _ _ => none) N a M r (iv o) (iv v) (iv j) (fiC B (a + 2) u j) = some (sI (fiC B (a + 2) u C) a 5 (iv v)) := by
  induction n with
  | zero =>
    intro N j hN hj
    obtain ⟨N, rfl⟩ : ∃ N', N = N' + 1 := ⟨N - 1, by omega⟩
    obtain rfl : j = C := by omega
    simp -implicitDefEqProofs (disch := omega) only [lp_succ, F_b_X0_init_87, fiC_K, fiC_I, ka, kM, g1, iv_add, iv_sub, iv_mul, iv_neg, iv_zero, iv_ltT, iv_ltF, iv_leT, iv_leF, iv_eqT, iv_eqF, iv_div, rm_iv, tn_iv, ib_iv, some_cb, some_cbv, ↓nm_eq, ↓reduceIte, true_and, and_true, Bool.true_eq_false, Bool.false_eq_true, not_false_eq_true, not_true_eq_false]
  | succ n ih =>
    intro N j hN hj
    obtain ⟨N, rfl⟩ : ∃ N', N = N' + 1 := ⟨N - 1, by omega⟩
    rw [← ih N (j + 1) (by omega) (by omega), show ((j + 1 : Nat) : Int) = (j : Int) + 1 by omega]
    have e := hv j (by omega)
    have jt : (j : Int).toNat = j := Int.toNat_natCast j
    show _ = lp b_X0_init_87 (fun _ _ _ _ _ _ _ => none) N a M r (iv o) (iv v) (iv ((j : Int) + 1)) (sI (fiC B (a + 2) u j) (a + 2) j (iv (u j)))
    simp -implicitDefEqProofs (disch := omega) only [lp_succ, F_b_X0_init_87, fiC_K, fiC_N, fiC_R, fiC_I, gK_sI, gN_sI, gR_sI, ka, kM, g0, g1, kr, r1, k1, n1, e, jt, iv_add, iv_sub, iv_mul, iv_neg, iv_zero, iv_ltT, iv_ltF, iv_leT, iv_leF, iv_eqT, iv_eqF, iv_div, rm_iv, tn_iv, ib_iv, some_cb, some_cbv, ↓nm_eq, ↓reduceIte, true_and, and_true, Bool.true_eq_false, Bool.false_eq_true, not_false_eq_true, not_true_eq_false]
theorem tz4 : Int.toNat 4 = 4 := rfl
theorem tz3 : Int.toNat 3 = 3 := rfl
theorem tz12 : Int.toNat 12 = 12 := rfl
theorem tz8 : Int.toNat 8 = 8 := rfl
theorem tc4 : (iv 4).toNatClampNeg = 4 := by decide
theorem tc3 : (iv 3).toNatClampNeg = 3 := by decide
theorem tc12 : (iv 12).toNatClampNeg = 12 := by decide
theorem tc8 : (iv 8).toNatClampNeg = 8 := by decide
theorem le4 : ((4 : Nat) ≤ 10000) = True := eq_true (by decide)
theorem le3 : ((3 : Nat) ≤ 10000) = True := eq_true (by decide)
theorem le12 : ((12 : Nat) ≤ 10000) = True := eq_true (by decide)
theorem le8 : ((8 : Nat) ≤ 10000) = True := eq_true (by decide)
set_option maxRecDepth 100000 in
theorem c_box0 (H : AH) (M r : Nat) (o : Int32) : f_X0_init (gC H) M r o (nw H 100 9) = f_X0_init_44 (gC H) M r o (iv 0) (iv 0) (bxN H M) := by
  have k0 : gK (nw H 100 9) (gC H) = 100 := gK_nws _ _ _
  have k1 : gK (nw (nw H 100 9) 1 4) (gC H) = 100 := by rw [gK_nwo _ _ _ (by rw [gC_nw]; omega)]; exact k0
  have k2 : gK (nw (sR (nw (nw H 100 9) 1 4) (gC H) 1 (gC H + 1)) 1 3) (gC H) = 100 := by rw [gK_nwo _ _ _ (by rw [gC_sR, gC_nw, gC_nw]; omega)]; exact k1
  have k3 : gK (nw (sR (nw (sR (nw (nw H 100 9) 1 4) (gC H) 1 (gC H + 1)) 1 3) (gC H) 2 (gC H + 2)) 1 3) (gC H) = 100 := by rw [gK_nwo _ _ _ (by rw [gC_sR, gC_nw, gC_sR, gC_nw, gC_nw]; omega)]; exact k2
  have k4 : gK (nw (sR (nw (sR (nw (sR (nw (nw H 100 9) 1 4) (gC H) 1 (gC H + 1)) 1 3) (gC H) 2 (gC H + 2)) 1 3) (gC H) 3 (gC H + 3)) 1 12) (gC H) = 100 := by rw [gK_nwo _ _ _ (by rw [gC_sR, gC_nw, gC_sR, gC_nw, gC_sR, gC_nw, gC_nw]; omega)]; exact k3
  unfold bxN
  simp -implicitDefEqProofs (disch := omega) only [F_f_X0_init, tz4, tz3, tz12, le4, le3, le12, k0, k1, k2, k3, k4, gC_nw, gC_sR, gK_sR, Nat.add_assoc, Nat.reduceAdd, nz100, iv_add, iv_sub, iv_mul, iv_neg, iv_zero, iv_ltT, iv_ltF, iv_leT, iv_leF, iv_eqT, iv_eqF, iv_div, rm_iv, tn_iv, ib_iv, some_cb, some_cbv, ↓nm_eq, ↓reduceIte, true_and, and_true, Bool.true_eq_false, Bool.false_eq_true, not_false_eq_true, not_true_eq_false]
set_option maxRecDepth 100000 in
theorem c_addY (H : AdC h M b G C r o u) (hb : b < 12) (ok : AdOK G C u) : f_X6_addBox M r (iv o) h = some (iv 1, abC h M b G C u) := by
  obtain ⟨⟨m0, m1, m2, m3, m4, m5, m6⟩, ⟨M0, M1, r1⟩, ⟨g0, g1, c0, c1, -⟩, ⟨k0, o0, o1, o2⟩, hv⟩ := id H
  obtain ⟨hu, hs⟩ := ok
  obtain ⟨N', e'⟩ := c_chk H (G + C) FU 0 (FU_gt (by omega)) (by omega) (fun i _ z => hu i z)
  have ev := c_even H hu
  rw [if_pos hs] at ev
  change lp b_X6_addBox_13 (fun _ _ _ _ _ => none) FU M r (iv o) (iv 0) h = _ at e'
  have i0 := c_box0 (sI h M 5 (iv (b + 1))) M r (iv o)
  rw [gC_sI] at i0
  have lowI : ∀ a i, a < gC h → gI (bxN (sI h M 5 (iv (b + 1))) M) a i = gI (sI h M 5 (iv (b + 1))) a i := fun a i z => by
    rw [bxN_I, gC_sI, if_neg (by omega), if_neg (by omega), if_neg (by omega), if_neg (by omega), if_neg (by omega)]
  have lowK : ∀ a, a < gC h → gK (bxN (sI h M 5 (iv (b + 1))) M) a = gK h a := fun a z => by
    rw [bxN_K, gC_sI, if_neg (by omega), if_neg (by omega), if_neg (by omega), if_neg (by omega), if_neg (by omega), gK_sI]
  have lowN : ∀ a, a < gC h → gN (bxN (sI h M 5 (iv (b + 1))) M) a = gN h a := fun a z => by
    rw [bxN_N, gC_sI, if_neg (by omega), if_neg (by omega), if_neg (by omega), if_neg (by omega), if_neg (by omega), gN_sI]
  have ka : gK (bxN (sI h M 5 (iv (b + 1))) M) (gC h) = 100 := by rw [bxN_K, gC_sI, if_neg (by omega), if_neg (by omega), if_neg (by omega), if_neg (by omega), if_pos rfl]
  have k1 : gK (bxN (sI h M 5 (iv (b + 1))) M) (gC h + 1) = 1 := by rw [bxN_K, gC_sI, if_neg (by omega), if_neg (by omega), if_neg (by omega), if_pos rfl]
  have k2 : gK (bxN (sI h M 5 (iv (b + 1))) M) (gC h + 2) = 1 := by rw [bxN_K, gC_sI, if_neg (by omega), if_neg (by omega), if_pos rfl]
  have n1 : gN (bxN (sI h M 5 (iv (b + 1))) M) (gC h + 1) = 4 := by rw [bxN_N, gC_sI, if_neg (by omega), if_neg (by omega), if_neg (by omega), if_pos rfl]
  have n2 : gN (bxN (sI h M 5 (iv (b + 1))) M) (gC h + 2) = 3 := by rw [bxN_N, gC_sI, if_neg (by omega), if_neg (by omega), if_pos rfl]
  have r1' : gR (bxN (sI h M 5 (iv (b + 1))) M) (gC h) 1 = gC h + 1 := by rw [bxN_R, gC_sI, if_neg (by omega), if_neg (by omega), if_neg (by omega), if_neg (by omega), if_neg (by omega), if_neg (by omega), if_neg (by omega), if_pos ⟨rfl, rfl⟩]
  have r2' : gR (bxN (sI h M 5 (iv (b + 1))) M) (gC h) 2 = gC h + 2 := by rw [bxN_R, gC_sI, if_neg (by omega), if_neg (by omega), if_neg (by omega), if_neg (by omega), if_neg (by omega), if_pos ⟨rfl, rfl⟩]
  have f1 := c_boxG (B := bxN (sI h M 5 (iv (b + 1))) M) (a := gC h) (M := M) (r := r) (G := G) (u := u) (o := o) ka (by rw [lowK _ (by omega), m0]) (by rw [lowI _ _ (by omega), gI_sIo _ _ (by omega), m1]) (by rw [lowK _ (by omega), k0]) r1' k1 n1 g1 o0 (by rw [lowN _ (by omega)]; omega) (by rw [lowN _ (by omega)]; omega) (by omega) (by omega) (fun j hj => by rw [lowI _ _ (by omega), gI_sIo _ _ (by omega)]; exact (hv j (by omega)).1) (fun j hj => hu j (by omega)) G FU 0 (FU_gt (by omega)) (by omega)
  have f2 := c_boxC (B := fiC (bxN (sI h M 5 (iv (b + 1))) M) (gC h + 1) u G) (a := gC h) (M := M) (r := r) (G := G) (C := C) (u := fun k => u (G + k)) (o := o) (v := suU u G) (by rw [fiC_K]; exact ka) (by rw [fiC_K, lowK _ (by omega), m0]) (by rw [fiC_I _ (by omega), lowI _ _ (by omega), gI_sIo _ _ (by omega), m1]) (by rw [fiC_I _ (by omega), lowI _ _ (by omega), gI_sIo _ _ (by omega), m2]) (by rw [fiC_K, lowK _ (by omega), k0]) (by rw [fiC_R]; exact r2') (by rw [fiC_K]; exact k2) (by rw [fiC_N]; exact n2) g1 c1 o0 (by rw [fiC_N, lowN _ (by omega)]; omega) (by rw [fiC_N, lowN _ (by omega)]; omega) (by omega) (by omega) (fun j hj => by rw [fiC_I _ (by omega), lowI _ _ (by omega), gI_sIo _ _ (by omega), show o + (G : Int) + (j : Int) = o + ((G + j : Nat) : Int) by omega]; exact (hv (G + j) (by omega)).1) C FU 0 (FU_gt (by omega)) (by omega)
  change f_X0_init_44 (gC h) M r (iv o) (iv 0) (iv 0) (bxN (sI h M 5 (iv (b + 1))) M) = _ at f1
  change f_X0_init_87 (gC h) M r (iv o) (iv (suU u G)) (iv 0) (fiC (bxN (sI h M 5 (iv (b + 1))) M) (gC h + 1) u G) = _ at f2
  rw [f1, f2] at i0
  clear f1 f2
  have e2 : lp b_X6_addBox_13 (fun _ _ _ _ _ => none) (N' + 1) M r (iv o) (iv ((G + C : Nat) : Int)) h = some (iv 1, abC h M b G C u) := by
    rw [show ((G + C : Nat) : Int) = (G : Int) + C by omega]
    have n0 : gK (nw (sI h M 5 (iv (b + 1))) 100 9) (gC h) = 100 := by rw [← gC_sI h M 5 (iv (b + 1)), gK_nws]
    have kx : gK (fiC (fiC (bxN (sI h M 5 (iv (b + 1))) M) (gC h + 1) u G) (gC h + 2) (fun k => u (G + k)) C) (M + 1) = 10 := by rw [fiC_K, fiC_K, lowK _ (by omega), m5]
    have nx : gN (fiC (fiC (bxN (sI h M 5 (iv (b + 1))) M) (gC h + 1) u G) (gC h + 2) (fun k => u (G + k)) C) (M + 1) = 12 := by rw [fiC_N, fiC_N, lowN _ (by omega), m6]
    have ky : gK (fiC (fiC (bxN (sI h M 5 (iv (b + 1))) M) (gC h + 1) u G) (gC h + 2) (fun k => u (G + k)) C) (gC h) = 100 := by rw [fiC_K, fiC_K, ka]
    have bt : (b : Int).toNat = b := Int.toNat_natCast b
    unfold abC
    simp -implicitDefEqProofs (disch := omega) only [lp_succ, F_b_X6_addBox_13, k_X6_addBox_13_1, k_X6_addBox_13_2, m0, m1, m2, m3, m4, ev, n0, nz100, i0, kx, nx, ky, bt, gC_sI, gK_sI, gN_sI, gR_sI, zret1, iv_add, iv_sub, iv_mul, iv_neg, iv_zero, iv_ltT, iv_ltF, iv_leT, iv_leF, iv_eqT, iv_eqF, iv_div, rm_iv, tn_iv, ib_iv, some_cb, some_cbv, ↓nm_eq, ↓reduceIte, true_and, and_true, Bool.true_eq_false, Bool.false_eq_true, not_false_eq_true, not_true_eq_false]
  rw [e2] at e'
  simp -implicitDefEqProofs (disch := omega) only [F_f_X6_addBox, f_X6_addBox_13, m0, m3, e', iv_add, iv_sub, iv_mul, iv_neg, iv_zero, iv_ltT, iv_ltF, iv_leT, iv_leF, iv_eqT, iv_eqF, iv_div, rm_iv, tn_iv, ib_iv, some_cb, some_cbv, ↓nm_eq, ↓reduceIte, true_and, and_true, Bool.true_eq_false, Bool.false_eq_true, not_false_eq_true, not_true_eq_false]
end R
