/-! the reference goes through the rows of a set -/
section Q
variable {w : WD} {A : Int → Nat} {h hh : AH} {c : Int → Int} {m : Int} {S N : Int32}
theorem nmB_of (hl : lvM w m) (hW : WI w) {k : Int} (k0 : 0 ≤ k) (k1 : k < wH w m) (hb : bt S k) : nb w m S (hBo w (12 * m + k)) = true ∧ (2 ≤ hSo w (12 * m + k) → nb w m S (hOt w (12 * m + k)) = true) :=
  ⟨nb_t.2 ⟨k, k0, k1, hb, Or.inl rfl⟩, fun z => nb_t.2 ⟨k, k0, k1, hb, Or.inr ⟨z, rfl⟩⟩⟩
set_option maxRecDepth 100000 in
theorem q_isHeld (NN : NS w A h hh c) (hl : lvM w m) {r : RoT} (hV : RoV w m S r) (hS : RoS w m S c r (wBx w m)) {k : Int} (k0 : 0 ≤ k) (k1 : k < wH w m) (hb : bt S k) : (hld w (12 * m + k) r → f_X12_isHeld 91 (iv (12 * m + k)) hh = some (iv 1, hh)) ∧ (¬ hld w (12 * m + k) r → f_X12_isHeld 91 (iv (12 * m + k)) hh = some (iv 0, hh)) := by
  have hW := NN.2.1.W
  have hF := NN.2.1.F
  have hR := NN.2.1.R
  obtain ⟨⟨w1, w2⟩, -⟩ := id hW
  obtain ⟨l1, l2⟩ := id hl
  obtain ⟨⟨gg1, gg2⟩, ⟨gc1, gc2⟩, ⟨b2, b3⟩, ⟨hh1, hh2⟩, -, hH⟩ := hW.mat hl
  obtain ⟨⟨s0, s1⟩, ⟨c0, cg, ck⟩, ⟨bb0, bb1⟩, ⟨o0, o1⟩, ⟨u0, u1⟩, ot⟩ := hH k k0 k1
  obtain ⟨n1, n2⟩ := nmB_of hl hW k0 k1 hb
  obtain ⟨e1, a0, a1⟩ := q_rcell NN hl hV hS bb0 bb1 n1 c0 rfl rfl cg ck
  have eA : hldA w (12 * m + k) r = tcl (r (hBo w (12 * m + k))) (hCe w (12 * m + k) / 10).toNat (hCe w (12 * m + k) % 10) := rfl
  obtain ⟨a, ha⟩ : ∃ a, tcl (r (hBo w (12 * m + k))) (hCe w (12 * m + k) / 10).toNat (hCe w (12 * m + k) % 10) = a := ⟨_, rfl⟩
  rw [ha] at e1 a0 a1 eA
  obtain ⟨so, hso⟩ : ∃ so, hSo w (12 * m + k) = so := ⟨_, rfl⟩
  obtain ⟨mu, hmu⟩ : ∃ mu, hMu w (12 * m + k) = mu := ⟨_, rfl⟩
  unfold hld
  rw [eA, hso, hmu]
  rw [hmu] at u0 u1
  by_cases z : 2 ≤ hSo w (12 * m + k)
  · obtain ⟨o2, o3⟩ := ot z
    obtain ⟨e2, a2, a3⟩ := q_rcell NN hl hV hS o0 o2 (n2 z) c0 rfl rfl cg ck
    have eB : hldB w (12 * m + k) r = tcl (r (hOt w (12 * m + k))) (hCe w (12 * m + k) / 10).toNat (hCe w (12 * m + k) % 10) := rfl
    obtain ⟨b, hb'⟩ : ∃ b, tcl (r (hOt w (12 * m + k))) (hCe w (12 * m + k) / 10).toNat (hCe w (12 * m + k) % 10) = b := ⟨_, rfl⟩
    rw [hb'] at e2 a2 a3 eB
    rw [eB]
    rw [hso] at z s1
    by_cases y1 : a - b ≤ mu
    · rcases (show so = 2 ∨ so = 3 by omega) with q | q
      · subst q
        by_cases y2 : b - a ≤ mu
        · refine ⟨fun _ => ?_, fun y => absurd (Or.inr (Or.inr ⟨by omega, y1, Or.inr y2⟩)) y⟩
          simp -implicitDefEqProofs (disch := omega) only [F_f_X12_isHeld, k_X12_isHeld_1, k_X12_isHeld_2, K91 hF, R91_13 hF, K104 hF, N104 hF, R91_14 hF, K105 hF, N105 hF, R91_15 hF, K106 hF, N106 hF, R91_16 hF, K107 hF, N107 hF, R91_17 hF, K108 hF, N108 hF, RR_hSo hR, RR_hCe hR, RR_hBo hR, RR_hOt hR, RR_hMu hR, hso, hmu, e1, e2, zret0, zret1, iv_add, iv_sub, iv_mul, iv_neg, iv_zero, iv_ltT, iv_ltF, iv_leT, iv_leF, iv_eqT, iv_eqF, iv_div, rm_iv, tn_iv, ib_iv, some_cb, some_cbv, ↓nm_eq, ↓reduceIte, true_and, and_true, Bool.true_eq_false, Bool.false_eq_true, not_false_eq_true, not_true_eq_false]
        · refine ⟨fun y => by omega, fun _ => ?_⟩
          simp -implicitDefEqProofs (disch := omega) only [F_f_X12_isHeld, k_X12_isHeld_1, k_X12_isHeld_2, K91 hF, R91_13 hF, K104 hF, N104 hF, R91_14 hF, K105 hF, N105 hF, R91_15 hF, K106 hF, N106 hF, R91_16 hF, K107 hF, N107 hF, R91_17 hF, K108 hF, N108 hF, RR_hSo hR, RR_hCe hR, RR_hBo hR, RR_hOt hR, RR_hMu hR, hso, hmu, e1, e2, zret0, zret1, iv_add, iv_sub, iv_mul, iv_neg, iv_zero, iv_ltT, iv_ltF, iv_leT, iv_leF, iv_eqT, iv_eqF, iv_div, rm_iv, tn_iv, ib_iv, some_cb, some_cbv, ↓nm_eq, ↓reduceIte, true_and, and_true, Bool.true_eq_false, Bool.false_eq_true, not_false_eq_true, not_true_eq_false]
      · subst q
        refine ⟨fun _ => ?_, fun y => absurd (Or.inr (Or.inr ⟨by omega, y1, Or.inl rfl⟩)) y⟩
        simp -implicitDefEqProofs (disch := omega) only [F_f_X12_isHeld, k_X12_isHeld_1, k_X12_isHeld_2, K91 hF, R91_13 hF, K104 hF, N104 hF, R91_14 hF, K105 hF, N105 hF, R91_15 hF, K106 hF, N106 hF, R91_16 hF, K107 hF, N107 hF, R91_17 hF, K108 hF, N108 hF, RR_hSo hR, RR_hCe hR, RR_hBo hR, RR_hOt hR, RR_hMu hR, hso, hmu, e1, e2, zret0, zret1, iv_add, iv_sub, iv_mul, iv_neg, iv_zero, iv_ltT, iv_ltF, iv_leT, iv_leF, iv_eqT, iv_eqF, iv_div, rm_iv, tn_iv, ib_iv, some_cb, some_cbv, ↓nm_eq, ↓reduceIte, true_and, and_true, Bool.true_eq_false, Bool.false_eq_true, not_false_eq_true, not_true_eq_false]
    · refine ⟨fun y => by omega, fun _ => ?_⟩
      simp -implicitDefEqProofs (disch := omega) only [F_f_X12_isHeld, k_X12_isHeld_1, k_X12_isHeld_2, K91 hF, R91_13 hF, K104 hF, N104 hF, R91_14 hF, K105 hF, N105 hF, R91_15 hF, K106 hF, N106 hF, R91_16 hF, K107 hF, N107 hF, R91_17 hF, K108 hF, N108 hF, RR_hSo hR, RR_hCe hR, RR_hBo hR, RR_hOt hR, RR_hMu hR, hso, hmu, e1, e2, zret0, zret1, iv_add, iv_sub, iv_mul, iv_neg, iv_zero, iv_ltT, iv_ltF, iv_leT, iv_leF, iv_eqT, iv_eqF, iv_div, rm_iv, tn_iv, ib_iv, some_cb, some_cbv, ↓nm_eq, ↓reduceIte, true_and, and_true, Bool.true_eq_false, Bool.false_eq_true, not_false_eq_true, not_true_eq_false]
  · rw [hso] at z s0
    rcases (show so = 0 ∨ so = 1 by omega) with q | q
    · subst q
      by_cases y1 : a ≤ mu
      · refine ⟨fun _ => ?_, fun y => absurd (Or.inl ⟨rfl, y1⟩) y⟩
        simp -implicitDefEqProofs (disch := omega) only [F_f_X12_isHeld, k_X12_isHeld_1, k_X12_isHeld_2, K91 hF, R91_13 hF, K104 hF, N104 hF, R91_14 hF, K105 hF, N105 hF, R91_15 hF, K106 hF, N106 hF, R91_17 hF, K108 hF, N108 hF, RR_hSo hR, RR_hCe hR, RR_hBo hR, RR_hMu hR, hso, hmu, e1, zret0, zret1, iv_add, iv_sub, iv_mul, iv_neg, iv_zero, iv_ltT, iv_ltF, iv_leT, iv_leF, iv_eqT, iv_eqF, iv_div, rm_iv, tn_iv, ib_iv, some_cb, some_cbv, ↓nm_eq, ↓reduceIte, true_and, and_true, Bool.true_eq_false, Bool.false_eq_true, not_false_eq_true, not_true_eq_false]
      · refine ⟨fun y => by omega, fun _ => ?_⟩
        simp -implicitDefEqProofs (disch := omega) only [F_f_X12_isHeld, k_X12_isHeld_1, k_X12_isHeld_2, K91 hF, R91_13 hF, K104 hF, N104 hF, R91_14 hF, K105 hF, N105 hF, R91_15 hF, K106 hF, N106 hF, R91_17 hF, K108 hF, N108 hF, RR_hSo hR, RR_hCe hR, RR_hBo hR, RR_hMu hR, hso, hmu, e1, zret0, zret1, iv_add, iv_sub, iv_mul, iv_neg, iv_zero, iv_ltT, iv_ltF, iv_leT, iv_leF, iv_eqT, iv_eqF, iv_div, rm_iv, tn_iv, ib_iv, some_cb, some_cbv, ↓nm_eq, ↓reduceIte, true_and, and_true, Bool.true_eq_false, Bool.false_eq_true, not_false_eq_true, not_true_eq_false]
    · subst q
      by_cases y1 : mu ≤ a
      · refine ⟨fun _ => ?_, fun y => absurd (Or.inr (Or.inl ⟨rfl, y1⟩)) y⟩
        simp -implicitDefEqProofs (disch := omega) only [F_f_X12_isHeld, k_X12_isHeld_1, k_X12_isHeld_2, K91 hF, R91_13 hF, K104 hF, N104 hF, R91_14 hF, K105 hF, N105 hF, R91_15 hF, K106 hF, N106 hF, R91_17 hF, K108 hF, N108 hF, RR_hSo hR, RR_hCe hR, RR_hBo hR, RR_hMu hR, hso, hmu, e1, zret0, zret1, iv_add, iv_sub, iv_mul, iv_neg, iv_zero, iv_ltT, iv_ltF, iv_leT, iv_leF, iv_eqT, iv_eqF, iv_div, rm_iv, tn_iv, ib_iv, some_cb, some_cbv, ↓nm_eq, ↓reduceIte, true_and, and_true, Bool.true_eq_false, Bool.false_eq_true, not_false_eq_true, not_true_eq_false]
      · refine ⟨fun y => by omega, fun _ => ?_⟩
        simp -implicitDefEqProofs (disch := omega) only [F_f_X12_isHeld, k_X12_isHeld_1, k_X12_isHeld_2, K91 hF, R91_13 hF, K104 hF, N104 hF, R91_14 hF, K105 hF, N105 hF, R91_15 hF, K106 hF, N106 hF, R91_17 hF, K108 hF, N108 hF, RR_hSo hR, RR_hCe hR, RR_hBo hR, RR_hMu hR, hso, hmu, e1, zret0, zret1, iv_add, iv_sub, iv_mul, iv_neg, iv_zero, iv_ltT, iv_ltF, iv_leT, iv_leF, iv_eqT, iv_eqF, iv_div, rm_iv, tn_iv, ib_iv, some_cb, some_cbv, ↓nm_eq, ↓reduceIte, true_and, and_true, Bool.true_eq_false, Bool.false_eq_true, not_false_eq_true, not_true_eq_false]
set_option maxRecDepth 100000 in
theorem q_areHeld (NN : NS w A h hh c) (hl : lvM w m) {r : RoT} (hV : RoV w m S r) (hS : RoS w m S c r (wBx w m)) : (kep w m S r → f_X12_areHeld 91 (iv m) S hh = some (iv 1, hh)) ∧ (¬ kep w m S r → f_X12_areHeld 91 (iv m) S hh = some (iv 0, hh)) := by
  have hW := NN.2.1.W
  have hF := NN.2.1.F
  have hR := NN.2.1.R
  obtain ⟨⟨w1, w2⟩, -⟩ := id hW
  obtain ⟨l1, l2⟩ := id hl
  obtain ⟨-, -, -, ⟨hh1, hh2⟩, -⟩ := hW.mat hl
  have l : ∀ (n L : Nat) (j : Int), n < L → 0 ≤ j → j + n = wH w m → ((∀ k : Int, j ≤ k → k < wH w m → bt S k → hld w (12 * m + k) r) → lp b_X12_areHeld_2 (fun _ _ _ _ _ => none) L 91 (iv m) S (iv j) hh = some (iv 1, hh)) ∧ (¬ (∀ k : Int, j ≤ k → k < wH w m → bt S k → hld w (12 * m + k) r) → lp b_X12_areHeld_2 (fun _ _ _ _ _ => none) L 91 (iv m) S (iv j) hh = some (iv 0, hh)) := by
    intro n
    induction n with
    | zero =>
      intro L j hL j0 hj
      obtain ⟨L, rfl⟩ : ∃ L', L = L' + 1 := ⟨L - 1, by omega⟩
      refine ⟨fun _ => ?_, fun y => absurd (fun k k0 k1 => by omega) y⟩
      simp -implicitDefEqProofs (disch := omega) only [lp_succ, F_b_X12_areHeld_2, K91 hF, R91_12 hF, K103 hF, N103 hF, RR_H hR, zret1, iv_add, iv_sub, iv_mul, iv_neg, iv_zero, iv_ltT, iv_ltF, iv_leT, iv_leF, iv_eqT, iv_eqF, iv_div, rm_iv, tn_iv, ib_iv, some_cb, some_cbv, ↓nm_eq, ↓reduceIte, true_and, and_true, Bool.true_eq_false, Bool.false_eq_true, not_false_eq_true, not_true_eq_false]
    | succ n ih =>
      intro L j hL j0 hj
      obtain ⟨L, rfl⟩ : ∃ L', L = L' + 1 := ⟨L - 1, by omega⟩
      obtain ⟨i1, i2⟩ := ih L (j + 1) (by omega) (by omega) (by omega)
      have ext : (bt S j → hld w (12 * m + j) r) → ((∀ k : Int, j ≤ k → k < wH w m → bt S k → hld w (12 * m + k) r) ↔ (∀ k : Int, j + 1 ≤ k → k < wH w m → bt S k → hld w (12 * m + k) r)) := fun y => ⟨fun z k k0 => z k (by omega), fun z k k0 k1 kb => by
        by_cases e : k = j
        · subst e; exact y kb
        · exact z k (by omega) k1 kb⟩
      by_cases z : bt S j
      · have z' : ((S >>> (iv j &&& 31)) &&& iv 1 = iv 1) = True := eq_true z
        obtain ⟨q1, q2⟩ := q_isHeld NN hl hV hS j0 (by omega) z
        by_cases y : hld w (12 * m + j) r
        · have e1 := q1 y
          rw [ext (fun _ => y)]
          refine ⟨fun t => ?_, fun t => ?_⟩
          · rw [← i1 t]
            simp -implicitDefEqProofs (disch := omega) only [lp_succ, F_b_X12_areHeld_2, k_X12_areHeld_2_1, K91 hF, R91_12 hF, K103 hF, N103 hF, RR_H hR, z', e1, iv_add, iv_sub, iv_mul, iv_neg, iv_zero, iv_ltT, iv_ltF, iv_leT, iv_leF, iv_eqT, iv_eqF, iv_div, rm_iv, tn_iv, ib_iv, some_cb, some_cbv, ↓nm_eq, ↓reduceIte, true_and, and_true, Bool.true_eq_false, Bool.false_eq_true, not_false_eq_true, not_true_eq_false]
          · rw [← i2 t]
            simp -implicitDefEqProofs (disch := omega) only [lp_succ, F_b_X12_areHeld_2, k_X12_areHeld_2_1, K91 hF, R91_12 hF, K103 hF, N103 hF, RR_H hR, z', e1, iv_add, iv_sub, iv_mul, iv_neg, iv_zero, iv_ltT, iv_ltF, iv_leT, iv_leF, iv_eqT, iv_eqF, iv_div, rm_iv, tn_iv, ib_iv, some_cb, some_cbv, ↓nm_eq, ↓reduceIte, true_and, and_true, Bool.true_eq_false, Bool.false_eq_true, not_false_eq_true, not_true_eq_false]
        · have e1 := q2 y
          refine ⟨fun t => absurd (t j (Int.le_refl _) (by omega) z) y, fun _ => ?_⟩
          simp -implicitDefEqProofs (disch := omega) only [lp_succ, F_b_X12_areHeld_2, k_X12_areHeld_2_1, K91 hF, R91_12 hF, K103 hF, N103 hF, RR_H hR, z', e1, zret0, iv_add, iv_sub, iv_mul, iv_neg, iv_zero, iv_ltT, iv_ltF, iv_leT, iv_leF, iv_eqT, iv_eqF, iv_div, rm_iv, tn_iv, ib_iv, some_cb, some_cbv, ↓nm_eq, ↓reduceIte, true_and, and_true, Bool.true_eq_false, Bool.false_eq_true, not_false_eq_true, not_true_eq_false]
      · have z' : ((S >>> (iv j &&& 31)) &&& iv 1 = iv 1) = False := eq_false z
        rw [ext (fun y => absurd y z)]
        refine ⟨fun t => ?_, fun t => ?_⟩
        · rw [← i1 t]
          simp -implicitDefEqProofs (disch := omega) only [lp_succ, F_b_X12_areHeld_2, K91 hF, R91_12 hF, K103 hF, N103 hF, RR_H hR, z', iv_add, iv_sub, iv_mul, iv_neg, iv_zero, iv_ltT, iv_ltF, iv_leT, iv_leF, iv_eqT, iv_eqF, iv_div, rm_iv, tn_iv, ib_iv, some_cb, some_cbv, ↓nm_eq, ↓reduceIte, true_and, and_true, Bool.true_eq_false, Bool.false_eq_true, not_false_eq_true, not_true_eq_false]
        · rw [← i2 t]
          simp -implicitDefEqProofs (disch := omega) only [lp_succ, F_b_X12_areHeld_2, K91 hF, R91_12 hF, K103 hF, N103 hF, RR_H hR, z', iv_add, iv_sub, iv_mul, iv_neg, iv_zero, iv_ltT, iv_ltF, iv_leT, iv_leF, iv_eqT, iv_eqF, iv_div, rm_iv, tn_iv, ib_iv, some_cb, some_cbv, ↓nm_eq, ↓reduceIte, true_and, and_true, Bool.true_eq_false, Bool.false_eq_true, not_false_eq_true, not_true_eq_false]
  obtain ⟨l3, l4⟩ := l (wH w m).toNat FU 0 (FU_gt (by omega)) (by omega) (by omega)
  exact ⟨fun y => l3 y, fun y => l4 y⟩
theorem le_rng2 (hW : WI w) (hl : lvM w m) {b g k : Int} (b0 : 0 ≤ b) (tb : b < wBx w m) (g0 : 0 ≤ g) (g1 : g < wGr w m) (k0 : 0 ≤ k) (k1 : k < wCh w m) : (0 ≤ wLe w m (12 * m + b) g k ∧ wLe w m (12 * m + b) g k ≤ 99) ∧ (0 ≤ wMo w m (12 * m + b) g k ∧ wMo w m (12 * m + b) g k ≤ 99) ∧ wLe w m (12 * m + b) g k ≤ wMo w m (12 * m + b) g k := by
  obtain ⟨⟨gg1, gg2⟩, ⟨gc1, gc2⟩, -⟩ := hW.mat hl
  have hV := hW.box hl b0 tb
  have v := oB_v hV (g := g) g0 (by omega)
  have v0 := oB_v hV (g := 0) (by omega) (by omega)
  have v1 := oB_v hV (g := 1) (by omega) (by omega)
  have v2 := oB_v hV (g := 2) (by omega) (by omega)
  have v3 := oB_v hV (g := 3) (by omega) (by omega)
  have u := oB_c hV (k := k) k0 (by omega)
  have u0 := oB_c hV (k := 0) (by omega) (by omega)
  have u1 := oB_c hV (k := 1) (by omega) (by omega)
  have u2 := oB_c hV (k := 2) (by omega) (by omega)
  obtain ⟨-, -, -, s1, s2, wo, ws, -⟩ := hV
  unfold wLe wMo
  rcases wo with o | o
  · rw [if_neg (by omega), if_neg (by omega)]
    have a1 : wP w m (12 * m + b) g ≤ wV w (12 * m + b) := by
      rcases (show g = 0 ∨ g = 1 ∨ g = 2 ∨ g = 3 by omega) with e | e | e | e <;> subst e <;> omega
    have a2 : wC w (12 * m + b) k ≤ wV w (12 * m + b) := by
      rcases (show k = 0 ∨ k = 1 ∨ k = 2 by omega) with e | e | e <;> subst e <;> omega
    omega
  · rw [if_pos o, if_pos o]
    have := ws o (3 * g + k) (by omega) (by omega)
    omega
theorem un_rng (hW : WI w) (hl : lvM w m) {g k : Int} (g0 : 0 ≤ g) (g1 : g < wGr w m) (k0 : 0 ≤ k) (k1 : k < wCh w m) : ∀ n : Nat, (n : Int) ≤ wBx w m → (0 ≤ loU w m S g k n ∧ loU w m S g k n ≤ 99 * n) ∧ 0 ≤ hiU w m S g k n ∧ hiU w m S g k n ≤ 99 * n := by
  intro n
  induction n with
  | zero => intro _; unfold loU hiU; omega
  | succ n ih =>
    intro hn
    have := ih (by omega)
    have r := le_rng2 hW hl (b := n) (by omega) (by omega) g0 g1 k0 k1
    unfold loU hiU
    by_cases z : nb w m S n = true
    · rw [if_pos z, if_pos z]; omega
    · rw [if_neg z, if_neg z]; omega
theorem nm_rng (hW : WI w) (hl : lvM w m) {r : RoT} (hV : RoV w m S r) {g k : Int} (g0 : 0 ≤ g) (g1 : g < wGr w m) (k0 : 0 ≤ k) (k1 : k < wCh w m) : ∀ n : Nat, (n : Int) ≤ wBx w m → 0 ≤ nmS w m S g k r n ∧ nmS w m S g k r n ≤ 297 * n := by
  obtain ⟨-, ⟨gc1, gc2⟩, -⟩ := hW.mat hl
  intro n
  induction n with
  | zero => intro _; unfold nmS; omega
  | succ n ih =>
    intro hn
    have := ih (by omega)
    unfold nmS
    by_cases z : nb w m S n = true
    · have r := tab_cell hW hl (b := n) (by omega) (by omega) (hV n (by omega) (by omega)) z g0 g1 k0 (by omega)
      rw [if_pos z]; omega
    · rw [if_neg z]; omega
end Q
