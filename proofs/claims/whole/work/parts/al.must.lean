/-! must -/
def FI (h h' : AH) : Prop := ∀ a i : Nat, gI h' a i = gI h a i
theorem FI.rf (h : AH) : FI h h := fun _ _ => rfl
theorem FI.tr {h1 h2 h3 : AH} (a : FI h1 h2) (b : FI h2 h3) : FI h1 h3 := fun x i => (b x i).trans (a x i)
section Q
variable {w : WD} {A : Int → Nat} {h : AH}
set_option maxRecDepth 100000 in
theorem c_howManyF (hS : Sim w A h) {m b : Int} (hl : lvM w m) (b0 : 0 ≤ b) (tb : b < wBx w m) : ∃ h' : AH, f_X0_howMany (A (10 + (12 * m + b))) h = some (jv (cnX w m (12 * m + b)), h') ∧ Sc w A h h' ∧ FI h h' := by
  have hB := hS.B hl b0 tb
  have hV := hS.W.box hl b0 tb
  obtain ⟨r1, r2⟩ := cnX_rng hS.W hl b0 tb
  rcases hS.wy m b hl b0 tb with z | z
  · have q := fun (g : Int) (g0 : 0 ≤ g) (g1 : g < 4) => oB_v hV g0 g1
    have c0 := oB_c hV (k := 0) (by omega) (by omega)
    have c1 := oB_c hV (k := 1) (by omega) (by omega)
    have c2 := oB_c hV (k := 2) (by omega) (by omega)
    have v1 := hV.2.2.2.1
    have v2 := hV.2.2.2.2.1
    have q0 := q 0 (by omega) (by omega)
    have q1 := q 1 (by omega) (by omega)
    have q2 := q 2 (by omega) (by omega)
    have q3 := q 3 (by omega) (by omega)
    have hG : GrC h (A (10 + (12 * m + b)) + 1) (A (10 + (12 * m + b)) + 2) (wP w m (12 * m + b) 0) (wP w m (12 * m + b) 1) (wP w m (12 * m + b) 2) (wP w m (12 * m + b) 3) (wC w (12 * m + b) 0) (wC w (12 * m + b) 1) (wC w (12 * m + b) 2) := ⟨oB_k1 hB, oB_n1 hB, oB_k2 hB, oB_n2 hB, oB_d1 hB (g := 0) (by omega) (by omega), oB_d1 hB (g := 1) (by omega) (by omega), oB_d1 hB (g := 2) (by omega) (by omega), oB_d1 hB (g := 3) (by omega) (by omega), oB_d2 hB (k := 0) (by omega) (by omega), oB_d2 hB (k := 1) (by omega) (by omega), oB_d2 hB (k := 2) (by omega) (by omega)⟩
    have hw := c_ways hG (by omega) (by omega) (by omega) (by omega) (by omega) (by omega) (by omega) (by omega)
    have hmx : max 1 (cn [wP w m (12 * m + b) 0, wP w m (12 * m + b) 1, wP w m (12 * m + b) 2, wP w m (12 * m + b) 3] (wC w (12 * m + b) 0) (wC w (12 * m + b) 1) (wC w (12 * m + b) 2)) = cnX w m (12 * m + b) := by
      show max 1 (cnX w m (12 * m + b)) = _
      omega
    have r3 : 1 ≤ cn [wP w m (12 * m + b) 0, wP w m (12 * m + b) 1, wP w m (12 * m + b) 2, wP w m (12 * m + b) 3] (wC w (12 * m + b) 0) (wC w (12 * m + b) 1) (wC w (12 * m + b) 2) := r1
    have r4 : cn [wP w m (12 * m + b) 0, wP w m (12 * m + b) 1, wP w m (12 * m + b) 2, wP w m (12 * m + b) 3] (wC w (12 * m + b) 0) (wC w (12 * m + b) 1) (wC w (12 * m + b) 2) ≤ 1000000000000 := r2
    exact ⟨_, by simp -implicitDefEqProofs (disch := omega) only [k_X0_howMany_1, k_X0_howMany_2, F_f_X0_howMany, oB_k hB, oB_0 hB, oB_1 hB, oB_2 hB, oB_3 hB, oB_4 hB, oB_k1 hB, oB_n1 hB, oB_k2 hB, oB_n2 hB, oB_k3 hB, oB_n3 hB, oB_k4 hB, oB_n4 hB, oB_5 hB, oB_6 hB, oB_7 hB, oB_d1 hB, oB_d2 hB, wP_lt, z, hw, j_maxL, hmx, gK_sJ, gJ_sJs, iv_add, iv_sub, iv_mul, iv_neg, iv_zero, iv_ltT, iv_ltF, iv_leT, iv_leF, iv_eqT, iv_eqF, iv_div, rm_iv, tn_iv, ib_iv, lc_lt, lc_le, lc_gt, lc_ge, lc_eq, iv_l, jv_add, jv_sub, jv_mul, jv_zero, if_pos, if_neg, some_cb, some_cbv, ↓nm_eq, ↓reduceIte, true_and, and_true, Bool.true_eq_false, Bool.false_eq_true, not_false_eq_true, not_true_eq_false], Sc.sJ8 hS (Sc.rf hS) hl b0 tb, fun _ _ => rfl⟩
  · exact ⟨h, by simp -implicitDefEqProofs (disch := omega) only [k_X0_howMany_1, k_X0_howMany_2, F_f_X0_howMany, oB_k hB, oB_0 hB, oB_1 hB, oB_2 hB, oB_3 hB, oB_4 hB, oB_k1 hB, oB_n1 hB, oB_k2 hB, oB_n2 hB, oB_k3 hB, oB_n3 hB, oB_k4 hB, oB_n4 hB, oB_5 hB, oB_6 hB, oB_7 hB, oB_d1 hB, oB_d2 hB, wP_lt, z, iv_add, iv_sub, iv_mul, iv_neg, iv_zero, iv_ltT, iv_ltF, iv_leT, iv_leF, iv_eqT, iv_eqF, iv_div, rm_iv, tn_iv, ib_iv, lc_lt, lc_le, lc_gt, lc_ge, lc_eq, iv_l, jv_add, jv_sub, jv_mul, jv_zero, if_pos, if_neg, some_cb, some_cbv, ↓nm_eq, ↓reduceIte, true_and, and_true, Bool.true_eq_false, Bool.false_eq_true, not_false_eq_true, not_true_eq_false], Sc.rf hS, FI.rf h⟩
end Q
section Q2
variable {w : WD} {A : Int → Nat} {h h1 : AH} {m : Int} {S : Int32}
set_option maxRecDepth 100000 in
theorem c_isTooManyF (hS : Sim w A h) (hl : lvM w m) : ∃ h' : AH, f_X6_isTooMany (A m) S h = some (iv (bigR w m S), h') ∧ Sc w A h h' ∧ FI h h' := by
  obtain ⟨N, eN, hN⟩ := c_named hS hl S
  obtain ⟨-, -, bb, -⟩ := hS.W.mat hl
  have l0 := hl.1
  have l : ∀ (n L j : Nat) (hh : AH), n < L → ((j + n : Nat) : Int) = wBx w m → bigN w m S j ≤ 20000 → Sc w A h hh → FI h hh → ∃ h', lp b_X6_isTooMany_11 (fun _ _ _ _ _ => none) L (A m) N (jv (bigN w m S j)) (iv j) hh = some (iv (bigR w m S), h') ∧ Sc w A h h' ∧ FI h h' := by
    intro n
    induction n with
    | zero =>
      intro L j hh hL hj hx sc fi
      obtain ⟨L, rfl⟩ : ∃ L', L = L' + 1 := ⟨L - 1, by omega⟩
      have hM := (hS.sc sc).M hl
      have eR : bigR w m S = 0 := by
        unfold bigR
        rw [show (wBx w m).toNat = j by omega]
        exact if_neg (by omega)
      rw [eR]
      exact ⟨hh, by simp -implicitDefEqProofs (disch := omega) only [lp_succ, F_b_X6_isTooMany_11, oM_k hM, oM_5 hM, zret0, iv_add, iv_sub, iv_mul, iv_neg, iv_zero, iv_ltT, iv_ltF, iv_leT, iv_leF, iv_eqT, iv_eqF, iv_div, rm_iv, tn_iv, ib_iv, some_cb, some_cbv, ↓nm_eq, ↓reduceIte, true_and, and_true, Bool.true_eq_false, Bool.false_eq_true, not_false_eq_true, not_true_eq_false], sc, fi⟩
    | succ n ih =>
      intro L j hh hL hj hx sc fi
      obtain ⟨L, rfl⟩ : ∃ L', L = L' + 1 := ⟨L - 1, by omega⟩
      have sim := hS.sc sc
      have hM := sim.M hl
      have hB := sim.B hl (b := j) (by omega) (by omega)
      have o1 := bigN_one (S := S) hS.W hl j (by omega)
      have of := bigF_one (S := S) hS.W hl (b := j) (by omega) (by omega)
      have cr := cnX_rng hS.W hl (b := j) (by omega) (by omega)
      obtain ⟨-, -, -, -, -, wo, -⟩ := hS.W.box hl (b := j) (by omega) (by omega)
      have step : bigN w m S (j + 1) = bigN w m S j * bigF w m S j := rfl
      have skip : bigF w m S j = 1 → ∃ h', lp b_X6_isTooMany_11 (fun _ _ _ _ _ => none) L (A m) N (jv (bigN w m S j)) (iv ((j : Int) + 1)) hh = some (iv (bigR w m S), h') ∧ Sc w A h h' ∧ FI h h' := fun eF => by
        have := ih L (j + 1) hh (by omega) (by omega) (by rw [step, eF, Int.mul_one]; exact hx) sc fi
        rw [step, eF, Int.mul_one, show ((j + 1 : Nat) : Int) = (j : Int) + 1 by omega] at this
        exact this
      have big1 : 20000 < bigN w m S (j + 1) → bigR w m S = 1 := fun y => by
        have up := bigN_up (S := S) hS.W hl (j + 1) n (by omega)
        unfold bigR
        rw [show (wBx w m).toNat = j + 1 + n by omega]
        exact if_pos (by omega)
      by_cases nm : bt N j
      · have z1 : (N >>> (iv j &&& 31)) &&& iv 1 = iv 1 := nm
        have nb := (hN j (by omega) (by omega)).1 nm
        rcases wo with o | o
        · have eF : bigF w m S j = cnX w m (12 * m + j) := bigF_y ⟨nb, by omega⟩
          obtain ⟨h2, e2, s2, f2⟩ := c_howManyF sim hl (b := j) (by omega) (by omega)
          have sc2 := sc.tr s2
          have fi2 := fi.tr f2
          have sim2 := hS.sc sc2
          have hM2 := sim2.M hl
          have hB2 := sim2.B hl (b := j) (by omega) (by omega)
          by_cases big : cnX w m (12 * m + j) ≤ 20000
          · obtain ⟨h3, e3, s3, f3⟩ := c_howManyF sim2 hl (b := j) (by omega) (by omega)
            have sc3 := sc2.tr s3
            have fi3 := fi2.tr f3
            have b2 := mul_rng (a := bigN w m S j) (b := cnX w m (12 * m + j)) (A := 20000) (B := 20000) (by omega) (by omega) (by omega) (by omega)
            by_cases q : bigN w m S j * cnX w m (12 * m + j) ≤ 20000
            · obtain ⟨h', e4, s4, f4⟩ := ih L (j + 1) h3 (by omega) (by omega) (by rw [step, eF]; exact q) sc3 fi3
              refine ⟨h', ?_, s4, f4⟩
              rw [← e4, step, eF, show ((j + 1 : Nat) : Int) = (j : Int) + 1 by omega]
              simp -implicitDefEqProofs (disch := omega) only [lp_succ, F_b_X6_isTooMany_11, k_X6_isTooMany_11_1, k_X6_isTooMany_11_2, oM_k hM, oM_5 hM, oM_2 hM, oM_k1 hM, oM_n1 hM, oM_b hM, oB_k hB, oB_7 hB, o, z1, e2, oM_k hM2, oM_5 hM2, oM_2 hM2, oM_k1 hM2, oM_n1 hM2, oM_b hM2, oB_k hB2, e3, iv_add, iv_sub, iv_mul, iv_neg, iv_zero, iv_ltT, iv_ltF, iv_leT, iv_leF, iv_eqT, iv_eqF, iv_div, rm_iv, tn_iv, ib_iv, lc_lt, lc_le, lc_gt, lc_ge, lc_eq, iv_l, jv_add, jv_sub, jv_mul, jv_zero, if_pos, if_neg, some_cb, some_cbv, ↓nm_eq, ↓reduceIte, true_and, and_true, Bool.true_eq_false, Bool.false_eq_true, not_false_eq_true, not_true_eq_false]
            · rw [big1 (by rw [step, eF]; omega)]
              refine ⟨h3, ?_, sc3, fi3⟩
              simp -implicitDefEqProofs (disch := omega) only [lp_succ, F_b_X6_isTooMany_11, k_X6_isTooMany_11_1, k_X6_isTooMany_11_2, oM_k hM, oM_5 hM, oM_2 hM, oM_k1 hM, oM_n1 hM, oM_b hM, oB_k hB, oB_7 hB, o, z1, e2, oM_k hM2, oM_5 hM2, oM_2 hM2, oM_k1 hM2, oM_n1 hM2, oM_b hM2, oB_k hB2, e3, zret1, iv_add, iv_sub, iv_mul, iv_neg, iv_zero, iv_ltT, iv_ltF, iv_leT, iv_leF, iv_eqT, iv_eqF, iv_div, rm_iv, tn_iv, ib_iv, lc_lt, lc_le, lc_gt, lc_ge, lc_eq, iv_l, jv_add, jv_sub, jv_mul, jv_zero, if_pos, if_neg, some_cb, some_cbv, ↓nm_eq, ↓reduceIte, true_and, and_true, Bool.true_eq_false, Bool.false_eq_true, not_false_eq_true, not_true_eq_false]
          · rw [big1 (bigN_big hS.W hl (by omega) (by rw [eF]; omega))]
            refine ⟨h2, ?_, sc2, fi2⟩
            simp -implicitDefEqProofs (disch := omega) only [lp_succ, F_b_X6_isTooMany_11, k_X6_isTooMany_11_1, k_X6_isTooMany_11_2, oM_k hM, oM_5 hM, oM_2 hM, oM_k1 hM, oM_n1 hM, oM_b hM, oB_k hB, oB_7 hB, o, z1, e2, zret1, iv_add, iv_sub, iv_mul, iv_neg, iv_zero, iv_ltT, iv_ltF, iv_leT, iv_leF, iv_eqT, iv_eqF, iv_div, rm_iv, tn_iv, ib_iv, lc_lt, lc_le, lc_gt, lc_ge, lc_eq, iv_l, jv_add, jv_sub, jv_mul, jv_zero, if_pos, if_neg, some_cb, some_cbv, ↓nm_eq, ↓reduceIte, true_and, and_true, Bool.true_eq_false, Bool.false_eq_true, not_false_eq_true, not_true_eq_false]
        · obtain ⟨h', e4, s4, f4⟩ := skip (bigF_n (fun y => y.2 o))
          refine ⟨h', ?_, s4, f4⟩
          rw [← e4]
          simp -implicitDefEqProofs (disch := omega) only [lp_succ, F_b_X6_isTooMany_11, k_X6_isTooMany_11_1, k_X6_isTooMany_11_2, oM_k hM, oM_5 hM, oM_2 hM, oM_k1 hM, oM_n1 hM, oM_b hM, oB_k hB, oB_7 hB, o, z1, iv_add, iv_sub, iv_mul, iv_neg, iv_zero, iv_ltT, iv_ltF, iv_leT, iv_leF, iv_eqT, iv_eqF, iv_div, rm_iv, tn_iv, ib_iv, lc_lt, lc_le, lc_gt, lc_ge, lc_eq, iv_l, jv_add, jv_sub, jv_mul, jv_zero, if_pos, if_neg, some_cb, some_cbv, ↓nm_eq, ↓reduceIte, true_and, and_true, Bool.true_eq_false, Bool.false_eq_true, not_false_eq_true, not_true_eq_false]
      · have z0 := bt_0 N (b := j) (by omega) (by omega) nm
        obtain ⟨h', e4, s4, f4⟩ := skip (bigF_n (fun y => nm ((hN j (by omega) (by omega)).2 y.1)))
        refine ⟨h', ?_, s4, f4⟩
        rw [← e4]
        simp -implicitDefEqProofs (disch := omega) only [lp_succ, F_b_X6_isTooMany_11, oM_k hM, oM_5 hM, z0, iv_add, iv_sub, iv_mul, iv_neg, iv_zero, iv_ltT, iv_ltF, iv_leT, iv_leF, iv_eqT, iv_eqF, iv_div, rm_iv, tn_iv, ib_iv, some_cb, some_cbv, ↓nm_eq, ↓reduceIte, true_and, and_true, Bool.true_eq_false, Bool.false_eq_true, not_false_eq_true, not_true_eq_false]
  obtain ⟨h', e', s', f'⟩ := l (wBx w m).toNat FU 0 h (FU_gt (by omega)) (by omega) (by show (1 : Int) ≤ 20000; omega) (Sc.rf hS) (FI.rf h)
  have hM := hS.M hl
  change lp b_X6_isTooMany_11 (fun _ _ _ _ _ => none) FU (A m) N (jv 1) (iv 0) h = _ at e'
  refine ⟨h', ?_, s', f'⟩
  simp -implicitDefEqProofs (disch := omega) only [F_f_X6_isTooMany, k_X6_isTooMany_1, f_X6_isTooMany_11, oM_k hM, eN, e', some_cb, some_cbv, ↓nm_eq, ↓reduceIte, true_and, and_true, Bool.true_eq_false, Bool.false_eq_true, not_false_eq_true, not_true_eq_false]
end Q2
section Q
variable {w : WD} {A : Int → Nat} {h hh h' : AH} {m g k : Int} {S T N : Int32}
noncomputable def muF (w : WD) (m g k v : Int) (s : Nat) : Option Int := if bigR w m (iv (s : Int)) = 1 then some (-4) else match resS w m (iv (s : Int)) g k with | none => none | some q => if v ≤ q.1 then some (s : Int) else none
theorem muF_b {v : Int} {s : Nat} (z : bigR w m (iv (s : Int)) = 1) : muF w m g k v s = some (-4) := if_pos z
theorem muF_n {v : Int} {s : Nat} (z : bigR w m (iv (s : Int)) = 0) (e : resS w m (iv (s : Int)) g k = none) : muF w m g k v s = none := by
  unfold muF; rw [if_neg (by omega), e]
theorem muF_y {v : Int} {s : Nat} {q : Int × Int} (z : bigR w m (iv (s : Int)) = 0) (e : resS w m (iv (s : Int)) g k = some q) (y : v ≤ q.1) : muF w m g k v s = some (s : Int) := by
  unfold muF; rw [if_neg (by omega), e]; exact if_pos y
theorem muF_s {v : Int} {s : Nat} {q : Int × Int} (z : bigR w m (iv (s : Int)) = 0) (e : resS w m (iv (s : Int)) g k = some q) (y : ¬ v ≤ q.1) : muF w m g k v s = none := by
  unfold muF; rw [if_neg (by omega), e]; exact if_neg y
set_option maxRecDepth 100000 in
theorem q_must45 (hS : Sim w A h) (hl : lvM w m) {t z : Nat} (ht : t < 256) (hz : z ≤ 12) {c v : Int} (cc0 : 0 ≤ c) (hg : c / 10 = g) (hk : c % 10 = k) (cg : g < wGr w m) (ck : k < wCh w m) (v0 : 0 ≤ v) (v1 : v ≤ 9999) (K : Nat → Int32 → Int32 → Int32 → Int32 → Int32 → AH → Option (Int32 × AH)) : ∀ (n L s : Nat) (hh : AH), n < L → s + n = t + 1 → Sc w A h hh → ∃ h' : AH, Sc w A h h' ∧ ((∃ r : Int, scI (muF w m g k v) (cS t z) n s = some r ∧ lp (b_X12_must_45 K) (fun _ _ _ _ _ _ _ _ => none) L 91 (iv m) (iv (t : Int)) (iv c) (iv v) (iv (z : Int)) (iv (s : Int)) hh = some (iv r, h')) ∨ (scI (muF w m g k v) (cS t z) n s = none ∧ lp (b_X12_must_45 K) (fun _ _ _ _ _ _ _ _ => none) L 91 (iv m) (iv (t : Int)) (iv c) (iv v) (iv (z : Int)) (iv (s : Int)) hh = K 91 (iv m) (iv (t : Int)) (iv c) (iv v) (iv ((z : Int) + 1)) h')) := by
  intro n
  induction n with
  | zero =>
    intro L s hh hL hs sc
    obtain ⟨L, rfl⟩ : ∃ L', L = L' + 1 := ⟨L - 1, by omega⟩
    refine ⟨hh, sc, Or.inr ⟨rfl, ?_⟩⟩
    simp -implicitDefEqProofs (disch := omega) only [lp_succ, F_b_X12_must_45, iv_add, iv_sub, iv_mul, iv_neg, iv_zero, iv_ltT, iv_ltF, iv_leT, iv_leF, iv_eqT, iv_eqF, iv_div, rm_iv, tn_iv, ib_iv, some_cb, some_cbv, ↓nm_eq, ↓reduceIte, true_and, and_true, Bool.true_eq_false, Bool.false_eq_true, not_false_eq_true, not_true_eq_false]
  | succ n ih =>
    intro L s hh hL hs sc
    obtain ⟨L, rfl⟩ : ∃ L', L = L' + 1 := ⟨L - 1, by omega⟩
    have sim := hS.sc sc
    have hF := sim.F
    have e1 : (s : Int) + 1 = ((s + 1 : Nat) : Int) := by omega
    by_cases y1 : (iv (s : Int) &&& (iv (t : Int) ^^^ iv (-1))) = 0
    · have on := q_ones hh (s := s) (by omega)
      have o9 := (B4 ⟨s, by omega⟩).2
      dsimp only at o9
      by_cases y2 : onN s = z
      · have y := cS_iff.2 ⟨y1, y2⟩
        obtain ⟨g1, g2⟩ := q_goes sim hl (iv (s : Int)) cc0 hg hk cg ck
        rcases bigR_01 w m (iv (s : Int)) with ⟨b, -⟩ | ⟨b, -⟩
        · obtain ⟨h1, d1, d2, d3⟩ := g2 b
          have hF1 := (sim.sc d2).F
          have next : muF w m g k v s = none → lp (b_X12_must_45 K) (fun _ _ _ _ _ _ _ _ => none) (L + 1) 91 (iv m) (iv (t : Int)) (iv c) (iv v) (iv (z : Int)) (iv (s : Int)) hh = lp (b_X12_must_45 K) (fun _ _ _ _ _ _ _ _ => none) L 91 (iv m) (iv (t : Int)) (iv c) (iv v) (iv (z : Int)) (iv ((s + 1 : Nat) : Int)) h1 → ∃ h' : AH, Sc w A h h' ∧ ((∃ r : Int, scI (muF w m g k v) (cS t z) (n + 1) s = some r ∧ lp (b_X12_must_45 K) (fun _ _ _ _ _ _ _ _ => none) (L + 1) 91 (iv m) (iv (t : Int)) (iv c) (iv v) (iv (z : Int)) (iv (s : Int)) hh = some (iv r, h')) ∨ (scI (muF w m g k v) (cS t z) (n + 1) s = none ∧ lp (b_X12_must_45 K) (fun _ _ _ _ _ _ _ _ => none) (L + 1) 91 (iv m) (iv (t : Int)) (iv c) (iv v) (iv (z : Int)) (iv (s : Int)) hh = K 91 (iv m) (iv (t : Int)) (iv c) (iv v) (iv ((z : Int) + 1)) h')) := fun a b => by
            rw [scI_y0 y a, b]
            exact ih L (s + 1) h1 (by omega) (by omega) (sc.tr d2)
          cases er : resS w m (iv (s : Int)) g k with
          | none =>
            rw [er] at d3
            have d3 : gI h1 91 33 = iv 0 := d3
            refine next (muF_n b er) ?_
            rw [← e1]
            simp -implicitDefEqProofs (disch := omega) only [lp_succ, F_b_X12_must_45, k_X12_must_45_1, k_X12_must_45_2, y1, on, y2, K91 hF, d1, K91 hF1, d3, bo2, iv_add, iv_sub, iv_mul, iv_neg, iv_zero, iv_ltT, iv_ltF, iv_leT, iv_leF, iv_eqT, iv_eqF, iv_div, rm_iv, tn_iv, ib_iv, some_cb, some_cbv, ↓nm_eq, ↓reduceIte, true_and, and_true, Bool.true_eq_false, Bool.false_eq_true, not_false_eq_true, not_true_eq_false]
          | some q =>
            rw [er] at d3
            obtain ⟨d4, d5, -, d6, -⟩ := d3
            by_cases q0 : v ≤ q.1
            · refine ⟨h1, sc.tr d2, Or.inl ⟨s, scI_y1 y (muF_y b er q0), ?_⟩⟩
              simp -implicitDefEqProofs (disch := omega) only [lp_succ, F_b_X12_must_45, k_X12_must_45_1, k_X12_must_45_2, y1, on, y2, K91 hF, d1, K91 hF1, d4, d5, iv_add, iv_sub, iv_mul, iv_neg, iv_zero, iv_ltT, iv_ltF, iv_leT, iv_leF, iv_eqT, iv_eqF, iv_div, rm_iv, tn_iv, ib_iv, some_cb, some_cbv, ↓nm_eq, ↓reduceIte, true_and, and_true, Bool.true_eq_false, Bool.false_eq_true, not_false_eq_true, not_true_eq_false]
            · refine next (muF_s b er q0) ?_
              rw [← e1]
              simp -implicitDefEqProofs (disch := omega) only [lp_succ, F_b_X12_must_45, k_X12_must_45_1, k_X12_must_45_2, y1, on, y2, K91 hF, d1, K91 hF1, d4, d5, iv_add, iv_sub, iv_mul, iv_neg, iv_zero, iv_ltT, iv_ltF, iv_leT, iv_leF, iv_eqT, iv_eqF, iv_div, rm_iv, tn_iv, ib_iv, some_cb, some_cbv, ↓nm_eq, ↓reduceIte, true_and, and_true, Bool.true_eq_false, Bool.false_eq_true, not_false_eq_true, not_true_eq_false]
        · have g1 := g1 b
          refine ⟨hh, sc, Or.inl ⟨-4, scI_y1 y (muF_b b), ?_⟩⟩
          simp -implicitDefEqProofs (disch := omega) only [lp_succ, F_b_X12_must_45, k_X12_must_45_1, k_X12_must_45_2, y1, on, y2, K91 hF, g1, iv_add, iv_sub, iv_mul, iv_neg, iv_zero, iv_ltT, iv_ltF, iv_leT, iv_leF, iv_eqT, iv_eqF, iv_div, rm_iv, tn_iv, ib_iv, some_cb, some_cbv, ↓nm_eq, ↓reduceIte, true_and, and_true, Bool.true_eq_false, Bool.false_eq_true, not_false_eq_true, not_true_eq_false]
      · rw [scI_n (fun q => y2 (cS_iff.1 q).2)]
        obtain ⟨h', i1, i2⟩ := ih L (s + 1) hh (by omega) (by omega) sc
        refine ⟨h', i1, ?_⟩
        have st : lp (b_X12_must_45 K) (fun _ _ _ _ _ _ _ _ => none) (L + 1) 91 (iv m) (iv (t : Int)) (iv c) (iv v) (iv (z : Int)) (iv (s : Int)) hh = lp (b_X12_must_45 K) (fun _ _ _ _ _ _ _ _ => none) L 91 (iv m) (iv (t : Int)) (iv c) (iv v) (iv (z : Int)) (iv ((s + 1 : Nat) : Int)) hh := by
          rw [← e1]
          simp -implicitDefEqProofs (disch := omega) only [lp_succ, F_b_X12_must_45, k_X12_must_45_1, k_X12_must_45_2, y1, on, iv_add, iv_sub, iv_mul, iv_neg, iv_zero, iv_ltT, iv_ltF, iv_leT, iv_leF, iv_eqT, iv_eqF, iv_div, rm_iv, tn_iv, ib_iv, some_cb, some_cbv, ↓nm_eq, ↓reduceIte, true_and, and_true, Bool.true_eq_false, Bool.false_eq_true, not_false_eq_true, not_true_eq_false]
        rw [st]; exact i2
    · rw [scI_n (fun q => y1 (cS_iff.1 q).1)]
      obtain ⟨h', i1, i2⟩ := ih L (s + 1) hh (by omega) (by omega) sc
      refine ⟨h', i1, ?_⟩
      have st : lp (b_X12_must_45 K) (fun _ _ _ _ _ _ _ _ => none) (L + 1) 91 (iv m) (iv (t : Int)) (iv c) (iv v) (iv (z : Int)) (iv (s : Int)) hh = lp (b_X12_must_45 K) (fun _ _ _ _ _ _ _ _ => none) L 91 (iv m) (iv (t : Int)) (iv c) (iv v) (iv (z : Int)) (iv ((s + 1 : Nat) : Int)) hh := by
        rw [← e1]
        have y1' : ((iv (s : Int) &&& (iv (t : Int) ^^^ iv (-1))) = iv 0) = False := eq_false y1
        simp -implicitDefEqProofs (disch := omega) only [lp_succ, F_b_X12_must_45, k_X12_must_45_1, k_X12_must_45_2, y1', iv_add, iv_sub, iv_mul, iv_neg, iv_zero, iv_ltT, iv_ltF, iv_leT, iv_leF, iv_eqT, iv_eqF, iv_div, rm_iv, tn_iv, ib_iv, some_cb, some_cbv, ↓nm_eq, ↓reduceIte, true_and, and_true, Bool.true_eq_false, Bool.false_eq_true, not_false_eq_true, not_true_eq_false]
      rw [st]; exact i2
set_option maxRecDepth 100000 in
theorem q_must35 (hS : Sim w A h) (hl : lvM w m) {t : Nat} (ht : t < 256) {c v : Int} (cc0 : 0 ≤ c) (hg : c / 10 = g) (hk : c % 10 = k) (cg : g < wGr w m) (ck : k < wCh w m) (v0 : 0 ≤ v) (v1 : v ≤ 9999) : ∀ (n L z : Nat) (hh : AH), n < L → z + n = 13 → Sc w A h hh → ∃ h' : AH, Sc w A h h' ∧ lp b_X12_must_35 (fun _ _ _ _ _ _ _ => none) L 91 (iv m) (iv (t : Int)) (iv c) (iv v) (iv (z : Int)) hh = some (iv (scO (muF w m g k v) (cS t) t n z), h') := by
  intro n
  induction n with
  | zero =>
    intro L z hh hL hz sc
    obtain ⟨L, rfl⟩ : ∃ L', L = L' + 1 := ⟨L - 1, by omega⟩
    refine ⟨hh, sc, ?_⟩
    show _ = some (iv (-2), hh)
    simp -implicitDefEqProofs (disch := omega) only [lp_succ, F_b_X12_must_35, iv_add, iv_sub, iv_mul, iv_neg, iv_zero, iv_ltT, iv_ltF, iv_leT, iv_leF, iv_eqT, iv_eqF, iv_div, rm_iv, tn_iv, ib_iv, some_cb, some_cbv, ↓nm_eq, ↓reduceIte, true_and, and_true, Bool.true_eq_false, Bool.false_eq_true, not_false_eq_true, not_true_eq_false]
  | succ n ih =>
    intro L z hh hL hz sc
    obtain ⟨L, rfl⟩ : ∃ L', L = L' + 1 := ⟨L - 1, by omega⟩
    obtain ⟨h1, s1, i⟩ := q_must45 hS hl ht (z := z) (by omega) cc0 hg hk cg ck v0 v1 (lp b_X12_must_35 (fun _ _ _ _ _ _ _ => none) L) (t + 1) FU 0 hh (FU_gt (by omega)) (by omega) sc
    have st : lp b_X12_must_35 (fun _ _ _ _ _ _ _ => none) (L + 1) 91 (iv m) (iv (t : Int)) (iv c) (iv v) (iv (z : Int)) hh = lp (b_X12_must_45 (lp b_X12_must_35 (fun _ _ _ _ _ _ _ => none) L)) (fun _ _ _ _ _ _ _ _ => none) FU 91 (iv m) (iv (t : Int)) (iv c) (iv v) (iv (z : Int)) (iv ((0 : Nat) : Int)) hh := by
      simp -implicitDefEqProofs (disch := omega) only [lp_succ, F_b_X12_must_35, f_X12_must_45, iv_add, iv_sub, iv_mul, iv_neg, iv_zero, iv_ltT, iv_ltF, iv_leT, iv_leF, iv_eqT, iv_eqF, iv_div, rm_iv, tn_iv, ib_iv, some_cb, some_cbv, ↓nm_eq, ↓reduceIte, true_and, and_true, Bool.true_eq_false, Bool.false_eq_true, not_false_eq_true, not_true_eq_false]
      rfl
    rw [st]
    rcases i with ⟨r, i1, i2⟩ | ⟨i1, i2⟩
    · exact ⟨h1, s1, by rw [i2, scO_s i1]⟩
    · obtain ⟨h2, s2, i3⟩ := ih L (z + 1) h1 (by omega) (by omega) s1
      refine ⟨h2, s2, ?_⟩
      rw [i2, scO_n i1, ← i3, show ((z + 1 : Nat) : Int) = (z : Int) + 1 by omega]
def LN (w : WD) (m g k : Int) (t z s : Nat) (hh : AH) : Prop := ∀ x : Nat, x ≤ t → (iv (x : Int) &&& (iv (t : Int) ^^^ iv (-1))) = 0 → (onN x < z ∨ onN x = z ∧ x < s) → (gI hh 23 x = iv 0 ∧ resS w m (iv (x : Int)) g k ≠ none) ∨ (gI hh 23 x = iv 1 ∧ resS w m (iv (x : Int)) g k = none)
theorem LN.skip {t z s : Nat} (H : LN w m g k t z s hh) (y : ¬ cS t z s = true) : LN w m g k t z (s + 1) hh := fun x x0 x1 x2 => by
  rcases x2 with a | ⟨a, b⟩
  · exact H x x0 x1 (Or.inl a)
  · by_cases e : x = s
    · subst e; exact absurd (cS_iff.2 ⟨x1, a⟩) y
    · exact H x x0 x1 (Or.inr ⟨a, by omega⟩)
theorem LN.step {t z s : Nat} (H : LN w m g k t z s hh) (f : ∀ i : Nat, i ≠ s → gI h' 23 i = gI hh 23 i) (y : onN s = z) (v : (gI h' 23 s = iv 0 ∧ resS w m (iv (s : Int)) g k ≠ none) ∨ (gI h' 23 s = iv 1 ∧ resS w m (iv (s : Int)) g k = none)) : LN w m g k t z (s + 1) h' := fun x x0 x1 x2 => by
  by_cases e : x = s
  · subst e; exact v
  · rw [f x e]
    exact H x x0 x1 (by rcases x2 with a | ⟨a, b⟩; exact Or.inl a; exact Or.inr ⟨a, by omega⟩)
theorem LN.fi {t z s : Nat} (H : LN w m g k t z s hh) (f : FI hh h') : LN w m g k t z s h' := fun x x0 x1 x2 => by
  rw [f 23 x]; exact H x x0 x1 x2
set_option maxRecDepth 100000 in
theorem c_less (hF : Fix h) (hW : WI w) (hl : lvM w m) (g0 : 0 ≤ g) (cg : g < wGr w m) (k0 : 0 ≤ k) (ck : k < wCh w m) {s : Nat} (hs : s < 256) (HL : ∀ j : Nat, j < 8 → s.testBit j = true → (gI h 23 (s - 2 ^ j) = iv 0) ∨ (gI h 23 (s - 2 ^ j) = iv 1 ∧ resS w m (iv ((s - 2 ^ j : Nat) : Int)) g k = none)) : f_X3_letsNoneByLess 16 (iv (s : Int)) h = some (iv 0, h) ∨ (f_X3_letsNoneByLess 16 (iv (s : Int)) h = some (iv 1, h) ∧ resS w m (iv (s : Int)) g k = none) := by
  have l : ∀ (n L d : Nat), n < L → d ≤ n → d < 256 → (∀ j : Nat, d.testBit j = true → s.testBit j = true) → lp b_X3_letsNoneByLess_2 (fun _ _ _ _ => none) L 16 (iv (s : Int)) (iv (d : Int)) h = some (iv 0, h) ∨ (lp b_X3_letsNoneByLess_2 (fun _ _ _ _ => none) L 16 (iv (s : Int)) (iv (d : Int)) h = some (iv 1, h) ∧ resS w m (iv (s : Int)) g k = none) := by
    intro n
    induction n with
    | zero =>
      intro L d hL hd _ _
      obtain ⟨L, rfl⟩ : ∃ L', L = L' + 1 := ⟨L - 1, by omega⟩
      have : d = 0 := by omega
      subst this
      left
      simp -implicitDefEqProofs (disch := omega) only [lp_succ, F_b_X3_letsNoneByLess_2, zret0, iv_add, iv_sub, iv_mul, iv_neg, iv_zero, iv_ltT, iv_ltF, iv_leT, iv_leF, iv_eqT, iv_eqF, iv_div, rm_iv, tn_iv, ib_iv, some_cb, some_cbv, ↓nm_eq, ↓reduceIte, true_and, and_true, Bool.true_eq_false, Bool.false_eq_true, not_false_eq_true, not_true_eq_false]
    | succ n ih =>
      intro L d hL hd h256 hb
      obtain ⟨L, rfl⟩ : ∃ L', L = L' + 1 := ⟨L - 1, by omega⟩
      by_cases d0 : d = 0
      · subst d0
        left
        simp -implicitDefEqProofs (disch := omega) only [lp_succ, F_b_X3_letsNoneByLess_2, zret0, iv_add, iv_sub, iv_mul, iv_neg, iv_zero, iv_ltT, iv_ltF, iv_leT, iv_leF, iv_eqT, iv_eqF, iv_div, rm_iv, tn_iv, ib_iv, some_cb, some_cbv, ↓nm_eq, ↓reduceIte, true_and, and_true, Bool.true_eq_false, Bool.false_eq_true, not_false_eq_true, not_true_eq_false]
      · obtain ⟨-, b2, b3, b4, b5, b6⟩ := (B1 ⟨d, h256⟩).resolve_left d0
        have c6 := (B6 ⟨d, h256⟩).resolve_left d0
        dsimp only at b2 b3 b4 b5 b6 c6
        have sb := hb _ b3
        obtain ⟨p1, p2, p3, p4⟩ := B5 ⟨s, hs⟩ ⟨tzN d, b2⟩ sb
        dsimp only at p1 p2 p3 p4
        rw [iv_neg] at c6
        rw [iv_sub] at b4
        have hl' := HL _ b2 sb
        generalize 2 ^ tzN d = y at p1 p2 p3 p4 c6 hl'
        rcases hl' with z | ⟨z, zz⟩
        · have i := ih L (d &&& (d - 1)) (by omega) (by omega) (by omega) (fun j hj => by
            have j8 := tb8 (by omega) hj
            have := b6 ⟨j, by omega⟩
            dsimp only at this
            rw [hj] at this
            have := this.symm
            rw [Bool.and_eq_true] at this
            exact hb j this.1)
          have st : lp b_X3_letsNoneByLess_2 (fun _ _ _ _ => none) (L + 1) 16 (iv (s : Int)) (iv (d : Int)) h = lp b_X3_letsNoneByLess_2 (fun _ _ _ _ => none) L 16 (iv (s : Int)) (iv ((d &&& (d - 1) : Nat) : Int)) h := by
            simp -implicitDefEqProofs (disch := omega) only [lp_succ, F_b_X3_letsNoneByLess_2, K16 hF, R16_9 hF, K23 hF, N23 hF, c6, p1, b4, z, Int.toNat_natCast, iv_add, iv_sub, iv_mul, iv_neg, iv_zero, iv_ltT, iv_ltF, iv_leT, iv_leF, iv_eqT, iv_eqF, iv_div, rm_iv, tn_iv, ib_iv, some_cb, some_cbv, ↓nm_eq, ↓reduceIte, true_and, and_true, Bool.true_eq_false, Bool.false_eq_true, not_false_eq_true, not_true_eq_false]
          rw [st]; exact i
        · right
          refine ⟨?_, resS_none hW hl (fun j j0 j1 hj => ?_) g0 cg k0 ck zz⟩
          · simp -implicitDefEqProofs (disch := omega) only [lp_succ, F_b_X3_letsNoneByLess_2, K16 hF, R16_9 hF, K23 hF, N23 hF, c6, p1, b4, z, bo2, zret1, Int.toNat_natCast, iv_add, iv_sub, iv_mul, iv_neg, iv_zero, iv_ltT, iv_ltF, iv_leT, iv_leF, iv_eqT, iv_eqF, iv_div, rm_iv, tn_iv, ib_iv, some_cb, some_cbv, ↓nm_eq, ↓reduceIte, true_and, and_true, Bool.true_eq_false, Bool.false_eq_true, not_false_eq_true, not_true_eq_false]
          · rw [ivb (by omega) j0 j1] at hj
            rw [ivb hs j0 j1]
            exact p4 ⟨j.toNat, by omega⟩ hj
  rcases l 256 FU s (FU_gt (by omega)) (by omega) hs (fun _ => id) with i | ⟨i, j⟩
  · left
    rw [← i]
    simp -implicitDefEqProofs (disch := omega) only [F_f_X3_letsNoneByLess, f_X3_letsNoneByLess_2, some_cb, some_cbv, ↓nm_eq, ↓reduceIte, true_and, and_true, Bool.true_eq_false, Bool.false_eq_true, not_false_eq_true, not_true_eq_false]
  · right
    refine ⟨?_, j⟩
    rw [← i]
    simp -implicitDefEqProofs (disch := omega) only [F_f_X3_letsNoneByLess, f_X3_letsNoneByLess_2, some_cb, some_cbv, ↓nm_eq, ↓reduceIte, true_and, and_true, Bool.true_eq_false, Bool.false_eq_true, not_false_eq_true, not_true_eq_false]
end Q
