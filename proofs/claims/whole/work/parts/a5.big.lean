/-! whether a set's rows are too many -/
section Q
variable {w : WD} {A : Int → Nat} {h h1 : AH} {m : Int} {S : Int32}
theorem cnX_one (hW : WI w) (hl : lvM w m) {b : Int} (b0 : 0 ≤ b) (tb : b < wBx w m) : 1 ≤ cnX w m (12 * m + b) := by
  obtain ⟨-, hh⟩ := bTb_chain hW hl b0 tb
  obtain ⟨-, -, -, -, -, -, hn⟩ := box_all hW hl b0 tb
  cases e : bTb w m (12 * m + b) with
  | nil => rw [e] at hh; exact absurd hh (by simp)
  | cons x l => rw [e] at hn; simp at hn; omega
theorem bigF_one (hW : WI w) (hl : lvM w m) {b : Int} (b0 : 0 ≤ b) (tb : b < wBx w m) : 1 ≤ bigF w m S b := by
  by_cases y : nmB w m S b ∧ wO w (12 * m + b) ≠ 1
  · rw [bigF_y y]; exact cnX_one hW hl b0 tb
  · rw [bigF_n y]; omega
theorem bigN_one (hW : WI w) (hl : lvM w m) (n : Nat) : (n : Int) ≤ wBx w m → 1 ≤ bigN w m S n := by
  induction n with
  | zero => exact fun _ => by show (1 : Int) ≤ 1; omega
  | succ n ih =>
    intro hn
    have h1 := ih (by omega)
    have h2 := bigF_one (S := S) hW hl (b := n) (by omega) (by omega)
    have : bigN w m S n * 1 ≤ bigN w m S n * bigF w m S n := Int.mul_le_mul_of_nonneg_left h2 (by omega)
    show 1 ≤ bigN w m S n * bigF w m S n
    omega
theorem bigN_up (hW : WI w) (hl : lvM w m) (j n : Nat) : ((j + n : Nat) : Int) ≤ wBx w m → bigN w m S j ≤ bigN w m S (j + n) := by
  induction n with
  | zero => exact fun _ => Int.le_refl _
  | succ n ih =>
    intro hn
    have h0 := ih (by omega)
    have h1 := bigN_one (S := S) hW hl (j + n) (by omega)
    have h2 := bigF_one (S := S) hW hl (b := ((j + n : Nat) : Int)) (by omega) (by omega)
    have : bigN w m S (j + n) * 1 ≤ bigN w m S (j + n) * bigF w m S ((j + n : Nat) : Int) := Int.mul_le_mul_of_nonneg_left h2 (by omega)
    show _ ≤ bigN w m S (j + n) * bigF w m S ((j + n : Nat) : Int)
    omega
theorem bigN_big (hW : WI w) (hl : lvM w m) {j : Nat} (hj : ((j + 1 : Nat) : Int) ≤ wBx w m) (hb : 20000 < bigF w m S j) : 20000 < bigN w m S (j + 1) := by
  have h1 := bigN_one (S := S) hW hl j (by omega)
  have : 1 * bigF w m S j ≤ bigN w m S j * bigF w m S j := Int.mul_le_mul_of_nonneg_right h1 (by omega)
  show _ < bigN w m S j * bigF w m S j
  omega
end Q
section Q2
variable {w : WD} {A : Int → Nat} {h h1 : AH} {m : Int} {S : Int32}
noncomputable def bigR (w : WD) (m : Int) (S : Int32) : Int := if 20000 < bigN w m S (wBx w m).toNat then 1 else 0
set_option maxRecDepth 100000 in
theorem q_isBig (hS : QS w h) (hl : lvM w m) {N : Int32} (hN : ∀ b : Int, 0 ≤ b → b ≤ 11 → (bt N b ↔ nmB w m S b)) : f_X12_isBig 91 (iv m) N h = some (iv (bigR w m S), h) := by
  have hF := hS.F
  have hR := hS.R
  have l0 := hl.1
  have l4 : m < 4 := by have := hl.2; have := hS.W.1.2; omega
  obtain ⟨-, -, bb, -⟩ := hS.W.mat hl
  have l : ∀ (n L j : Nat) (x : Int), n < L → ((j + n : Nat) : Int) = wBx w m → (x = bigN w m S j ∧ x ≤ 20000 ∨ 20000 < x ∧ x ≤ 400000000 ∧ 20000 < bigN w m S j) → lp b_X12_isBig_5 (fun _ _ _ _ _ _ => none) L 91 (iv m) N (jv x) (iv j) h = some (iv (bigR w m S), h) := by
    intro n
    induction n with
    | zero =>
      intro L j x hL hj hx
      obtain ⟨L, rfl⟩ : ∃ L', L = L' + 1 := ⟨L - 1, by omega⟩
      have o1 := bigN_one (S := S) hS.W hl j (by omega)
      have eR : bigR w m S = if 20000 < bigN w m S j then 1 else 0 := by
        unfold bigR
        rw [show (wBx w m).toNat = j by omega]
      rcases hx with ⟨y1, y2⟩ | ⟨y1, y2, y3⟩
      · rw [eR, if_neg (by omega)]
        simp -implicitDefEqProofs (disch := omega) only [lp_succ, F_b_X12_isBig_5, F_f_X12_isBig_77, K91 hF, R91_3 hF, K94 hF, N94 hF, RR_Bx hR, zret0, iv_add, iv_sub, iv_mul, iv_neg, iv_zero, iv_ltT, iv_ltF, iv_leT, iv_leF, iv_eqT, iv_eqF, iv_div, rm_iv, tn_iv, ib_iv, lc_lt, lc_le, lc_gt, lc_ge, lc_eq, iv_l, jv_add, jv_sub, jv_mul, jv_zero, if_pos, if_neg, some_cb, some_cbv, ↓nm_eq, ↓reduceIte, true_and, and_true, Bool.true_eq_false, Bool.false_eq_true, not_false_eq_true, not_true_eq_false]
      · rw [eR, if_pos y3]
        simp -implicitDefEqProofs (disch := omega) only [lp_succ, F_b_X12_isBig_5, F_f_X12_isBig_77, K91 hF, R91_3 hF, K94 hF, N94 hF, RR_Bx hR, zret1, iv_add, iv_sub, iv_mul, iv_neg, iv_zero, iv_ltT, iv_ltF, iv_leT, iv_leF, iv_eqT, iv_eqF, iv_div, rm_iv, tn_iv, ib_iv, lc_lt, lc_le, lc_gt, lc_ge, lc_eq, iv_l, jv_add, jv_sub, jv_mul, jv_zero, if_pos, if_neg, some_cb, some_cbv, ↓nm_eq, ↓reduceIte, true_and, and_true, Bool.true_eq_false, Bool.false_eq_true, not_false_eq_true, not_true_eq_false]
    | succ n ih =>
      intro L j x hL hj hx
      obtain ⟨L, rfl⟩ : ∃ L', L = L' + 1 := ⟨L - 1, by omega⟩
      have o1 := bigN_one (S := S) hS.W hl j (by omega)
      rcases hx with ⟨y1, y2⟩ | ⟨y1, y2, y3⟩
      · have of := bigF_one (S := S) hS.W hl (b := j) (by omega) (by omega)
        have cr := cnX_rng hS.W hl (b := j) (by omega) (by omega)
        obtain ⟨-, -, -, -, -, wo, -⟩ := hS.W.box hl (b := j) (by omega) (by omega)
        have hm := q_howMany hS hl (b := j) (by omega) (by omega)
        have step : bigN w m S (j + 1) = bigN w m S j * bigF w m S j := rfl
        by_cases nm : bt N j
        · have z' : ((N >>> (iv j &&& 31)) &&& iv 1 = iv 1) = True := eq_true nm
          have nb := (hN j (by omega) (by omega)).1 nm
          rcases wo with o | o
          · have eF : bigF w m S j = cnX w m (12 * m + j) := bigF_y ⟨nb, by omega⟩
            by_cases big : cnX w m (12 * m + j) ≤ 20000
            · have b2 := mul_rng (a := x) (b := cnX w m (12 * m + j)) (A := 20000) (B := 20000) (by omega) (by omega) (by omega) (by omega)
              have ih' := ih L (j + 1) (x * cnX w m (12 * m + j)) (by omega) (by omega) (by
                rw [step, eF, ← y1]
                by_cases q : x * cnX w m (12 * m + j) ≤ 20000
                · exact Or.inl ⟨rfl, q⟩
                · exact Or.inr ⟨by omega, by omega, by omega⟩)
              rw [← ih', show ((j + 1 : Nat) : Int) = (j : Int) + 1 by omega]
              simp -implicitDefEqProofs (disch := omega) only [lp_succ, F_b_X12_isBig_5, k_X12_isBig_5_1, F_f_X12_isBig_49, k_X12_countOf_1, F_f_X12_countOf, K91 hF, R91_3 hF, R91_7 hF, K94 hF, N94 hF, K98 hF, N98 hF, RR_Bx hR, RR_O hR, z', o, hm, iv_add, iv_sub, iv_mul, iv_neg, iv_zero, iv_ltT, iv_ltF, iv_leT, iv_leF, iv_eqT, iv_eqF, iv_div, rm_iv, tn_iv, ib_iv, lc_lt, lc_le, lc_gt, lc_ge, lc_eq, iv_l, jv_add, jv_sub, jv_mul, jv_zero, if_pos, if_neg, some_cb, some_cbv, ↓nm_eq, ↓reduceIte, true_and, and_true, Bool.true_eq_false, Bool.false_eq_true, not_false_eq_true, not_true_eq_false]
            · have ih' := ih L (j + 1) 20001 (by omega) (by omega) (Or.inr ⟨by omega, by omega, bigN_big hS.W hl (by omega) (by rw [eF]; omega)⟩)
              rw [← ih', show ((j + 1 : Nat) : Int) = (j : Int) + 1 by omega]
              simp -implicitDefEqProofs (disch := omega) only [lp_succ, F_b_X12_isBig_5, k_X12_isBig_5_1, F_f_X12_isBig_49, k_X12_countOf_1, F_f_X12_countOf, K91 hF, R91_3 hF, R91_7 hF, K94 hF, N94 hF, K98 hF, N98 hF, RR_Bx hR, RR_O hR, z', o, hm, iv_add, iv_sub, iv_mul, iv_neg, iv_zero, iv_ltT, iv_ltF, iv_leT, iv_leF, iv_eqT, iv_eqF, iv_div, rm_iv, tn_iv, ib_iv, lc_lt, lc_le, lc_gt, lc_ge, lc_eq, iv_l, jv_add, jv_sub, jv_mul, jv_zero, if_pos, if_neg, some_cb, some_cbv, ↓nm_eq, ↓reduceIte, true_and, and_true, Bool.true_eq_false, Bool.false_eq_true, not_false_eq_true, not_true_eq_false]
          · have eF : bigF w m S j = 1 := bigF_n (fun y => y.2 o)
            have ih' := ih L (j + 1) (x * 1) (by omega) (by omega) (by rw [step, eF, Int.mul_one, Int.mul_one]; exact Or.inl ⟨y1, y2⟩)
            rw [← ih', show ((j + 1 : Nat) : Int) = (j : Int) + 1 by omega]
            simp -implicitDefEqProofs (disch := omega) only [lp_succ, F_b_X12_isBig_5, k_X12_isBig_5_1, F_f_X12_isBig_49, k_X12_countOf_1, F_f_X12_countOf, K91 hF, R91_3 hF, R91_7 hF, K94 hF, N94 hF, K98 hF, N98 hF, RR_Bx hR, RR_O hR, z', o, iv_add, iv_sub, iv_mul, iv_neg, iv_zero, iv_ltT, iv_ltF, iv_leT, iv_leF, iv_eqT, iv_eqF, iv_div, rm_iv, tn_iv, ib_iv, lc_lt, lc_le, lc_gt, lc_ge, lc_eq, iv_l, jv_add, jv_sub, jv_mul, jv_zero, if_pos, if_neg, some_cb, some_cbv, ↓nm_eq, ↓reduceIte, true_and, and_true, Bool.true_eq_false, Bool.false_eq_true, not_false_eq_true, not_true_eq_false]
        · have z' : ((N >>> (iv j &&& 31)) &&& iv 1 = iv 1) = False := eq_false nm
          have eF : bigF w m S j = 1 := bigF_n (fun y => nm ((hN j (by omega) (by omega)).2 y.1))
          have ih' := ih L (j + 1) (x * 1) (by omega) (by omega) (by rw [step, eF, Int.mul_one, Int.mul_one]; exact Or.inl ⟨y1, y2⟩)
          rw [← ih', show ((j + 1 : Nat) : Int) = (j : Int) + 1 by omega]
          simp -implicitDefEqProofs (disch := omega) only [lp_succ, F_b_X12_isBig_5, F_f_X12_isBig_49, K91 hF, R91_3 hF, K94 hF, N94 hF, RR_Bx hR, z', iv_add, iv_sub, iv_mul, iv_neg, iv_zero, iv_ltT, iv_ltF, iv_leT, iv_leF, iv_eqT, iv_eqF, iv_div, rm_iv, tn_iv, ib_iv, lc_lt, lc_le, lc_gt, lc_ge, lc_eq, iv_l, jv_add, jv_sub, jv_mul, jv_zero, if_pos, if_neg, some_cb, some_cbv, ↓nm_eq, ↓reduceIte, true_and, and_true, Bool.true_eq_false, Bool.false_eq_true, not_false_eq_true, not_true_eq_false]
      · have up := bigN_up (S := S) hS.W hl j (n + 1) (by omega)
        have eR : bigR w m S = 1 := by
          unfold bigR
          rw [show (wBx w m).toNat = j + (n + 1) by omega]
          exact if_pos (by omega)
        rw [eR]
        simp -implicitDefEqProofs (disch := omega) only [lp_succ, F_b_X12_isBig_5, F_f_X12_isBig_77, K91 hF, R91_3 hF, K94 hF, N94 hF, RR_Bx hR, zret1, iv_add, iv_sub, iv_mul, iv_neg, iv_zero, iv_ltT, iv_ltF, iv_leT, iv_leF, iv_eqT, iv_eqF, iv_div, rm_iv, tn_iv, ib_iv, lc_lt, lc_le, lc_gt, lc_ge, lc_eq, iv_l, jv_add, jv_sub, jv_mul, jv_zero, if_pos, if_neg, some_cb, some_cbv, ↓nm_eq, ↓reduceIte, true_and, and_true, Bool.true_eq_false, Bool.false_eq_true, not_false_eq_true, not_true_eq_false]
  have := l (wBx w m).toNat FU 0 1 (FU_gt (by omega)) (by omega) (Or.inl ⟨rfl, by omega⟩)
  exact this
set_option maxRecDepth 100000 in
theorem c_isTooMany (hS : Sim w A h) (hl : lvM w m) : CSm w A (f_X6_isTooMany (A m) S) h (iv (bigR w m S)) := by
  obtain ⟨N, eN, hN⟩ := c_named hS hl S
  obtain ⟨-, -, bb, -⟩ := hS.W.mat hl
  have l0 := hl.1
  have l : ∀ (n L j : Nat) (hh : AH), n < L → ((j + n : Nat) : Int) = wBx w m → bigN w m S j ≤ 20000 → Sc w A h hh → ∃ h', lp b_X6_isTooMany_11 (fun _ _ _ _ _ => none) L (A m) N (jv (bigN w m S j)) (iv j) hh = some (iv (bigR w m S), h') ∧ Sc w A h h' := by
    intro n
    induction n with
    | zero =>
      intro L j hh hL hj hx sc
      obtain ⟨L, rfl⟩ : ∃ L', L = L' + 1 := ⟨L - 1, by omega⟩
      have hM := (hS.sc sc).M hl
      have eR : bigR w m S = 0 := by
        unfold bigR
        rw [show (wBx w m).toNat = j by omega]
        exact if_neg (by omega)
      rw [eR]
      exact ⟨hh, by simp -implicitDefEqProofs (disch := omega) only [lp_succ, F_b_X6_isTooMany_11, oM_k hM, oM_5 hM, zret0, iv_add, iv_sub, iv_mul, iv_neg, iv_zero, iv_ltT, iv_ltF, iv_leT, iv_leF, iv_eqT, iv_eqF, iv_div, rm_iv, tn_iv, ib_iv, some_cb, some_cbv, ↓nm_eq, ↓reduceIte, true_and, and_true, Bool.true_eq_false, Bool.false_eq_true, not_false_eq_true, not_true_eq_false], sc⟩
    | succ n ih =>
      intro L j hh hL hj hx sc
      obtain ⟨L, rfl⟩ : ∃ L', L = L' + 1 := ⟨L - 1, by omega⟩
      have sim := hS.sc sc
      have hM := sim.M hl
      have hB := sim.B hl (b := j) (by omega) (by omega)
      have o1 := bigN_one (S := S) hS.W hl j (by omega)
      have of := bigF_one (S := S) hS.W hl (b := j) (by omega) (by omega)
      have cr := cnX_rng hS.W hl (b := j) (by omega) (by omega)
      obtain ⟨-, -, -, -, -, wo, -⟩ := hS.W.box hl (b := j) (by omega) (by omega)
      have step : bigN w m S (j + 1) = bigN w m S j * bigF w m S j := rfl
      have skip : bigF w m S j = 1 → ∃ h', lp b_X6_isTooMany_11 (fun _ _ _ _ _ => none) L (A m) N (jv (bigN w m S j)) (iv ((j : Int) + 1)) hh = some (iv (bigR w m S), h') ∧ Sc w A h h' := fun eF => by
        have := ih L (j + 1) hh (by omega) (by omega) (by rw [step, eF, Int.mul_one]; exact hx) sc
        rw [step, eF, Int.mul_one, show ((j + 1 : Nat) : Int) = (j : Int) + 1 by omega] at this
        exact this
      have big1 : 20000 < bigN w m S (j + 1) → bigR w m S = 1 := fun y => by
        have up := bigN_up (S := S) hS.W hl (j + 1) n (by omega)
        unfold bigR
        rw [show (wBx w m).toNat = j + 1 + n by omega]
        exact if_pos (by omega)
      by_cases nm : bt N j
      · have z1 : (N >>> (iv j &&& 31)) &&& iv 1 = iv 1 := nm
        have nb := (hN j (by omega) (by omega)).1 nm
        rcases wo with o | o
        · have eF : bigF w m S j = cnX w m (12 * m + j) := bigF_y ⟨nb, by omega⟩
          obtain ⟨h2, e2, s2⟩ := c_howMany sim hl (b := j) (by omega) (by omega)
          have sc2 := sc.tr s2
          have sim2 := hS.sc sc2
          have hM2 := sim2.M hl
          have hB2 := sim2.B hl (b := j) (by omega) (by omega)
          by_cases big : cnX w m (12 * m + j) ≤ 20000
          · obtain ⟨h3, e3, s3⟩ := c_howMany sim2 hl (b := j) (by omega) (by omega)
            have sc3 := sc2.tr s3
            have b2 := mul_rng (a := bigN w m S j) (b := cnX w m (12 * m + j)) (A := 20000) (B := 20000) (by omega) (by omega) (by omega) (by omega)
            by_cases q : bigN w m S j * cnX w m (12 * m + j) ≤ 20000
            · obtain ⟨h', e4, s4⟩ := ih L (j + 1) h3 (by omega) (by omega) (by rw [step, eF]; exact q) sc3
              refine ⟨h', ?_, s4⟩
              rw [← e4, step, eF, show ((j + 1 : Nat) : Int) = (j : Int) + 1 by omega]
              simp -implicitDefEqProofs (disch := omega) only [lp_succ, F_b_X6_isTooMany_11, k_X6_isTooMany_11_1, k_X6_isTooMany_11_2, oM_k hM, oM_5 hM, oM_2 hM, oM_k1 hM, oM_n1 hM, oM_b hM, oB_k hB, oB_7 hB, o, z1, e2, oM_k hM2, oM_5 hM2, oM_2 hM2, oM_k1 hM2, oM_n1 hM2, oM_b hM2, oB_k hB2, e3, iv_add, iv_sub, iv_mul, iv_neg, iv_zero, iv_ltT, iv_ltF, iv_leT, iv_leF, iv_eqT, iv_eqF, iv_div, rm_iv, tn_iv, ib_iv, lc_lt, lc_le, lc_gt, lc_ge, lc_eq, iv_l, jv_add, jv_sub, jv_mul, jv_zero, if_pos, if_neg, some_cb, some_cbv, ↓nm_eq, ↓reduceIte, true_and, and_true, Bool.true_eq_false, Bool.false_eq_true, not_false_eq_true, not_true_eq_false]
            · rw [big1 (by rw [step, eF]; omega)]
              refine ⟨h3, ?_, sc3⟩
              simp -implicitDefEqProofs (disch := omega) only [lp_succ, F_b_X6_isTooMany_11, k_X6_isTooMany_11_1, k_X6_isTooMany_11_2, oM_k hM, oM_5 hM, oM_2 hM, oM_k1 hM, oM_n1 hM, oM_b hM, oB_k hB, oB_7 hB, o, z1, e2, oM_k hM2, oM_5 hM2, oM_2 hM2, oM_k1 hM2, oM_n1 hM2, oM_b hM2, oB_k hB2, e3, zret1, iv_add, iv_sub, iv_mul, iv_neg, iv_zero, iv_ltT, iv_ltF, iv_leT, iv_leF, iv_eqT, iv_eqF, iv_div, rm_iv, tn_iv, ib_iv, lc_lt, lc_le, lc_gt, lc_ge, lc_eq, iv_l, jv_add, jv_sub, jv_mul, jv_zero, if_pos, if_neg, some_cb, some_cbv, ↓nm_eq, ↓reduceIte, true_and, and_true, Bool.true_eq_false, Bool.false_eq_true, not_false_eq_true, not_true_eq_false]
          · rw [big1 (bigN_big hS.W hl (by omega) (by rw [eF]; omega))]
            refine ⟨h2, ?_, sc2⟩
            simp -implicitDefEqProofs (disch := omega) only [lp_succ, F_b_X6_isTooMany_11, k_X6_isTooMany_11_1, k_X6_isTooMany_11_2, oM_k hM, oM_5 hM, oM_2 hM, oM_k1 hM, oM_n1 hM, oM_b hM, oB_k hB, oB_7 hB, o, z1, e2, zret1, iv_add, iv_sub, iv_mul, iv_neg, iv_zero, iv_ltT, iv_ltF, iv_leT, iv_leF, iv_eqT, iv_eqF, iv_div, rm_iv, tn_iv, ib_iv, lc_lt, lc_le, lc_gt, lc_ge, lc_eq, iv_l, jv_add, jv_sub, jv_mul, jv_zero, if_pos, if_neg, some_cb, some_cbv, ↓nm_eq, ↓reduceIte, true_and, and_true, Bool.true_eq_false, Bool.false_eq_true, not_false_eq_true, not_true_eq_false]
        · obtain ⟨h', e4, s4⟩ := skip (bigF_n (fun y => y.2 o))
          refine ⟨h', ?_, s4⟩
          rw [← e4]
          simp -implicitDefEqProofs (disch := omega) only [lp_succ, F_b_X6_isTooMany_11, k_X6_isTooMany_11_1, k_X6_isTooMany_11_2, oM_k hM, oM_5 hM, oM_2 hM, oM_k1 hM, oM_n1 hM, oM_b hM, oB_k hB, oB_7 hB, o, z1, iv_add, iv_sub, iv_mul, iv_neg, iv_zero, iv_ltT, iv_ltF, iv_leT, iv_leF, iv_eqT, iv_eqF, iv_div, rm_iv, tn_iv, ib_iv, lc_lt, lc_le, lc_gt, lc_ge, lc_eq, iv_l, jv_add, jv_sub, jv_mul, jv_zero, if_pos, if_neg, some_cb, some_cbv, ↓nm_eq, ↓reduceIte, true_and, and_true, Bool.true_eq_false, Bool.false_eq_true, not_false_eq_true, not_true_eq_false]
      · have z0 := bt_0 N (b := j) (by omega) (by omega) nm
        obtain ⟨h', e4, s4⟩ := skip (bigF_n (fun y => nm ((hN j (by omega) (by omega)).2 y.1)))
        refine ⟨h', ?_, s4⟩
        rw [← e4]
        simp -implicitDefEqProofs (disch := omega) only [lp_succ, F_b_X6_isTooMany_11, oM_k hM, oM_5 hM, z0, iv_add, iv_sub, iv_mul, iv_neg, iv_zero, iv_ltT, iv_ltF, iv_leT, iv_leF, iv_eqT, iv_eqF, iv_div, rm_iv, tn_iv, ib_iv, some_cb, some_cbv, ↓nm_eq, ↓reduceIte, true_and, and_true, Bool.true_eq_false, Bool.false_eq_true, not_false_eq_true, not_true_eq_false]
  obtain ⟨h', e', s'⟩ := l (wBx w m).toNat FU 0 h (FU_gt (by omega)) (by omega) (by show (1 : Int) ≤ 20000; omega) (Sc.rf hS)
  have hM := hS.M hl
  change lp b_X6_isTooMany_11 (fun _ _ _ _ _ => none) FU (A m) N (jv 1) (iv 0) h = _ at e'
  refine ⟨h', ?_, s'⟩
  simp -implicitDefEqProofs (disch := omega) only [F_f_X6_isTooMany, k_X6_isTooMany_1, f_X6_isTooMany_11, oM_k hM, eN, e', some_cb, some_cbv, ↓nm_eq, ↓reduceIte, true_and, and_true, Bool.true_eq_false, Bool.false_eq_true, not_false_eq_true, not_true_eq_false]
end Q2
