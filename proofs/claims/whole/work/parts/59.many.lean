theorem gK_sJ (h : AH) (a i : Nat) (v : Int64) (b : Nat) : gK (sJ h a i v) b = gK h b := rfl
theorem gN_sJ (h : AH) (a i : Nat) (v : Int64) (b : Nat) : gN (sJ h a i v) b = gN h b := rfl
theorem gR_sJ (h : AH) (a i : Nat) (v : Int64) (b j : Nat) : gR (sJ h a i v) b j = gR h b j := rfl
theorem gI_sJ (h : AH) (a i : Nat) (v : Int64) (b j : Nat) : gI (sJ h a i v) b j = gI h b j := rfl
theorem gJ_sJs (h : AH) (a i : Nat) (v : Int64) : gJ (sJ h a i v) a i = v := if_pos ⟨rfl, rfl⟩
theorem gJ_sJo (h : AH) {a i b j : Nat} (v : Int64) (hb : b ≠ a ∨ j ≠ i) : gJ (sJ h a i v) b j = gJ h b j := if_neg (by omega)
theorem gK_sI (h : AH) (a i : Nat) (v : Int32) (b : Nat) : gK (sI h a i v) b = gK h b := rfl
theorem gN_sI (h : AH) (a i : Nat) (v : Int32) (b : Nat) : gN (sI h a i v) b = gN h b := rfl
theorem gR_sI (h : AH) (a i : Nat) (v : Int32) (b j : Nat) : gR (sI h a i v) b j = gR h b j := rfl
theorem gJ_sI (h : AH) (a i : Nat) (v : Int32) (b j : Nat) : gJ (sI h a i v) b j = gJ h b j := rfl
theorem gI_sIs (h : AH) (a i : Nat) (v : Int32) : gI (sI h a i v) a i = v := if_pos ⟨rfl, rfl⟩
theorem gI_sIo (h : AH) {a i b j : Nat} (v : Int32) (hb : b ≠ a ∨ j ≠ i) : gI (sI h a i v) b j = gI h b j := if_neg (by omega)
section Q
variable {w : WD} {A : Int → Nat} {h : AH}
theorem j_maxL {a b : Int} (h1 : -9223372036854775808 ≤ a) (h2 : a ≤ 9223372036854775807) (h3 : -9223372036854775808 ≤ b) (h4 : b ≤ 9223372036854775807) : f_J9_max_f86c9 (jv a) (jv b) h = some (jv (max a b), h) := by
  by_cases e : a < b
  · rw [show max a b = b by omega]; simp -implicitDefEqProofs (disch := omega) only [F_f_J9_max_f86c9, iv_add, iv_sub, iv_mul, iv_neg, iv_zero, iv_ltT, iv_ltF, iv_leT, iv_leF, iv_eqT, iv_eqF, iv_div, rm_iv, tn_iv, ib_iv, lc_lt, lc_le, lc_gt, lc_ge, lc_eq, iv_l, jv_add, jv_sub, jv_mul, jv_zero, if_pos, if_neg, some_cb, some_cbv, ↓nm_eq, ↓reduceIte, true_and, and_true, Bool.true_eq_false, Bool.false_eq_true, not_false_eq_true, not_true_eq_false]
  · rw [show max a b = a by omega]; simp -implicitDefEqProofs (disch := omega) only [F_f_J9_max_f86c9, iv_add, iv_sub, iv_mul, iv_neg, iv_zero, iv_ltT, iv_ltF, iv_leT, iv_leF, iv_eqT, iv_eqF, iv_div, rm_iv, tn_iv, ib_iv, lc_lt, lc_le, lc_gt, lc_ge, lc_eq, iv_l, jv_add, jv_sub, jv_mul, jv_zero, if_pos, if_neg, some_cb, some_cbv, ↓nm_eq, ↓reduceIte, true_and, and_true, Bool.true_eq_false, Bool.false_eq_true, not_false_eq_true, not_true_eq_false]
theorem sumL2 (a b : Int) : sumL [a, b] = a + b := by show a + (b + 0) = _; omega
theorem sumL3 (a b c : Int) : sumL [a, b, c] = a + b + c := by show a + (b + (c + 0)) = _; omega
theorem sumL4 (a b c d : Int) : sumL [a, b, c, d] = a + b + c + d := by show a + (b + (c + (d + 0))) = _; omega
/-- the tables of a box: of its own groups, and of four -/
theorem cnX_rows (hW : WI w) {m b : Int} (hl : lvM w m) (b0 : 0 ≤ b) (tb : b < wBx w m) : sumL (rwL w (12 * m + b) 0 (wGr w m).toNat) = wV w (12 * m + b) ∧ (∀ a c d : Int, cn [wP w m (12 * m + b) 0, wP w m (12 * m + b) 1, wP w m (12 * m + b) 2, wP w m (12 * m + b) 3] a c d = cn (rwL w (12 * m + b) 0 (wGr w m).toNat) a c d) ∧ allN (rwL w (12 * m + b) 0 (wGr w m).toNat) := by
  obtain ⟨⟨g1, g2⟩, -⟩ := hW.mat hl
  have hV := hW.box hl b0 tb
  have hv := hV.2.2.2.1
  have q := fun (g : Int) (g0 : 0 ≤ g) (g1 : g < 4) => (oB_v hV g0 g1).1
  have q0 := q 0 (by omega) (by omega)
  have q1 := q 1 (by omega) (by omega)
  have q2 := q 2 (by omega) (by omega)
  have q3 := q 3 (by omega) (by omega)
  clear q
  generalize 12 * m + b = x at *
  have p0 : wP w m x 0 = wG w x 0 := if_pos (by omega)
  have p1 : wP w m x 1 = wG w x 1 := if_pos (by omega)
  rcases (show wGr w m = 2 ∨ wGr w m = 3 ∨ wGr w m = 4 by omega) with z | z | z
  · have p2 : wP w m x 2 = 0 := if_neg (by omega)
    have p3 : wP w m x 3 = 0 := if_neg (by omega)
    rw [z, p0, p1, p2, p3]
    rw [p0, p1, p2, p3] at hv
    rw [p0] at q0
    rw [p1] at q1
    refine ⟨?_, fun a c d => ?_, ?_⟩
    · show sumL [wG w x 0, wG w x 1] = _
      rw [sumL2, hv]; omega
    · show cn ([wG w x 0, wG w x 1] ++ [0, 0]) a c d = cn ([wG w x 0, wG w x 1] ++ []) a c d
      exact cn_tail _ (fun a c d => (cn_lead rfl _ _ _ _).trans (cn_zero _ _ _)) _ _ _
    · exact ⟨q0, q1, trivial⟩
  · have p2 : wP w m x 2 = wG w x 2 := if_pos (by omega)
    have p3 : wP w m x 3 = 0 := if_neg (by omega)
    rw [z, p0, p1, p2, p3]
    rw [p0, p1, p2, p3] at hv
    rw [p0] at q0
    rw [p1] at q1
    rw [p2] at q2
    refine ⟨?_, fun a c d => ?_, ?_⟩
    · show sumL [wG w x 0, wG w x 1, wG w x 2] = _
      rw [sumL3, hv]; omega
    · show cn ([wG w x 0, wG w x 1, wG w x 2] ++ [0]) a c d = cn ([wG w x 0, wG w x 1, wG w x 2] ++ []) a c d
      exact cn_tail _ (fun a c d => cn_zero _ _ _) _ _ _
    · exact ⟨q0, q1, q2, trivial⟩
  · have p2 : wP w m x 2 = wG w x 2 := if_pos (by omega)
    have p3 : wP w m x 3 = wG w x 3 := if_pos (by omega)
    rw [z, p0, p1, p2, p3]
    rw [p0, p1, p2, p3] at hv
    rw [p0] at q0
    rw [p1] at q1
    rw [p2] at q2
    rw [p3] at q3
    refine ⟨?_, fun a c d => rfl, ?_⟩
    · show sumL [wG w x 0, wG w x 1, wG w x 2, wG w x 3] = _
      rw [sumL4, hv]
    · exact ⟨q0, q1, q2, q3, trivial⟩
theorem cn_pos {rs : List Int} {a b c : Int} (hn : allN rs) (a0 : 0 ≤ a) (b0 : 0 ≤ b) (c0 : 0 ≤ c) (hs : a + b + c = sumL rs) : 1 ≤ cn rs a b c := by
  have q := (Tb_chain rs a b c hn a0 b0 c0 hs).2
  rw [← Tb_len]
  cases hh : Tb rs a b c with
  | nil => rw [hh] at q; cases q
  | cons y l => rw [List.length_cons]; omega
theorem cnX_rng (hW : WI w) {m b : Int} (hl : lvM w m) (b0 : 0 ≤ b) (tb : b < wBx w m) : 1 ≤ cnX w m (12 * m + b) ∧ cnX w m (12 * m + b) ≤ 1000000000000 := by
  have hV := hW.box hl b0 tb
  have q := fun (g : Int) (g0 : 0 ≤ g) (g1 : g < 4) => oB_v hV g0 g1
  have c0 := oB_c hV (k := 0) (by omega) (by omega)
  have c1 := oB_c hV (k := 1) (by omega) (by omega)
  have c2 := oB_c hV (k := 2) (by omega) (by omega)
  have v1 := hV.2.2.2.1
  have v2 := hV.2.2.2.2.1
  have q0 := q 0 (by omega) (by omega)
  have q1 := q 1 (by omega) (by omega)
  have q2 := q 2 (by omega) (by omega)
  have q3 := q 3 (by omega) (by omega)
  exact ⟨cn_pos ⟨q0.1, q1.1, q2.1, q3.1, trivial⟩ c0.1 c1.1 c2.1 (by rw [sumL4]; omega), cn4_le q0 q1 q2 _ _ _⟩
set_option maxRecDepth 100000 in
theorem q_howMany (hS : QS w h) {m b : Int} (hl : lvM w m) (b0 : 0 ≤ b) (tb : b < wBx w m) : f_X12_howMany 91 (iv (12 * m + b)) h = some (jv (cnX w m (12 * m + b)), h) := by
  have hF := hS.F
  have hR := hS.R
  obtain ⟨⟨x0, x1⟩, v0, v1⟩ := box_ran hS.W hl b0 tb
  obtain ⟨⟨g1, g2⟩, -⟩ := hS.W.mat hl
  have hV := hS.W.box hl b0 tb
  have c0 := oB_c hV (k := 0) (by omega) (by omega)
  have c1 := oB_c hV (k := 1) (by omega) (by omega)
  have v2 := hV.2.2.2.2.1
  have hq := q_ways hS hl b0 tb (g := 0) (n := (wGr w m).toNat) (a := wC w (12 * m + b) 0) (b := wC w (12 * m + b) 1) (by omega) (by omega) (by omega) (by omega) (by omega)
  obtain ⟨e1, e2, -⟩ := cnX_rows hS.W hl b0 tb
  rw [← e2, e1, show wV w (12 * m + b) - wC w (12 * m + b) 0 - wC w (12 * m + b) 1 = wC w (12 * m + b) 2 by omega] at hq
  simp -implicitDefEqProofs (disch := omega) only [k_X12_howMany_1, F_f_X12_howMany, K91 hF, K92 hF, N92 hF, K93 hF, N93 hF, K94 hF, N94 hF, K95 hF, N95 hF, K96 hF, N96 hF, K97 hF, N97 hF, K98 hF, N98 hF, K99 hF, N99 hF, K100 hF, N100 hF, K101 hF, N101 hF, K102 hF, N102 hF, K103 hF, N103 hF, K104 hF, N104 hF, K105 hF, N105 hF, K106 hF, N106 hF, K107 hF, N107 hF, K108 hF, N108 hF, K109 hF, N109 hF, K110 hF, N110 hF, K111 hF, N111 hF, K112 hF, N112 hF, K113 hF, N113 hF, K114 hF, N114 hF, K115 hF, N115 hF, K116 hF, N116 hF, K117 hF, N117 hF, K118 hF, N118 hF, K119 hF, N119 hF, K120 hF, N120 hF, R91_1 hF, R91_2 hF, R91_3 hF, R91_4 hF, R91_5 hF, R91_6 hF, R91_7 hF, R91_8 hF, R91_9 hF, R91_10 hF, R91_11 hF, R91_12 hF, R91_13 hF, R91_14 hF, R91_15 hF, R91_16 hF, R91_17 hF, R91_18 hF, R91_21 hF, R91_22 hF, R91_24 hF, R91_25 hF, R91_26 hF, R91_27 hF, R91_29 hF, R91_30 hF, R91_31 hF, R91_32 hF, R91_44 hF, RR_C0 hR, RR_C hR, hq, iv_add, iv_sub, iv_mul, iv_neg, iv_zero, iv_ltT, iv_ltF, iv_leT, iv_leF, iv_eqT, iv_eqF, iv_div, rm_iv, tn_iv, ib_iv, some_cb, some_cbv, ↓nm_eq, ↓reduceIte, true_and, and_true, Bool.true_eq_false, Bool.false_eq_true, not_false_eq_true, not_true_eq_false]
  rfl
set_option maxRecDepth 100000 in
theorem c_howMany (hS : Sim w A h) {m b : Int} (hl : lvM w m) (b0 : 0 ≤ b) (tb : b < wBx w m) : CSm w A (f_X0_howMany (A (10 + (12 * m + b)))) h (jv (cnX w m (12 * m + b))) := by
  have hB := hS.B hl b0 tb
  have hV := hS.W.box hl b0 tb
  obtain ⟨r1, r2⟩ := cnX_rng hS.W hl b0 tb
  rcases hS.wy m b hl b0 tb with z | z
  · have q := fun (g : Int) (g0 : 0 ≤ g) (g1 : g < 4) => oB_v hV g0 g1
    have c0 := oB_c hV (k := 0) (by omega) (by omega)
    have c1 := oB_c hV (k := 1) (by omega) (by omega)
    have c2 := oB_c hV (k := 2) (by omega) (by omega)
    have v1 := hV.2.2.2.1
    have v2 := hV.2.2.2.2.1
    have q0 := q 0 (by omega) (by omega)
    have q1 := q 1 (by omega) (by omega)
    have q2 := q 2 (by omega) (by omega)
    have q3 := q 3 (by omega) (by omega)
    have hG : GrC h (A (10 + (12 * m + b)) + 1) (A (10 + (12 * m + b)) + 2) (wP w m (12 * m + b) 0) (wP w m (12 * m + b) 1) (wP w m (12 * m + b) 2) (wP w m (12 * m + b) 3) (wC w (12 * m + b) 0) (wC w (12 * m + b) 1) (wC w (12 * m + b) 2) := ⟨oB_k1 hB, oB_n1 hB, oB_k2 hB, oB_n2 hB, oB_d1 hB (g := 0) (by omega) (by omega), oB_d1 hB (g := 1) (by omega) (by omega), oB_d1 hB (g := 2) (by omega) (by omega), oB_d1 hB (g := 3) (by omega) (by omega), oB_d2 hB (k := 0) (by omega) (by omega), oB_d2 hB (k := 1) (by omega) (by omega), oB_d2 hB (k := 2) (by omega) (by omega)⟩
    have hw := c_ways hG (by omega) (by omega) (by omega) (by omega) (by omega) (by omega) (by omega) (by omega)
    have hmx : max 1 (cn [wP w m (12 * m + b) 0, wP w m (12 * m + b) 1, wP w m (12 * m + b) 2, wP w m (12 * m + b) 3] (wC w (12 * m + b) 0) (wC w (12 * m + b) 1) (wC w (12 * m + b) 2)) = cnX w m (12 * m + b) := by
      show max 1 (cnX w m (12 * m + b)) = _
      omega
    have r3 : 1 ≤ cn [wP w m (12 * m + b) 0, wP w m (12 * m + b) 1, wP w m (12 * m + b) 2, wP w m (12 * m + b) 3] (wC w (12 * m + b) 0) (wC w (12 * m + b) 1) (wC w (12 * m + b) 2) := r1
    have r4 : cn [wP w m (12 * m + b) 0, wP w m (12 * m + b) 1, wP w m (12 * m + b) 2, wP w m (12 * m + b) 3] (wC w (12 * m + b) 0) (wC w (12 * m + b) 1) (wC w (12 * m + b) 2) ≤ 1000000000000 := r2
    exact ⟨_, by simp -implicitDefEqProofs (disch := omega) only [k_X0_howMany_1, k_X0_howMany_2, F_f_X0_howMany, oB_k hB, oB_0 hB, oB_1 hB, oB_2 hB, oB_3 hB, oB_4 hB, oB_k1 hB, oB_n1 hB, oB_k2 hB, oB_n2 hB, oB_k3 hB, oB_n3 hB, oB_k4 hB, oB_n4 hB, oB_5 hB, oB_6 hB, oB_7 hB, oB_d1 hB, oB_d2 hB, wP_lt, z, hw, j_maxL, hmx, gK_sJ, gJ_sJs, iv_add, iv_sub, iv_mul, iv_neg, iv_zero, iv_ltT, iv_ltF, iv_leT, iv_leF, iv_eqT, iv_eqF, iv_div, rm_iv, tn_iv, ib_iv, lc_lt, lc_le, lc_gt, lc_ge, lc_eq, iv_l, jv_add, jv_sub, jv_mul, jv_zero, if_pos, if_neg, some_cb, some_cbv, ↓nm_eq, ↓reduceIte, true_and, and_true, Bool.true_eq_false, Bool.false_eq_true, not_false_eq_true, not_true_eq_false], Sc.sJ8 hS (Sc.rf hS) hl b0 tb⟩
  · exact CSm.still hS (by simp -implicitDefEqProofs (disch := omega) only [k_X0_howMany_1, k_X0_howMany_2, F_f_X0_howMany, oB_k hB, oB_0 hB, oB_1 hB, oB_2 hB, oB_3 hB, oB_4 hB, oB_k1 hB, oB_n1 hB, oB_k2 hB, oB_n2 hB, oB_k3 hB, oB_n3 hB, oB_k4 hB, oB_n4 hB, oB_5 hB, oB_6 hB, oB_7 hB, oB_d1 hB, oB_d2 hB, wP_lt, z, iv_add, iv_sub, iv_mul, iv_neg, iv_zero, iv_ltT, iv_ltF, iv_leT, iv_leF, iv_eqT, iv_eqF, iv_div, rm_iv, tn_iv, ib_iv, lc_lt, lc_le, lc_gt, lc_ge, lc_eq, iv_l, jv_add, jv_sub, jv_mul, jv_zero, if_pos, if_neg, some_cb, some_cbv, ↓nm_eq, ↓reduceIte, true_and, and_true, Bool.true_eq_false, Bool.false_eq_true, not_false_eq_true, not_true_eq_false])
set_option maxRecDepth 100000 in
theorem M_many (hS : Sim w A h) (x1 : Int32) : Both (f_X11_many 3 x1) (f_X12_many 91 x1) h := by
  obtain ⟨t, rfl, t1, t2⟩ := iv_ex x1
  by_cases hb : isB w t
  · have hF := hS.F
    have hR := hS.R
    obtain ⟨t0, hl, tb⟩ := hb; obtain ⟨m, hm⟩ : ∃ m, t / 100 = m := ⟨_, rfl⟩; obtain ⟨b, hbb⟩ : ∃ b, t % 100 = b := ⟨_, rfl⟩; rw [hm] at hl tb; rw [hbb] at tb; have b0 : 0 ≤ b := (by omega); obtain ⟨⟨x0, x1⟩, v0, v1⟩ := box_ran hS.W hl b0 tb; obtain ⟨⟨w1, w2⟩, -⟩ := hS.W; obtain ⟨⟨gg1, gg2⟩, ⟨gc1, gc2⟩, ⟨b2, b3⟩, ⟨hh1, hh2⟩, -⟩ := hS.W.mat hl; have hx : iv (12 * m + b) / iv 12 = iv m := (by rw [iv_div (by omega) (by omega) (by omega) (by omega)]; congr 1; omega); have hxm : rmI (iv (12 * m + b)) (iv 12) = iv b := (by rw [rm_iv (by omega) (by omega) (by omega) (by omega)]; congr 1; omega); have hcb := c_boxAt1 hS t2 t0 hm hbb hl tb; have hqb := q_boxOf1 hS.Q t2 t0 hm hbb hl tb; have hqbA := fun (h1 : AH) (q : QS w h1) => q_boxOf1 q t2 t0 hm hbb hl tb; have hcbA := fun (h1 : AH) (q : Sim w A h1) => c_boxAt1 q t2 t0 hm hbb hl tb; have hbA := eq_false (hS.bA hl b0 tb); have hB := hS.B hl b0 tb; have hM := hS.M hl; have hV := hS.W.box hl b0 tb; clear t0 t1 t2 hm hbb
    obtain ⟨r1, r2⟩ := cnX_rng hS.W hl b0 tb
    obtain ⟨h1, f1, s1⟩ := c_howMany hS hl b0 tb
    have hS1 := hS.sc s1
    obtain ⟨h2, f2, s2⟩ := c_howMany hS1 hl b0 tb
    have ok1 := oB_k (hS1.B hl b0 tb)
    refine Both.scr hS (r := jv (cnX w m (12 * m + b))) ⟨h2, (by simp -implicitDefEqProofs (disch := omega) only [k_X11_many_1, k_X11_many_2, k_X11_many_3, F_f_X11_many, K3 hF, hcb, hbA, oB_k hB, oB_0 hB, oB_1 hB, oB_2 hB, oB_3 hB, oB_4 hB, oB_k1 hB, oB_n1 hB, oB_k2 hB, oB_n2 hB, oB_k3 hB, oB_n3 hB, oB_k4 hB, oB_n4 hB, oB_5 hB, oB_6 hB, oB_7 hB, oB_d1 hB, oB_d2 hB, wP_lt, oM_k hM, oM_0 hM, oM_1 hM, oM_5 hM, oM_6 hM, oM_2 hM, oM_3 hM, oM_4 hM, oM_k1 hM, oM_n1 hM, oM_k2 hM, oM_n2 hM, oM_k3 hM, oM_n3 hM, oM_w hM, oM_b hM, oM_h hM, ok1, f1, f2, K3 hF, R3_0 hF, R3_1 hF, R3_2 hF, R3_3 hF, R3_4 hF, R3_5 hF, R3_6 hF, R3_7 hF, R3_8 hF, iv_add, iv_sub, iv_mul, iv_neg, iv_zero, iv_ltT, iv_ltF, iv_leT, iv_leF, iv_eqT, iv_eqF, iv_div, rm_iv, tn_iv, ib_iv, lc_lt, lc_le, lc_gt, lc_ge, lc_eq, iv_l, jv_add, jv_sub, jv_mul, jv_zero, if_pos, if_neg, some_cb, some_cbv, ↓nm_eq, ↓reduceIte, true_and, and_true, Bool.true_eq_false, Bool.false_eq_true, not_false_eq_true, not_true_eq_false]), s1.tr s2⟩ (fun h3 hS3 => CSm.still hS3 ?_)
    have hF3 := hS3.F
    have hqb3 := hqbA h3 hS3.Q
    simp -implicitDefEqProofs (disch := omega) only [k_X12_many_1, k_X12_many_2, F_f_X12_many, K91 hF3, hqb3, q_howMany hS3.Q hl b0 tb, iv_add, iv_sub, iv_mul, iv_neg, iv_zero, iv_ltT, iv_ltF, iv_leT, iv_leF, iv_eqT, iv_eqF, iv_div, rm_iv, tn_iv, ib_iv, lc_lt, lc_le, lc_gt, lc_ge, lc_eq, iv_l, jv_add, jv_sub, jv_mul, jv_zero, if_pos, if_neg, some_cb, some_cbv, ↓nm_eq, ↓reduceIte, true_and, and_true, Bool.true_eq_false, Bool.false_eq_true, not_false_eq_true, not_true_eq_false]
  · exact Both.still hS (r := jv (-1)) (by have hF := hS.F; exact (by simp -implicitDefEqProofs (disch := omega) only [k_X11_many_1, k_X11_many_2, k_X11_many_3, F_f_X11_many, K3 hF, c_boxAt0 hS t1 t2 hb, K3 hF, R3_0 hF, R3_1 hF, R3_2 hF, R3_3 hF, R3_4 hF, R3_5 hF, R3_6 hF, R3_7 hF, R3_8 hF, iv_add, iv_sub, iv_mul, iv_neg, iv_zero, iv_ltT, iv_ltF, iv_leT, iv_leF, iv_eqT, iv_eqF, iv_div, rm_iv, tn_iv, ib_iv, lc_lt, lc_le, lc_gt, lc_ge, lc_eq, iv_l, jv_add, jv_sub, jv_mul, jv_zero, if_pos, if_neg, some_cb, some_cbv, ↓nm_eq, ↓reduceIte, true_and, and_true, Bool.true_eq_false, Bool.false_eq_true, not_false_eq_true, not_true_eq_false])) (by have hF := hS.F; have hR := hS.R; exact (by simp -implicitDefEqProofs (disch := omega) only [k_X12_many_1, k_X12_many_2, F_f_X12_many, q_boxOf0 hS.Q t1 t2 hb, K91 hF, K92 hF, N92 hF, K93 hF, N93 hF, K94 hF, N94 hF, K95 hF, N95 hF, K96 hF, N96 hF, K97 hF, N97 hF, K98 hF, N98 hF, K99 hF, N99 hF, K100 hF, N100 hF, K101 hF, N101 hF, K102 hF, N102 hF, K103 hF, N103 hF, K104 hF, N104 hF, K105 hF, N105 hF, K106 hF, N106 hF, K107 hF, N107 hF, K108 hF, N108 hF, K109 hF, N109 hF, K110 hF, N110 hF, K111 hF, N111 hF, K112 hF, N112 hF, K113 hF, N113 hF, K114 hF, N114 hF, K115 hF, N115 hF, K116 hF, N116 hF, K117 hF, N117 hF, K118 hF, N118 hF, K119 hF, N119 hF, K120 hF, N120 hF, R91_1 hF, R91_2 hF, R91_3 hF, R91_4 hF, R91_5 hF, R91_6 hF, R91_7 hF, R91_8 hF, R91_9 hF, R91_10 hF, R91_11 hF, R91_12 hF, R91_13 hF, R91_14 hF, R91_15 hF, R91_16 hF, R91_17 hF, R91_18 hF, R91_21 hF, R91_22 hF, R91_24 hF, R91_25 hF, R91_26 hF, R91_27 hF, R91_29 hF, R91_30 hF, R91_31 hF, R91_32 hF, R91_44 hF, RR_M hR, RR_T hR, RR_K hR, RR_Bo hR, RR_Gr hR, RR_Ch hR, RR_Bx hR, RR_G hR, RR_C hR, RR_G0 hR, RR_C0 hR, RR_V hR, RR_O hR, RR_Se hR, RR_S2 hR, RR_L hR, RR_W hR, RR_H hR, RR_hSo hR, RR_hCe hR, RR_hBo hR, RR_hOt hR, RR_hMu hR, RR_Ta hR, RR_Ki hR, RR_Tr hR, RR_Is hR, RR_So hR, RR_Sz hR, RR_El hR, iv_add, iv_sub, iv_mul, iv_neg, iv_zero, iv_ltT, iv_ltF, iv_leT, iv_leF, iv_eqT, iv_eqF, iv_div, rm_iv, tn_iv, ib_iv, lc_lt, lc_le, lc_gt, lc_ge, lc_eq, iv_l, jv_add, jv_sub, jv_mul, jv_zero, if_pos, if_neg, some_cb, some_cbv, ↓nm_eq, ↓reduceIte, true_and, and_true, Bool.true_eq_false, Bool.false_eq_true, not_false_eq_true, not_true_eq_false]))
end Q
