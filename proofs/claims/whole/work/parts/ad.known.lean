/-! the class: what is prepared; whether what is due is kept; noting a row -/
section Q
variable {w : WD} {A : Int → Nat} {h hh h' : AH} {m g k : Int} {S : Int32}
noncomputable def lvs (w : WD) (m : Int) (S : Int32) : List Int := gzL w m S (wBx w m).toNat
def KS (w : WD) (A : Int → Nat) (m : Int) (S : Int32) (g k : Int) (hh : AH) : Prop := gR hh 16 10 = A m ∧ gI hh 16 11 = iv (3 * g + k) ∧ gI hh 16 12 = iv ((lvs w m S).length : Int) ∧ (∀ b : Int, 0 ≤ b → b < wBx w m → gI hh 19 b.toNat = iv (lvB w m S b)) ∧ (∀ (d r : List Int) (b : Int), lvs w m S = d ++ b :: r → gR hh 18 d.length = A (10 + (12 * m + b))) ∧ (∀ d r : List Int, lvs w m S = d ++ r → gI hh 20 d.length = iv (uLe w m S g k (wBx w m).toNat + sLe w m g k r) ∧ gI hh 21 d.length = iv (uMo w m S g k (wBx w m).toNat + sMo w m g k r)) ∧ ∀ l : Nat, l ≤ (lvs w m S).length → ∃ D : Nat, D < 256 ∧ gI hh 22 l = iv (D : Int) ∧ ∀ j : Int, 0 ≤ j → j ≤ 11 → (D.testBit j.toNat = true ↔ (j < wH w m ∧ bt S j ∧ dueN w m S j + 1 = l))
/-- tables that levels hold -/
def CTs (w : WD) (A : Int → Nat) (h hh : AH) (m : Int) (r : RoT) (d : List Int) : Prop := ∀ (d1 d2 : List Int) (b : Int), d = d1 ++ b :: d2 → CT w A h hh (24 + 4 * d1.length) m (r b)
theorem lvs_len (hW : WI w) (hl : lvM w m) : (lvs w m S).length ≤ 12 := by
  obtain ⟨-, -, ⟨b2, b3⟩, -⟩ := hW.mat hl
  have := gzL_len (w := w) (m := m) (S := S) (wBx w m).toNat
  unfold lvs
  omega
theorem lvs_mem {b : Int} (hb : b ∈ lvs w m S) : 0 ≤ b ∧ b < wBx w m ∧ gz w m S b = true := by
  obtain ⟨h1, h2, h3⟩ := (gzL_mem _ _).1 hb
  exact ⟨h1, by omega, h3⟩
theorem ct_cell {t : Nat} {T : List TR} (H : CT w A h hh t m T) (ht : Tt t) {z : Int} (z0 : 0 ≤ g) (hz : g < T.length) (k0 : 0 ≤ k) (k1 : k ≤ 2) (he : z = 3 * g + k) (z12 : z < 12) : gK hh t = 108 ∧ gR hh t 0 = t + 1 ∧ gK hh (t + 1) = 1 ∧ gN hh (t + 1) = 12 ∧ gI hh (t + 1) z.toNat = iv (tcl T g.toNat k) := by
  obtain ⟨c, gl, cl, ⟨t1, t2, t3, t4, t5, t6⟩, hH, -⟩ := H
  obtain ⟨q1, q2, q3, q4, ⟨q5, q6⟩, -⟩ := ht.ok t2.F
  refine ⟨q1, q2, q5, q6, ?_⟩
  have e := HT_cell T 0 g.toNat k hH (by omega) k0 k1
  rw [t4 z (by omega) z12, ← e]
  congr 2
  omega
set_option maxRecDepth 100000 in
theorem c_inBox (hS : Sim w A hh) (hl : lvM w m) {g0' k0' : Int} (hK : KS w A m S g0' k0' hh) {r : RoT} (hV : RoV w m S r) {d rest : List Int} (hd : lvs w m S = d ++ rest) (hC : CTs w A h hh m r d) {b : Int} (b0 : 0 ≤ b) (tb : b < wBx w m) (n : nb w m S b = true) (hlv : lvB w m S b < d.length) (g0 : 0 ≤ g) (g1 : g < wGr w m) (k0 : 0 ≤ k) (k1 : k < wCh w m) {p : Int} (hp : p = 3 * g + k) : f_X3_inBox 16 (iv b) (iv p) hh = some (iv (tcl (r b) g.toNat k), hh) := by
  have hF := hS.F
  obtain ⟨⟨gg1, gg2⟩, ⟨gc1, gc2⟩, ⟨b2, b3⟩, -⟩ := hS.W.mat hl
  have hM := hS.M hl
  have hB := hS.B hl b0 tb
  obtain ⟨s1, s2, s3, s4, s5, s6, s7⟩ := hK
  have e19 := s4 b b0 tb
  by_cases y : gz w m S b = true
  · have hb := lvB_done b0 (n := (wBx w m).toNat) (by omega) hd hlv y
    obtain ⟨d1, d2, hdd⟩ := List.append_of_mem hb
    have hd1 : d1 = gzL w m S b.toNat := gzL_split _ d1 (d2 ++ rest) b (by
      have : lvs w m S = _ := hd
      unfold lvs at this
      rw [this, hdd, List.append_assoc]; rfl)
    have hlen : lvB w m S b = (d1.length : Int) := by unfold lvB; rw [if_pos y, hd1]
    have hL := lvs_len (S := S) hS.W hl
    have hdl : d1.length < 12 := by
      rw [hd, hdd, List.length_append, List.length_append, List.length_cons] at hL; omega
    have h17 : gR hh 17 d1.length = 24 + 4 * d1.length := (hF.2.2.2.2.1 d1.length hdl).1
    have ht : Tt (24 + 4 * d1.length) := Or.inr (Or.inr ⟨d1.length, hdl, rfl⟩)
    have hlen2 := tab_len hS.W hl b0 tb (hV b b0 tb) n
    obtain ⟨q1, q2, q3, q4, q5⟩ := ct_cell (hC d1 d2 b hdd) ht (g := g) (k := k) (z := p) g0 (by omega) k0 (by omega) hp (by omega)
    rw [hlen] at e19
    simp -implicitDefEqProofs (disch := omega) only [F_f_X3_inBox, K16 hF, R16_5 hF, K19 hF, N19 hF, R16_3 hF, K17 hF, N17 hF, e19, Int.toNat_natCast, h17, q1, q2, q3, q4, q5, iv_add, iv_sub, iv_mul, iv_neg, iv_zero, iv_ltT, iv_ltF, iv_leT, iv_leF, iv_eqT, iv_eqF, iv_div, rm_iv, tn_iv, ib_iv, some_cb, some_cbv, ↓nm_eq, ↓reduceIte, true_and, and_true, Bool.true_eq_false, Bool.false_eq_true, not_false_eq_true, not_true_eq_false]
  · have o : wO w (12 * m + b) = 1 := by
      obtain ⟨-, -, -, -, -, wo, -⟩ := hS.W.box hl b0 tb
      rcases wo with o | o
      · exact absurd (gz_iff.2 ⟨n, o⟩) y
      · exact o
    have hr := hV b b0 tb
    rw [tabS_o n o, List.mem_singleton] at hr
    have hlen : lvB w m S b = -1 := by unfold lvB; rw [if_neg y]
    have hc := oB_d4 hB (p := p) (by omega) (by omega)
    rw [if_pos o] at hc
    rw [hlen] at e19
    rw [hr, tcl_seT _ g0 (by omega) k0 (by omega), ← hp]
    simp -implicitDefEqProofs (disch := omega) only [F_f_X3_inBox, K16 hF, R16_5 hF, K19 hF, N19 hF, e19, s1, oM_k hM, oM_2 hM, oM_k1 hM, oM_n1 hM, oM_b hM, oB_k hB, oB_4 hB, oB_k4 hB, oB_n4 hB, hc, iv_add, iv_sub, iv_mul, iv_neg, iv_zero, iv_ltT, iv_ltF, iv_leT, iv_leF, iv_eqT, iv_eqF, iv_div, rm_iv, tn_iv, ib_iv, some_cb, some_cbv, ↓nm_eq, ↓reduceIte, true_and, and_true, Bool.true_eq_false, Bool.false_eq_true, not_false_eq_true, not_true_eq_false]
set_option maxRecDepth 100000 in
theorem c_isKept (hS : Sim w A hh) (hl : lvM w m) (hK : KS w A m S g k hh) {r : RoT} (hV : RoV w m S r) {d rest : List Int} (hd : lvs w m S = d ++ rest) (hC : CTs w A h hh m r d) {j : Int} (j0 : 0 ≤ j) (j1 : j < wH w m) (hb : bt S j) (hdue : dueN w m S j < d.length) : (hld w (12 * m + j) r → f_X3_isKept 16 (A (60 + (12 * m + j))) hh = some (iv 1, hh)) ∧ (¬ hld w (12 * m + j) r → f_X3_isKept 16 (A (60 + (12 * m + j))) hh = some (iv 0, hh)) := by
  have hW := hS.W
  have hF := hS.F
  obtain ⟨⟨gg1, gg2⟩, ⟨gc1, gc2⟩, ⟨b2, b3⟩, ⟨hh1, hh2⟩, -, hH⟩ := hW.mat hl
  obtain ⟨⟨s0, s1⟩, ⟨c0, cg, ck⟩, ⟨bb0, bb1⟩, ⟨o0, o1⟩, ⟨u0, u1⟩, ot⟩ := hH j j0 j1
  obtain ⟨n1, n2⟩ := nmB_of hl hW j0 j1 hb
  obtain ⟨p1, p2, p3, p4, p5, p6⟩ := hS.H hl j0 j1
  have dA : lvB w m S (hBo w (12 * m + j)) < d.length := by
    unfold dueN at hdue
    by_cases z : 2 ≤ hSo w (12 * m + j)
    · rw [if_pos z] at hdue; omega
    · rw [if_neg z] at hdue; exact hdue
  have e1 := c_inBox hS hl hK hV hd hC bb0 bb1 n1 dA (g := hCe w (12 * m + j) / 10) (k := hCe w (12 * m + j) % 10) (by omega) cg (by omega) ck (p := hCe w (12 * m + j) / 10 * 3 + hCe w (12 * m + j) % 10) (by omega)
  obtain ⟨a0, a1⟩ := tab_cell hW hl bb0 bb1 (hV _ bb0 bb1) n1 (g := hCe w (12 * m + j) / 10) (k := hCe w (12 * m + j) % 10) (by omega) cg (by omega) (by omega)
  have eA : hldA w (12 * m + j) r = tcl (r (hBo w (12 * m + j))) (hCe w (12 * m + j) / 10).toNat (hCe w (12 * m + j) % 10) := rfl
  obtain ⟨a, ha⟩ : ∃ a, tcl (r (hBo w (12 * m + j))) (hCe w (12 * m + j) / 10).toNat (hCe w (12 * m + j) % 10) = a := ⟨_, rfl⟩
  rw [ha] at e1 a0 a1 eA
  obtain ⟨so, hso⟩ : ∃ so, hSo w (12 * m + j) = so := ⟨_, rfl⟩
  obtain ⟨mu, hmu⟩ : ∃ mu, hMu w (12 * m + j) = mu := ⟨_, rfl⟩
  unfold hld
  rw [eA, hso, hmu]
  rw [hmu] at u0 u1 p6
  by_cases z : 2 ≤ hSo w (12 * m + j)
  · obtain ⟨o2, o3⟩ := ot z
    have dB : lvB w m S (hOt w (12 * m + j)) < d.length := by
      unfold dueN at hdue
      rw [if_pos z] at hdue; omega
    have e2 := c_inBox hS hl hK hV hd hC o0 o2 (n2 z) dB (g := hCe w (12 * m + j) / 10) (k := hCe w (12 * m + j) % 10) (by omega) cg (by omega) ck (p := hCe w (12 * m + j) / 10 * 3 + hCe w (12 * m + j) % 10) (by omega)
    obtain ⟨a2, a3⟩ := tab_cell hW hl o0 o2 (hV _ o0 o2) (n2 z) (g := hCe w (12 * m + j) / 10) (k := hCe w (12 * m + j) % 10) (by omega) cg (by omega) (by omega)
    have eB : hldB w (12 * m + j) r = tcl (r (hOt w (12 * m + j))) (hCe w (12 * m + j) / 10).toNat (hCe w (12 * m + j) % 10) := rfl
    obtain ⟨b, hb'⟩ : ∃ b, tcl (r (hOt w (12 * m + j))) (hCe w (12 * m + j) / 10).toNat (hCe w (12 * m + j) % 10) = b := ⟨_, rfl⟩
    rw [hb'] at e2 a2 a3 eB
    rw [eB]
    rw [hso] at z s1 p2
    rcases (show so = 2 ∨ so = 3 by omega) with q | q
    · subst q
      by_cases y0 : 0 ≤ a - b
      · by_cases y1 : a - b ≤ mu
        · refine ⟨fun _ => ?_, fun y => absurd (Or.inr (Or.inr ⟨by omega, y1, Or.inr (by omega)⟩)) y⟩
          simp -implicitDefEqProofs (disch := omega) only [k_X3_isKept_36_1, F_f_X3_isKept_36, k_X3_isKept_1, k_X3_isKept_2, k_X3_isKept_3, F_f_X3_isKept, F_f_X1_isOfTwo, F_f_J9_abs_0f7a4, K16 hF, p1, p2, p3, p4, p5, p6, e1, e2, zret0, zret1, iv_add, iv_sub, iv_mul, iv_neg, iv_zero, iv_ltT, iv_ltF, iv_leT, iv_leF, iv_eqT, iv_eqF, iv_div, rm_iv, tn_iv, ib_iv, some_cb, some_cbv, ↓nm_eq, ↓reduceIte, true_and, and_true, Bool.true_eq_false, Bool.false_eq_true, not_false_eq_true, not_true_eq_false]
        · refine ⟨fun y => by omega, fun _ => ?_⟩
          simp -implicitDefEqProofs (disch := omega) only [k_X3_isKept_36_1, F_f_X3_isKept_36, k_X3_isKept_1, k_X3_isKept_2, k_X3_isKept_3, F_f_X3_isKept, F_f_X1_isOfTwo, F_f_J9_abs_0f7a4, K16 hF, p1, p2, p3, p4, p5, p6, e1, e2, zret0, zret1, iv_add, iv_sub, iv_mul, iv_neg, iv_zero, iv_ltT, iv_ltF, iv_leT, iv_leF, iv_eqT, iv_eqF, iv_div, rm_iv, tn_iv, ib_iv, some_cb, some_cbv, ↓nm_eq, ↓reduceIte, true_and, and_true, Bool.true_eq_false, Bool.false_eq_true, not_false_eq_true, not_true_eq_false]
      · by_cases y1 : b - a ≤ mu
        · refine ⟨fun _ => ?_, fun y => absurd (Or.inr (Or.inr ⟨by omega, by omega, Or.inr y1⟩)) y⟩
          simp -implicitDefEqProofs (disch := omega) only [k_X3_isKept_36_1, F_f_X3_isKept_36, k_X3_isKept_1, k_X3_isKept_2, k_X3_isKept_3, F_f_X3_isKept, F_f_X1_isOfTwo, F_f_J9_abs_0f7a4, K16 hF, p1, p2, p3, p4, p5, p6, e1, e2, zret0, zret1, iv_add, iv_sub, iv_mul, iv_neg, iv_zero, iv_ltT, iv_ltF, iv_leT, iv_leF, iv_eqT, iv_eqF, iv_div, rm_iv, tn_iv, ib_iv, some_cb, some_cbv, ↓nm_eq, ↓reduceIte, true_and, and_true, Bool.true_eq_false, Bool.false_eq_true, not_false_eq_true, not_true_eq_false]
        · refine ⟨fun y => by omega, fun _ => ?_⟩
          simp -implicitDefEqProofs (disch := omega) only [k_X3_isKept_36_1, F_f_X3_isKept_36, k_X3_isKept_1, k_X3_isKept_2, k_X3_isKept_3, F_f_X3_isKept, F_f_X1_isOfTwo, F_f_J9_abs_0f7a4, K16 hF, p1, p2, p3, p4, p5, p6, e1, e2, zret0, zret1, iv_add, iv_sub, iv_mul, iv_neg, iv_zero, iv_ltT, iv_ltF, iv_leT, iv_leF, iv_eqT, iv_eqF, iv_div, rm_iv, tn_iv, ib_iv, some_cb, some_cbv, ↓nm_eq, ↓reduceIte, true_and, and_true, Bool.true_eq_false, Bool.false_eq_true, not_false_eq_true, not_true_eq_false]
    · subst q
      by_cases y1 : a - b ≤ mu
      · refine ⟨fun _ => ?_, fun y => absurd (Or.inr (Or.inr ⟨by omega, y1, Or.inl rfl⟩)) y⟩
        simp -implicitDefEqProofs (disch := omega) only [k_X3_isKept_36_1, F_f_X3_isKept_36, k_X3_isKept_1, k_X3_isKept_2, k_X3_isKept_3, F_f_X3_isKept, F_f_X1_isOfTwo, K16 hF, p1, p2, p3, p4, p5, p6, e1, e2, zret0, zret1, iv_add, iv_sub, iv_mul, iv_neg, iv_zero, iv_ltT, iv_ltF, iv_leT, iv_leF, iv_eqT, iv_eqF, iv_div, rm_iv, tn_iv, ib_iv, some_cb, some_cbv, ↓nm_eq, ↓reduceIte, true_and, and_true, Bool.true_eq_false, Bool.false_eq_true, not_false_eq_true, not_true_eq_false]
      · refine ⟨fun y => by omega, fun _ => ?_⟩
        simp -implicitDefEqProofs (disch := omega) only [k_X3_isKept_36_1, F_f_X3_isKept_36, k_X3_isKept_1, k_X3_isKept_2, k_X3_isKept_3, F_f_X3_isKept, F_f_X1_isOfTwo, K16 hF, p1, p2, p3, p4, p5, p6, e1, e2, zret0, zret1, iv_add, iv_sub, iv_mul, iv_neg, iv_zero, iv_ltT, iv_ltF, iv_leT, iv_leF, iv_eqT, iv_eqF, iv_div, rm_iv, tn_iv, ib_iv, some_cb, some_cbv, ↓nm_eq, ↓reduceIte, true_and, and_true, Bool.true_eq_false, Bool.false_eq_true, not_false_eq_true, not_true_eq_false]
  · rw [hso] at z s0 p2
    rcases (show so = 0 ∨ so = 1 by omega) with q | q
    · subst q
      by_cases y1 : a ≤ mu
      · refine ⟨fun _ => ?_, fun y => absurd (Or.inl ⟨rfl, y1⟩) y⟩
        simp -implicitDefEqProofs (disch := omega) only [k_X3_isKept_36_1, F_f_X3_isKept_36, k_X3_isKept_1, k_X3_isKept_2, k_X3_isKept_3, F_f_X3_isKept, F_f_X1_isOfTwo, K16 hF, p1, p2, p3, p4, p5, p6, e1, zret0, zret1, iv_add, iv_sub, iv_mul, iv_neg, iv_zero, iv_ltT, iv_ltF, iv_leT, iv_leF, iv_eqT, iv_eqF, iv_div, rm_iv, tn_iv, ib_iv, some_cb, some_cbv, ↓nm_eq, ↓reduceIte, true_and, and_true, Bool.true_eq_false, Bool.false_eq_true, not_false_eq_true, not_true_eq_false]
      · refine ⟨fun y => by omega, fun _ => ?_⟩
        simp -implicitDefEqProofs (disch := omega) only [k_X3_isKept_36_1, F_f_X3_isKept_36, k_X3_isKept_1, k_X3_isKept_2, k_X3_isKept_3, F_f_X3_isKept, F_f_X1_isOfTwo, K16 hF, p1, p2, p3, p4, p5, p6, e1, zret0, zret1, iv_add, iv_sub, iv_mul, iv_neg, iv_zero, iv_ltT, iv_ltF, iv_leT, iv_leF, iv_eqT, iv_eqF, iv_div, rm_iv, tn_iv, ib_iv, some_cb, some_cbv, ↓nm_eq, ↓reduceIte, true_and, and_true, Bool.true_eq_false, Bool.false_eq_true, not_false_eq_true, not_true_eq_false]
    · subst q
      by_cases y1 : mu ≤ a
      · refine ⟨fun _ => ?_, fun y => absurd (Or.inr (Or.inl ⟨rfl, y1⟩)) y⟩
        simp -implicitDefEqProofs (disch := omega) only [k_X3_isKept_36_1, F_f_X3_isKept_36, k_X3_isKept_1, k_X3_isKept_2, k_X3_isKept_3, F_f_X3_isKept, F_f_X1_isOfTwo, K16 hF, p1, p2, p3, p4, p5, p6, e1, zret0, zret1, iv_add, iv_sub, iv_mul, iv_neg, iv_zero, iv_ltT, iv_ltF, iv_leT, iv_leF, iv_eqT, iv_eqF, iv_div, rm_iv, tn_iv, ib_iv, some_cb, some_cbv, ↓nm_eq, ↓reduceIte, true_and, and_true, Bool.true_eq_false, Bool.false_eq_true, not_false_eq_true, not_true_eq_false]
      · refine ⟨fun y => by omega, fun _ => ?_⟩
        simp -implicitDefEqProofs (disch := omega) only [k_X3_isKept_36_1, F_f_X3_isKept_36, k_X3_isKept_1, k_X3_isKept_2, k_X3_isKept_3, F_f_X3_isKept, F_f_X1_isOfTwo, K16 hF, p1, p2, p3, p4, p5, p6, e1, zret0, zret1, iv_add, iv_sub, iv_mul, iv_neg, iv_zero, iv_ltT, iv_ltF, iv_leT, iv_leF, iv_eqT, iv_eqF, iv_div, rm_iv, tn_iv, ib_iv, some_cb, some_cbv, ↓nm_eq, ↓reduceIte, true_and, and_true, Bool.true_eq_false, Bool.false_eq_true, not_false_eq_true, not_true_eq_false]
set_option maxRecDepth 100000 in
theorem c_allKept (hS : Sim w A hh) (hl : lvM w m) (hK : KS w A m S g k hh) {r : RoT} (hV : RoV w m S r) {d rest : List Int} (hd : lvs w m S = d ++ rest) (hC : CTs w A h hh m r d) : ((∀ j : Int, 0 ≤ j → j < wH w m → bt S j → dueN w m S j + 1 = d.length → hld w (12 * m + j) r) → f_X3_allKept 16 (iv d.length) hh = some (iv 1, hh)) ∧ (¬ (∀ j : Int, 0 ≤ j → j < wH w m → bt S j → dueN w m S j + 1 = d.length → hld w (12 * m + j) r) → f_X3_allKept 16 (iv d.length) hh = some (iv 0, hh)) := by
  have hF := hS.F
  have hM := hS.M hl
  obtain ⟨-, -, -, ⟨hh1, hh2⟩, -⟩ := hS.W.mat hl
  have hL := lvs_len (S := S) hS.W hl
  have hdl : d.length ≤ (lvs w m S).length := by rw [hd, List.length_append]; omega
  obtain ⟨D, D1, D2, D3⟩ := hK.2.2.2.2.2.2 d.length hdl
  have s1 := hK.1
  have l : ∀ (n E L : Nat), E ≤ n → n < L → E < 256 → (∀ j : Int, 0 ≤ j → j ≤ 11 → E.testBit j.toNat = true → D.testBit j.toNat = true) → ((∀ j : Int, 0 ≤ j → j ≤ 11 → E.testBit j.toNat = true → hld w (12 * m + j) r) → lp b_X3_allKept_7 (fun _ _ _ => none) L 16 (iv (E : Int)) hh = some (iv 1, hh)) ∧ (¬ (∀ j : Int, 0 ≤ j → j ≤ 11 → E.testBit j.toNat = true → hld w (12 * m + j) r) → lp b_X3_allKept_7 (fun _ _ _ => none) L 16 (iv (E : Int)) hh = some (iv 0, hh)) := by
    intro n
    induction n with
    | zero =>
      intro E L hE hn hE2 hED
      obtain ⟨L, rfl⟩ : ∃ L', L = L' + 1 := ⟨L - 1, by omega⟩
      have : E = 0 := by omega
      subst this
      refine ⟨fun _ => ?_, fun y => absurd (fun j _ _ hj => by rw [Nat.zero_testBit] at hj; exact absurd hj (by decide)) y⟩
      simp -implicitDefEqProofs (disch := omega) only [lp_succ, F_b_X3_allKept_7, zret1, iv_add, iv_sub, iv_mul, iv_neg, iv_zero, iv_ltT, iv_ltF, iv_leT, iv_leF, iv_eqT, iv_eqF, iv_div, rm_iv, tn_iv, ib_iv, some_cb, some_cbv, ↓nm_eq, ↓reduceIte, true_and, and_true, Bool.true_eq_false, Bool.false_eq_true, not_false_eq_true, not_true_eq_false]
    | succ n ih =>
      intro E L hE hn hE2 hED
      obtain ⟨L, rfl⟩ : ∃ L', L = L' + 1 := ⟨L - 1, by omega⟩
      rcases B1 ⟨E, hE2⟩ with z | ⟨z1, z2, z3, z4, z5, z6⟩
      · have z : E = 0 := z
        subst z
        refine ⟨fun _ => ?_, fun y => absurd (fun j _ _ hj => by rw [Nat.zero_testBit] at hj; exact absurd hj (by decide)) y⟩
        simp -implicitDefEqProofs (disch := omega) only [lp_succ, F_b_X3_allKept_7, zret1, iv_add, iv_sub, iv_mul, iv_neg, iv_zero, iv_ltT, iv_ltF, iv_leT, iv_leF, iv_eqT, iv_eqF, iv_div, rm_iv, tn_iv, ib_iv, some_cb, some_cbv, ↓nm_eq, ↓reduceIte, true_and, and_true, Bool.true_eq_false, Bool.false_eq_true, not_false_eq_true, not_true_eq_false]
      · dsimp only at z1 z2 z3 z4 z5 z6
        obtain ⟨t, ht⟩ : ∃ t, tzN E = t := ⟨_, rfl⟩
        rw [ht] at z1 z2 z3 z6
        have hDt := hED t (by omega) (by omega) (by rw [Int.toNat_natCast]; exact z3)
        obtain ⟨u1, u2, u3⟩ := (D3 t (by omega) (by omega)).1 hDt
        obtain ⟨k1, k2⟩ := c_isKept hS hl hK hV hd hC (j := t) (by omega) u1 u2 (by omega)
        have z6' : ∀ j : Int, 0 ≤ j → j ≤ 11 → ((E &&& (E - 1)).testBit j.toNat = true ↔ E.testBit j.toNat = true ∧ j ≠ t) := fun j j0 j1 => by
          have := z6 ⟨j.toNat, by omega⟩
          dsimp only at this
          rw [this, Bool.and_eq_true, decide_eq_true_iff]
          constructor
          · rintro ⟨q1, q2⟩; exact ⟨q1, by omega⟩
          · rintro ⟨q1, q2⟩; exact ⟨q1, by omega⟩
        obtain ⟨i1, i2⟩ := ih (E &&& (E - 1)) L (by omega) (by omega) (by omega) (fun j j0 j1 hj => hED j j0 j1 ((z6' j j0 j1).1 hj).1)
        have hz : (E : Int) ≠ 0 := by
          intro e
          have : E = 0 := by omega
          subst this
          rw [Nat.zero_testBit] at z3
          exact absurd z3 (by decide)
        have rt := oM_h hM (k := t) (by omega) u1
        rw [Int.toNat_natCast] at rt
        by_cases y : hld w (12 * m + t) r
        · have k1 := k1 y
          have ext : (∀ j : Int, 0 ≤ j → j ≤ 11 → E.testBit j.toNat = true → hld w (12 * m + j) r) ↔ (∀ j : Int, 0 ≤ j → j ≤ 11 → (E &&& (E - 1)).testBit j.toNat = true → hld w (12 * m + j) r) := ⟨fun q j j0 j1 hj => q j j0 j1 ((z6' j j0 j1).1 hj).1, fun q j j0 j1 hj => by
            by_cases e : j = t
            · rw [e]; exact y
            · exact q j j0 j1 ((z6' j j0 j1).2 ⟨hj, e⟩)⟩
          rw [ext]
          refine ⟨fun q => ?_, fun q => ?_⟩
          · rw [← i1 q, ← z4]
            simp -implicitDefEqProofs (disch := omega) only [lp_succ, F_b_X3_allKept_7, k_X3_allKept_7_1, k_X3_allKept_7_2, ntz_eq, z1, K16 hF, s1, oM_k hM, oM_3 hM, oM_k2 hM, oM_n2 hM, rt, Int.toNat_natCast, k1, iv_add, iv_sub, iv_mul, iv_neg, iv_zero, iv_ltT, iv_ltF, iv_leT, iv_leF, iv_eqT, iv_eqF, iv_div, rm_iv, tn_iv, ib_iv, some_cb, some_cbv, ↓nm_eq, ↓reduceIte, true_and, and_true, Bool.true_eq_false, Bool.false_eq_true, not_false_eq_true, not_true_eq_false]
          · rw [← i2 q, ← z4]
            simp -implicitDefEqProofs (disch := omega) only [lp_succ, F_b_X3_allKept_7, k_X3_allKept_7_1, k_X3_allKept_7_2, ntz_eq, z1, K16 hF, s1, oM_k hM, oM_3 hM, oM_k2 hM, oM_n2 hM, rt, Int.toNat_natCast, k1, iv_add, iv_sub, iv_mul, iv_neg, iv_zero, iv_ltT, iv_ltF, iv_leT, iv_leF, iv_eqT, iv_eqF, iv_div, rm_iv, tn_iv, ib_iv, some_cb, some_cbv, ↓nm_eq, ↓reduceIte, true_and, and_true, Bool.true_eq_false, Bool.false_eq_true, not_false_eq_true, not_true_eq_false]
        · have k2 := k2 y
          refine ⟨fun q => absurd (q t (by omega) (by omega) (by rw [Int.toNat_natCast]; exact z3)) y, fun _ => ?_⟩
          simp -implicitDefEqProofs (disch := omega) only [lp_succ, F_b_X3_allKept_7, k_X3_allKept_7_1, k_X3_allKept_7_2, ntz_eq, z1, K16 hF, s1, oM_k hM, oM_3 hM, oM_k2 hM, oM_n2 hM, rt, Int.toNat_natCast, k2, zret0, iv_add, iv_sub, iv_mul, iv_neg, iv_zero, iv_ltT, iv_ltF, iv_leT, iv_leF, iv_eqT, iv_eqF, iv_div, rm_iv, tn_iv, ib_iv, some_cb, some_cbv, ↓nm_eq, ↓reduceIte, true_and, and_true, Bool.true_eq_false, Bool.false_eq_true, not_false_eq_true, not_true_eq_false]
  obtain ⟨l1, l2⟩ := l D D FU (Nat.le_refl _) (FU_gt (by omega)) D1 (fun _ _ _ => id)
  have ext : (∀ j : Int, 0 ≤ j → j < wH w m → bt S j → dueN w m S j + 1 = d.length → hld w (12 * m + j) r) ↔ (∀ j : Int, 0 ≤ j → j ≤ 11 → D.testBit j.toNat = true → hld w (12 * m + j) r) := ⟨fun q j j0 j1 hj => by
    obtain ⟨y1, y2, y3⟩ := (D3 j j0 j1).1 hj
    exact q j j0 y1 y2 y3, fun q j j0 j1 j2 j3 => q j j0 (by omega) ((D3 j j0 (by omega)).2 ⟨j1, j2, j3⟩)⟩
  have e0 : ∀ x, lp b_X3_allKept_7 (fun _ _ _ => none) FU 16 (iv (D : Int)) hh = x → f_X3_allKept 16 (iv d.length) hh = x := fun x hx => by
    rw [← hx]
    simp -implicitDefEqProofs (disch := omega) only [F_f_X3_allKept, f_X3_allKept_7, K16 hF, R16_8 hF, K22 hF, N22 hF, Int.toNat_natCast, D2, iv_add, iv_sub, iv_mul, iv_neg, iv_zero, iv_ltT, iv_ltF, iv_leT, iv_leF, iv_eqT, iv_eqF, iv_div, rm_iv, tn_iv, ib_iv, some_cb, some_cbv, ↓nm_eq, ↓reduceIte, true_and, and_true, Bool.true_eq_false, Bool.false_eq_true, not_false_eq_true, not_true_eq_false]
  rw [ext]
  exact ⟨fun q => e0 _ (l1 q), fun q => e0 _ (l2 q)⟩
end Q
