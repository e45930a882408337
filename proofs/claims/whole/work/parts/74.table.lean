section Q
variable {w : WD} {A : Int → Nat} {h hh : AH} {t : Nat}
theorem rwL_len (w : WD) (x : Int) : ∀ (n : Nat) (g : Int), (rwL w x g n).length = n := by
  intro n
  induction n with
  | zero => intro g; rfl
  | succ n ih => intro g; show (rwL w x (g + 1) n).length + 1 = _; rw [ih]
set_option maxRecDepth 100000 in
theorem c_goTo (hS : Sim w A h) (hc : Sc w A h hh) (ht : Tt t) {m b i : Int} (hl : lvM w m) (b0 : 0 ≤ b) (tb : b < wBx w m) (i0 : 0 ≤ i) (i1 : i < cnX w m (12 * m + b)) : ∃ (h' : AH) (c : Int → Int) (T : List TR), f_X8_goTo t (A (10 + (12 * m + b))) (jv i) hh = some h' ∧ Sc w A h h' ∧ Fr t hh h' ∧ Rw h' (t + 1) 12 c ∧ (bTb w m (12 * m + b))[i.toNat]? = some T ∧ HT c 0 T := by
  obtain ⟨⟨gg1, gg2⟩, ⟨gc1, gc2⟩, -⟩ := hS.W.mat hl
  obtain ⟨h1, c1, f1, f2, f3, f4⟩ := c_empty hS hc ht hl b0 tb
  obtain ⟨e1, e2, e3, e4, e5, e6, -⟩ := box_all hS.W hl b0 tb
  obtain ⟨r1, r2⟩ := cnX_rng hS.W hl b0 tb
  have hV := hS.W.box hl b0 tb
  have hG : ∀ (n : Nat) (g : Int), 0 ≤ g → g + n ≤ wGr w m → GL (fun g => wP w m (12 * m + b) g) g (rwL w (12 * m + b) g n) := by
    intro n
    induction n with
    | zero => intro g _ _; exact trivial
    | succ n ih => intro g g0 g1; exact ⟨if_pos (by omega), ih (g + 1) (by omega) (by omega)⟩
  have hA : AtG (fun g => wP w m (12 * m + b) g) (fun k => wC w (12 * m + b) k) 0 (rwL w (12 * m + b) 0 (wGr w m).toNat) (wC w (12 * m + b) 0) (wC w (12 * m + b) 1) (wC w (12 * m + b) 2) := by
    refine ⟨fun i i0 i1 => by omega, hG _ 0 (by omega) (by omega), fun i i0 i1 => ?_, rfl, rfl, rfl, fun i i0 i1 => ?_, fun i i0 i1 => ?_, ?_⟩
    · rw [rwL_len] at i0
      exact if_neg (by omega)
    · have := oB_v hV i0 i1
      show 0 ≤ wP w m (12 * m + b) i ∧ wP w m (12 * m + b) i ≤ 300
      omega
    · have := oB_c hV i0 i1
      show 0 ≤ wC w (12 * m + b) i ∧ wC w (12 * m + b) i ≤ 300
      omega
    · have v1 := hV.2.2.2.1
      have v2 := hV.2.2.2.2.1
      show wP w m (12 * m + b) 0 + wP w m (12 * m + b) 1 + wP w m (12 * m + b) 2 + wP w m (12 * m + b) 3 = wC w (12 * m + b) 0 + wC w (12 * m + b) 1 + wC w (12 * m + b) 2
      omega
  obtain ⟨h2, g1, c', gl', cl', T, g2, g3, g4, g5, -⟩ := c_goRows ht hl b0 tb hS.W rfl (wGr w m).toNat FU (FU_gt (by omega)) h1 c1 _ _ 0 _ _ _ i f2 (by omega) (by omega) hA i0 (by rw [show cn (rwL w (12 * m + b) 0 (wGr w m).toNat) (wC w (12 * m + b) 0) (wC w (12 * m + b) 1) (wC w (12 * m + b) 2) = cnX w m (12 * m + b) from e6]; exact i1) (by rw [show cn (rwL w (12 * m + b) 0 (wGr w m).toNat) (wC w (12 * m + b) 0) (wC w (12 * m + b) 1) (wC w (12 * m + b) 2) = cnX w m (12 * m + b) from e6]; exact r2) hV.2.2.1 f4
  rw [Int.mul_zero] at g1 g5
  refine ⟨h2, c', T, ?_, g2.1, f3.tr g3, g2.2.2.2.1, g4, g5⟩
  obtain ⟨q1, -⟩ := ht.ok (hS.sc hc).F
  simp -implicitDefEqProofs (disch := omega) only [F_f_X8_goTo, k_X8_goTo_84_1, k_X8_goTo_48_1, k_X8_goTo_48_2, k_X8_goTo_11_1, k_X8_goTo_1, f_X8_goTo_11, q1, f1, g1, iv_add, iv_sub, iv_mul, iv_neg, iv_zero, iv_ltT, iv_ltF, iv_leT, iv_leF, iv_eqT, iv_eqF, iv_div, rm_iv, tn_iv, ib_iv, some_cb, some_cbv, ↓nm_eq, ↓reduceIte, true_and, and_true, Bool.true_eq_false, Bool.false_eq_true, not_false_eq_true, not_true_eq_false]
/-- a cell of the table with a number -/
theorem tcl_rng {rs : List Int} {a b c : Int} {T : List TR} (hT : TOk rs a b c T) : ∀ (g : Nat) (k : Int), 0 ≤ tcl T g k ∧ tcl T g k ≤ a + b + c := by
  induction rs generalizing a b c T with
  | nil =>
    obtain ⟨e, e1, e2, e3⟩ := hT
    subst e
    intro g k
    show 0 ≤ (0 : Int) ∧ (0 : Int) ≤ _
    omega
  | cons r rs ih =>
    cases T with
    | nil => exact hT.elim
    | cons e T =>
      obtain ⟨p, q, s⟩ := e
      obtain ⟨h1, h2, h3, h4, h5⟩ := hT
      obtain ⟨k1, k2, k3, -⟩ := TOk_rng _ _ _ _ _ h5
      intro g k
      cases g with
      | zero =>
        show 0 ≤ (if k = 0 then p else if k = 1 then q else s) ∧ (if k = 0 then p else if k = 1 then q else s) ≤ a + b + c
        split
        · omega
        · split <;> omega
      | succ g =>
        have := ih h5 g k
        show 0 ≤ tcl T g k ∧ tcl T g k ≤ a + b + c
        omega
set_option maxRecDepth 100000 in
theorem c_tab12 (hS : Sim w A h) {m b i g k : Int} (hl : lvM w m) (b0 : 0 ≤ b) (tb : b < wBx w m) (i0 : 0 ≤ i) (i1 : i < cnX w m (12 * m + b)) (g0 : 0 ≤ g) (cg : g < wGr w m) (k0 : 0 ≤ k) (ck : k < wCh w m) : ∃ (h' : AH) (T : List TR), f_X8_goTo 12 (A (10 + (12 * m + b))) (jv i) h = some h' ∧ Sc w A h h' ∧ (bTb w m (12 * m + b))[i.toNat]? = some T ∧ gI h' 13 (3 * g + k).toNat = iv (tcl T g.toNat k) := by
  obtain ⟨⟨gg1, gg2⟩, ⟨gc1, gc2⟩, -⟩ := hS.W.mat hl
  obtain ⟨h', c, T, f1, f2, -, f4, f5, f6⟩ := c_goTo hS (Sc.rf hS) (t := 12) (Or.inl rfl) hl b0 tb i0 i1
  have hT := bTb_ok w m (12 * m + b) (List.mem_of_getElem? f5)
  have hlen := (TOk_rng _ _ _ _ _ hT).2.2.2.2
  unfold bRw at hlen
  rw [rwL_len] at hlen
  have hc := HT_cell T 0 g.toNat k f6 (by omega) k0 (by omega)
  rw [show 0 + 3 * (g.toNat : Int) + k = 3 * g + k by omega] at hc
  refine ⟨h', T, f1, f2, f5, ?_⟩
  rw [← hc]
  exact f4 (3 * g + k) (by omega) (by omega)
set_option maxRecDepth 100000 in
theorem q_tab (hS : Sim w A h) {m b i g k cc : Int} (hl : lvM w m) (b0 : 0 ≤ b) (tb : b < wBx w m) (i0 : 0 ≤ i) (i1 : i < cnX w m (12 * m + b)) (c0 : 0 ≤ cc) (c1 : cc ≤ 2147483647) (eg : cc / 10 = g) (ek : cc % 10 = k) (cg : g < wGr w m) (ck : k < wCh w m) : ∃ (h' : AH) (T : List TR), f_X12_numbered 91 (iv (12 * m + b)) (jv i) h = some h' ∧ Sc w A h h' ∧ (bTb w m (12 * m + b))[i.toNat]? = some T ∧ gK h' 91 = 112 ∧ f_X12_nowAt 91 (iv b) (iv cc) h' = some (iv (tcl T g.toNat k), h') := by
  obtain ⟨⟨gg1, gg2⟩, ⟨gc1, gc2⟩, ⟨b2, b3⟩, -⟩ := hS.W.mat hl
  obtain ⟨h', c', T, f1, f2, f3, f4⟩ := q_numbered (NS.start hS) hl b0 tb i0 i1
  have hT := bTb_ok w m (12 * m + b) (List.mem_of_getElem? f3)
  have hlen := (TOk_rng _ _ _ _ _ hT).2.2.2.2
  unfold bRw at hlen
  rw [rwL_len] at hlen
  have hc := HT_cell T (12 * b) g.toNat k f4 (by omega) (by omega) (by omega)
  rw [show 12 * b + 3 * (g.toNat : Int) + k = 12 * b + 3 * g + k by omega] at hc
  have hn := q_nowAt f2 (b := b) (x := cc) b0 (by omega) c0 c1 eg ek (by omega) (by omega)
  rw [hc] at hn
  exact ⟨h', T, f1, f2.1, f3, K91 f2.2.1.F, hn⟩
set_option maxRecDepth 100000 in
theorem M_table (hS : Sim w A h) (x1 : Int32) (x2 : Int64) (x4 : Int32) : Both (f_X11_table 3 x1 x2 x4) (f_X12_table 91 x1 x2 x4) h := by
  obtain ⟨t, rfl, t1, t2⟩ := iv_ex x1
  obtain ⟨i, rfl, i1, i2⟩ := jv_ex x2
  obtain ⟨c, rfl, c1, c2⟩ := iv_ex x4
  have hF := hS.F
  have hR := hS.R
  by_cases hb : isB w t
  · obtain ⟨t0, hl, tb⟩ := hb; obtain ⟨m, hm⟩ : ∃ m, t / 100 = m := ⟨_, rfl⟩; obtain ⟨b, hbb⟩ : ∃ b, t % 100 = b := ⟨_, rfl⟩; rw [hm] at hl tb; rw [hbb] at tb; have b0 : 0 ≤ b := (by omega); obtain ⟨⟨x0, x1⟩, v0, v1⟩ := box_ran hS.W hl b0 tb; obtain ⟨⟨w1, w2⟩, -⟩ := hS.W; obtain ⟨⟨gg1, gg2⟩, ⟨gc1, gc2⟩, ⟨b2, b3⟩, ⟨hh1, hh2⟩, -⟩ := hS.W.mat hl; have hx : iv (12 * m + b) / iv 12 = iv m := (by rw [iv_div (by omega) (by omega) (by omega) (by omega)]; congr 1; omega); have hxm : rmI (iv (12 * m + b)) (iv 12) = iv b := (by rw [rm_iv (by omega) (by omega) (by omega) (by omega)]; congr 1; omega); have hcb := c_boxAt1 hS t2 t0 hm hbb hl tb; have hqb := q_boxOf1 hS.Q t2 t0 hm hbb hl tb; have hqbA := fun (h1 : AH) (q : QS w h1) => q_boxOf1 q t2 t0 hm hbb hl tb; have hcbA := fun (h1 : AH) (q : Sim w A h1) => c_boxAt1 q t2 t0 hm hbb hl tb; have hbA := eq_false (hS.bA hl b0 tb); have hB := hS.B hl b0 tb; have hM := hS.M hl; have hV := hS.W.box hl b0 tb; clear t0 t1 t2 hm hbb
    by_cases hc : isC w m c
    · obtain ⟨cc0, cg, ck⟩ := hc; obtain ⟨g, hg⟩ : ∃ g, c / 10 = g := ⟨_, rfl⟩; obtain ⟨k, hk⟩ : ∃ k, c % 10 = k := ⟨_, rfl⟩; rw [hg] at cg; rw [hk] at ck; have g0 : 0 ≤ g := (by omega); have k0 : 0 ≤ k := (by omega)
      obtain ⟨r1, r2⟩ := cnX_rng hS.W hl b0 tb
      have hcp := c_placeIn1 hS c2 hl b0 tb cc0 hg hk cg ck
      obtain ⟨h1, f1, s1⟩ := c_howMany hS hl b0 tb
      have hS1 := hS.sc s1
      have ok1 := oB_k (hS1.B hl b0 tb)
      have hqc3 := fun (h3 : AH) (q : QS w h3) => q_isCell1 q c2 hl cc0 hg hk cg ck
      by_cases z1 : i < 0
      · exact Both.scr hS (r := iv (-1)) ⟨h1, (by simp -implicitDefEqProofs (disch := omega) only [k_X11_table_1, k_X11_table_2, k_X11_table_3, k_X11_table_4, k_X11_table_5, F_f_X11_table, K3 hF, hcb, hbA, oB_k hB, oB_0 hB, oB_1 hB, oB_2 hB, oB_3 hB, oB_4 hB, oB_k1 hB, oB_n1 hB, oB_k2 hB, oB_n2 hB, oB_k3 hB, oB_n3 hB, oB_k4 hB, oB_n4 hB, oB_5 hB, oB_6 hB, oB_7 hB, oB_d1 hB, oB_d2 hB, wP_lt, oM_k hM, oM_0 hM, oM_1 hM, oM_5 hM, oM_6 hM, oM_2 hM, oM_3 hM, oM_4 hM, oM_k1 hM, oM_n1 hM, oM_k2 hM, oM_n2 hM, oM_k3 hM, oM_n3 hM, oM_w hM, oM_b hM, oM_h hM, hcp, f1, K3 hF, R3_0 hF, R3_1 hF, R3_2 hF, R3_3 hF, R3_4 hF, R3_5 hF, R3_6 hF, R3_7 hF, R3_8 hF, iv_add, iv_sub, iv_mul, iv_neg, iv_zero, iv_ltT, iv_ltF, iv_leT, iv_leF, iv_eqT, iv_eqF, iv_div, rm_iv, tn_iv, ib_iv, lc_lt, lc_le, lc_gt, lc_ge, lc_eq, iv_l, jv_add, jv_sub, jv_mul, jv_zero, if_pos, if_neg, some_cb, some_cbv, ↓nm_eq, ↓reduceIte, true_and, and_true, Bool.true_eq_false, Bool.false_eq_true, not_false_eq_true, not_true_eq_false]), s1⟩ (fun h3 hS3 => CSm.still hS3 (by
          have hF3 := hS3.F
          have hqb3 := hqbA h3 hS3.Q
          simp -implicitDefEqProofs (disch := omega) only [k_X12_table_1, k_X12_table_2, k_X12_table_3, k_X12_table_4, k_X12_table_5, F_f_X12_table, K91 hF3, hqb3, hx, hqc3 h3 hS3.Q, iv_add, iv_sub, iv_mul, iv_neg, iv_zero, iv_ltT, iv_ltF, iv_leT, iv_leF, iv_eqT, iv_eqF, iv_div, rm_iv, tn_iv, ib_iv, lc_lt, lc_le, lc_gt, lc_ge, lc_eq, iv_l, jv_add, jv_sub, jv_mul, jv_zero, if_pos, if_neg, some_cb, some_cbv, ↓nm_eq, ↓reduceIte, true_and, and_true, Bool.true_eq_false, Bool.false_eq_true, not_false_eq_true, not_true_eq_false]))
      obtain ⟨h2, f2, s2⟩ := c_howMany hS1 hl b0 tb
      have hS2 := hS1.sc s2
      by_cases z2 : cnX w m (12 * m + b) ≤ i
      · exact Both.scr hS (r := iv (-1)) ⟨h2, (by simp -implicitDefEqProofs (disch := omega) only [k_X11_table_1, k_X11_table_2, k_X11_table_3, k_X11_table_4, k_X11_table_5, F_f_X11_table, K3 hF, hcb, hbA, oB_k hB, oB_0 hB, oB_1 hB, oB_2 hB, oB_3 hB, oB_4 hB, oB_k1 hB, oB_n1 hB, oB_k2 hB, oB_n2 hB, oB_k3 hB, oB_n3 hB, oB_k4 hB, oB_n4 hB, oB_5 hB, oB_6 hB, oB_7 hB, oB_d1 hB, oB_d2 hB, wP_lt, oM_k hM, oM_0 hM, oM_1 hM, oM_5 hM, oM_6 hM, oM_2 hM, oM_3 hM, oM_4 hM, oM_k1 hM, oM_n1 hM, oM_k2 hM, oM_n2 hM, oM_k3 hM, oM_n3 hM, oM_w hM, oM_b hM, oM_h hM, hcp, f1, ok1, f2, K3 hF, R3_0 hF, R3_1 hF, R3_2 hF, R3_3 hF, R3_4 hF, R3_5 hF, R3_6 hF, R3_7 hF, R3_8 hF, iv_add, iv_sub, iv_mul, iv_neg, iv_zero, iv_ltT, iv_ltF, iv_leT, iv_leF, iv_eqT, iv_eqF, iv_div, rm_iv, tn_iv, ib_iv, lc_lt, lc_le, lc_gt, lc_ge, lc_eq, iv_l, jv_add, jv_sub, jv_mul, jv_zero, if_pos, if_neg, some_cb, some_cbv, ↓nm_eq, ↓reduceIte, true_and, and_true, Bool.true_eq_false, Bool.false_eq_true, not_false_eq_true, not_true_eq_false]), s1.tr s2⟩ (fun h3 hS3 => CSm.still hS3 (by
          have hF3 := hS3.F
          have hqb3 := hqbA h3 hS3.Q
          simp -implicitDefEqProofs (disch := omega) only [k_X12_table_1, k_X12_table_2, k_X12_table_3, k_X12_table_4, k_X12_table_5, F_f_X12_table, K91 hF3, hqb3, hx, hqc3 h3 hS3.Q, q_howMany hS3.Q hl b0 tb, iv_add, iv_sub, iv_mul, iv_neg, iv_zero, iv_ltT, iv_ltF, iv_leT, iv_leF, iv_eqT, iv_eqF, iv_div, rm_iv, tn_iv, ib_iv, lc_lt, lc_le, lc_gt, lc_ge, lc_eq, iv_l, jv_add, jv_sub, jv_mul, jv_zero, if_pos, if_neg, some_cb, some_cbv, ↓nm_eq, ↓reduceIte, true_and, and_true, Bool.true_eq_false, Bool.false_eq_true, not_false_eq_true, not_true_eq_false]))
      obtain ⟨h3, T, f3, s3, e3, v3⟩ := c_tab12 hS2 hl b0 tb (i := i) (by omega) (by omega) g0 cg k0 ck
      have hF2 := hS2.F
      have hS3 := hS2.sc s3
      have hF3 := hS3.F
      obtain ⟨p1, p2, -, -, ⟨p5, p6⟩, -⟩ := (show Tt 12 from Or.inl rfl).ok hF2
      obtain ⟨p1', p2', -, -, ⟨p5', p6'⟩, -⟩ := (show Tt 12 from Or.inl rfl).ok hF3
      refine Both.scr hS (r := iv (tcl T g.toNat k)) ⟨h3, ?_, (s1.tr s2).tr s3⟩ (fun h4 hS4 => ?_)
      · simp -implicitDefEqProofs (disch := omega) only [k_X11_table_1, k_X11_table_2, k_X11_table_3, k_X11_table_4, k_X11_table_5, F_f_X11_table, K3 hF, K3 hF2, K3 hF3, R3_5 hF2, R3_5 hF3, hcb, hbA, oB_k hB, oB_0 hB, oB_1 hB, oB_2 hB, oB_3 hB, oB_4 hB, oB_k1 hB, oB_n1 hB, oB_k2 hB, oB_n2 hB, oB_k3 hB, oB_n3 hB, oB_k4 hB, oB_n4 hB, oB_5 hB, oB_6 hB, oB_7 hB, oB_d1 hB, oB_d2 hB, wP_lt, oM_k hM, oM_0 hM, oM_1 hM, oM_5 hM, oM_6 hM, oM_2 hM, oM_3 hM, oM_4 hM, oM_k1 hM, oM_n1 hM, oM_k2 hM, oM_n2 hM, oM_k3 hM, oM_n3 hM, oM_w hM, oM_b hM, oM_h hM, hcp, f1, ok1, f2, f3, p1, p1', p2', p5', p6', v3, iv_add, iv_sub, iv_mul, iv_neg, iv_zero, iv_ltT, iv_ltF, iv_leT, iv_leF, iv_eqT, iv_eqF, iv_div, rm_iv, tn_iv, ib_iv, lc_lt, lc_le, lc_gt, lc_ge, lc_eq, iv_l, jv_add, jv_sub, jv_mul, jv_zero, if_pos, if_neg, some_cb, some_cbv, ↓nm_eq, ↓reduceIte, true_and, and_true, Bool.true_eq_false, Bool.false_eq_true, not_false_eq_true, not_true_eq_false]
      · obtain ⟨h5, T5, g1, g2, g3, g4, g5⟩ := q_tab hS4 hl b0 tb (i := i) (by omega) (by omega) cc0 c2 hg hk cg ck
        rw [e3] at g3
        cases g3
        have hF4 := hS4.F
        have hqb4 := hqbA h4 hS4.Q
        exact ⟨h5, by simp -implicitDefEqProofs (disch := omega) only [k_X12_table_1, k_X12_table_2, k_X12_table_3, k_X12_table_4, k_X12_table_5, F_f_X12_table, K91 hF4, hqb4, hx, hxm, hqc3 h4 hS4.Q, q_howMany hS4.Q hl b0 tb, g1, g4, g5, iv_add, iv_sub, iv_mul, iv_neg, iv_zero, iv_ltT, iv_ltF, iv_leT, iv_leF, iv_eqT, iv_eqF, iv_div, rm_iv, tn_iv, ib_iv, lc_lt, lc_le, lc_gt, lc_ge, lc_eq, iv_l, jv_add, jv_sub, jv_mul, jv_zero, if_pos, if_neg, some_cb, some_cbv, ↓nm_eq, ↓reduceIte, true_and, and_true, Bool.true_eq_false, Bool.false_eq_true, not_false_eq_true, not_true_eq_false], g2⟩
    · exact Both.still hS (r := iv (-1)) (by simp -implicitDefEqProofs (disch := omega) only [k_X11_table_1, k_X11_table_2, k_X11_table_3, k_X11_table_4, k_X11_table_5, F_f_X11_table, K3 hF, hcb, hbA, oB_k hB, oB_0 hB, oB_1 hB, oB_2 hB, oB_3 hB, oB_4 hB, oB_k1 hB, oB_n1 hB, oB_k2 hB, oB_n2 hB, oB_k3 hB, oB_n3 hB, oB_k4 hB, oB_n4 hB, oB_5 hB, oB_6 hB, oB_7 hB, oB_d1 hB, oB_d2 hB, wP_lt, oM_k hM, oM_0 hM, oM_1 hM, oM_5 hM, oM_6 hM, oM_2 hM, oM_3 hM, oM_4 hM, oM_k1 hM, oM_n1 hM, oM_k2 hM, oM_n2 hM, oM_k3 hM, oM_n3 hM, oM_w hM, oM_b hM, oM_h hM, c_placeIn0 hS c1 c2 hl b0 tb hc, K3 hF, R3_0 hF, R3_1 hF, R3_2 hF, R3_3 hF, R3_4 hF, R3_5 hF, R3_6 hF, R3_7 hF, R3_8 hF, iv_add, iv_sub, iv_mul, iv_neg, iv_zero, iv_ltT, iv_ltF, iv_leT, iv_leF, iv_eqT, iv_eqF, iv_div, rm_iv, tn_iv, ib_iv, lc_lt, lc_le, lc_gt, lc_ge, lc_eq, iv_l, jv_add, jv_sub, jv_mul, jv_zero, if_pos, if_neg, some_cb, some_cbv, ↓nm_eq, ↓reduceIte, true_and, and_true, Bool.true_eq_false, Bool.false_eq_true, not_false_eq_true, not_true_eq_false]) (by simp -implicitDefEqProofs (disch := omega) only [k_X12_table_1, k_X12_table_2, k_X12_table_3, k_X12_table_4, k_X12_table_5, F_f_X12_table, hqb, hx, hxm, q_isCell0 hS.Q c1 c2 hl hc, K91 hF, K92 hF, N92 hF, K93 hF, N93 hF, K94 hF, N94 hF, K95 hF, N95 hF, K96 hF, N96 hF, K97 hF, N97 hF, K98 hF, N98 hF, K99 hF, N99 hF, K100 hF, N100 hF, K101 hF, N101 hF, K102 hF, N102 hF, K103 hF, N103 hF, K104 hF, N104 hF, K105 hF, N105 hF, K106 hF, N106 hF, K107 hF, N107 hF, K108 hF, N108 hF, K109 hF, N109 hF, K110 hF, N110 hF, K111 hF, N111 hF, K112 hF, N112 hF, K113 hF, N113 hF, K114 hF, N114 hF, K115 hF, N115 hF, K116 hF, N116 hF, K117 hF, N117 hF, K118 hF, N118 hF, K119 hF, N119 hF, K120 hF, N120 hF, R91_1 hF, R91_2 hF, R91_3 hF, R91_4 hF, R91_5 hF, R91_6 hF, R91_7 hF, R91_8 hF, R91_9 hF, R91_10 hF, R91_11 hF, R91_12 hF, R91_13 hF, R91_14 hF, R91_15 hF, R91_16 hF, R91_17 hF, R91_18 hF, R91_21 hF, R91_22 hF, R91_24 hF, R91_25 hF, R91_26 hF, R91_27 hF, R91_29 hF, R91_30 hF, R91_31 hF, R91_32 hF, R91_44 hF, RR_M hR, RR_T hR, RR_K hR, RR_Bo hR, RR_Gr hR, RR_Ch hR, RR_Bx hR, RR_G hR, RR_C hR, RR_G0 hR, RR_C0 hR, RR_V hR, RR_O hR, RR_Se hR, RR_S2 hR, RR_L hR, RR_W hR, RR_H hR, RR_hSo hR, RR_hCe hR, RR_hBo hR, RR_hOt hR, RR_hMu hR, RR_Ta hR, RR_Ki hR, RR_Tr hR, RR_Is hR, RR_So hR, RR_Sz hR, RR_El hR, iv_add, iv_sub, iv_mul, iv_neg, iv_zero, iv_ltT, iv_ltF, iv_leT, iv_leF, iv_eqT, iv_eqF, iv_div, rm_iv, tn_iv, ib_iv, lc_lt, lc_le, lc_gt, lc_ge, lc_eq, iv_l, jv_add, jv_sub, jv_mul, jv_zero, if_pos, if_neg, some_cb, some_cbv, ↓nm_eq, ↓reduceIte, true_and, and_true, Bool.true_eq_false, Bool.false_eq_true, not_false_eq_true, not_true_eq_false])
  · exact Both.still hS (r := iv (-1)) (by simp -implicitDefEqProofs (disch := omega) only [k_X11_table_1, k_X11_table_2, k_X11_table_3, k_X11_table_4, k_X11_table_5, F_f_X11_table, K3 hF, c_boxAt0 hS t1 t2 hb, c_placeInN, K3 hF, R3_0 hF, R3_1 hF, R3_2 hF, R3_3 hF, R3_4 hF, R3_5 hF, R3_6 hF, R3_7 hF, R3_8 hF, iv_add, iv_sub, iv_mul, iv_neg, iv_zero, iv_ltT, iv_ltF, iv_leT, iv_leF, iv_eqT, iv_eqF, iv_div, rm_iv, tn_iv, ib_iv, lc_lt, lc_le, lc_gt, lc_ge, lc_eq, iv_l, jv_add, jv_sub, jv_mul, jv_zero, if_pos, if_neg, some_cb, some_cbv, ↓nm_eq, ↓reduceIte, true_and, and_true, Bool.true_eq_false, Bool.false_eq_true, not_false_eq_true, not_true_eq_false]) (by simp -implicitDefEqProofs (disch := omega) only [k_X12_table_1, k_X12_table_2, k_X12_table_3, k_X12_table_4, k_X12_table_5, F_f_X12_table, q_boxOf0 hS.Q t1 t2 hb, K91 hF, K92 hF, N92 hF, K93 hF, N93 hF, K94 hF, N94 hF, K95 hF, N95 hF, K96 hF, N96 hF, K97 hF, N97 hF, K98 hF, N98 hF, K99 hF, N99 hF, K100 hF, N100 hF, K101 hF, N101 hF, K102 hF, N102 hF, K103 hF, N103 hF, K104 hF, N104 hF, K105 hF, N105 hF, K106 hF, N106 hF, K107 hF, N107 hF, K108 hF, N108 hF, K109 hF, N109 hF, K110 hF, N110 hF, K111 hF, N111 hF, K112 hF, N112 hF, K113 hF, N113 hF, K114 hF, N114 hF, K115 hF, N115 hF, K116 hF, N116 hF, K117 hF, N117 hF, K118 hF, N118 hF, K119 hF, N119 hF, K120 hF, N120 hF, R91_1 hF, R91_2 hF, R91_3 hF, R91_4 hF, R91_5 hF, R91_6 hF, R91_7 hF, R91_8 hF, R91_9 hF, R91_10 hF, R91_11 hF, R91_12 hF, R91_13 hF, R91_14 hF, R91_15 hF, R91_16 hF, R91_17 hF, R91_18 hF, R91_21 hF, R91_22 hF, R91_24 hF, R91_25 hF, R91_26 hF, R91_27 hF, R91_29 hF, R91_30 hF, R91_31 hF, R91_32 hF, R91_44 hF, RR_M hR, RR_T hR, RR_K hR, RR_Bo hR, RR_Gr hR, RR_Ch hR, RR_Bx hR, RR_G hR, RR_C hR, RR_G0 hR, RR_C0 hR, RR_V hR, RR_O hR, RR_Se hR, RR_S2 hR, RR_L hR, RR_W hR, RR_H hR, RR_hSo hR, RR_hCe hR, RR_hBo hR, RR_hOt hR, RR_hMu hR, RR_Ta hR, RR_Ki hR, RR_Tr hR, RR_Is hR, RR_So hR, RR_Sz hR, RR_El hR, iv_add, iv_sub, iv_mul, iv_neg, iv_zero, iv_ltT, iv_ltF, iv_leT, iv_leF, iv_eqT, iv_eqF, iv_div, rm_iv, tn_iv, ib_iv, lc_lt, lc_le, lc_gt, lc_ge, lc_eq, iv_l, jv_add, jv_sub, jv_mul, jv_zero, if_pos, if_neg, some_cb, some_cbv, ↓nm_eq, ↓reduceIte, true_and, and_true, Bool.true_eq_false, Bool.false_eq_true, not_false_eq_true, not_true_eq_false])
theorem lushr_nn (y : Int64) : ∃ z : Int, x_lushr y (iv 20) = jv z ∧ 0 ≤ z ∧ z ≤ 9223372036854775807 := by
  have hb : ((iv 20).toInt64.toUInt64 &&& Int64.toUInt64 63) = (20 : UInt64) := by decide
  have hn : 2 * (y.toUInt64 >>> (20 : UInt64)).toNat < 2 ^ 64 := by
    have h1 := y.toUInt64.toNat_lt
    rw [UInt64.toNat_shiftRight, Nat.shiftRight_eq_div_pow, show (20 : UInt64).toNat % 64 = 20 from rfl]
    omega
  refine ⟨(x_lushr y (iv 20)).toInt, (jv_self _).symm, ?_, ?_⟩
  · unfold x_lushr
    rw [hb]
    show 0 ≤ (y.toUInt64 >>> (20 : UInt64)).toBitVec.toInt
    rw [BitVec.toInt_eq_toNat_of_lt hn]
    exact Int.natCast_nonneg _
  · have := (x_lushr y (iv 20)).toInt_lt
    omega
set_option maxRecDepth 100000 in
theorem M_drawn (hS : Sim w A h) (x1 : Int32) (x2 : Int64) (x4 : Int32) : Both (f_X11_drawn 3 x1 x2 x4) (f_X12_drawn 91 x1 x2 x4) h := by
  obtain ⟨t, rfl, t1, t2⟩ := iv_ex x1
  obtain ⟨c, rfl, c1, c2⟩ := iv_ex x4
  have hF := hS.F
  have hR := hS.R
  by_cases hb : isB w t
  · obtain ⟨t0, hl, tb⟩ := hb; obtain ⟨m, hm⟩ : ∃ m, t / 100 = m := ⟨_, rfl⟩; obtain ⟨b, hbb⟩ : ∃ b, t % 100 = b := ⟨_, rfl⟩; rw [hm] at hl tb; rw [hbb] at tb; have b0 : 0 ≤ b := (by omega); obtain ⟨⟨x0, x1⟩, v0, v1⟩ := box_ran hS.W hl b0 tb; obtain ⟨⟨w1, w2⟩, -⟩ := hS.W; obtain ⟨⟨gg1, gg2⟩, ⟨gc1, gc2⟩, ⟨b2, b3⟩, ⟨hh1, hh2⟩, -⟩ := hS.W.mat hl; have hx : iv (12 * m + b) / iv 12 = iv m := (by rw [iv_div (by omega) (by omega) (by omega) (by omega)]; congr 1; omega); have hxm : rmI (iv (12 * m + b)) (iv 12) = iv b := (by rw [rm_iv (by omega) (by omega) (by omega) (by omega)]; congr 1; omega); have hcb := c_boxAt1 hS t2 t0 hm hbb hl tb; have hqb := q_boxOf1 hS.Q t2 t0 hm hbb hl tb; have hqbA := fun (h1 : AH) (q : QS w h1) => q_boxOf1 q t2 t0 hm hbb hl tb; have hcbA := fun (h1 : AH) (q : Sim w A h1) => c_boxAt1 q t2 t0 hm hbb hl tb; have hbA := eq_false (hS.bA hl b0 tb); have hB := hS.B hl b0 tb; have hM := hS.M hl; have hV := hS.W.box hl b0 tb; clear t0 t1 t2 hm hbb
    by_cases hc : isC w m c
    · obtain ⟨cc0, cg, ck⟩ := hc; obtain ⟨g, hg⟩ : ∃ g, c / 10 = g := ⟨_, rfl⟩; obtain ⟨k, hk⟩ : ∃ k, c % 10 = k := ⟨_, rfl⟩; rw [hg] at cg; rw [hk] at ck; have g0 : 0 ≤ g := (by omega); have k0 : 0 ≤ k := (by omega)
      obtain ⟨r1, r2⟩ := cnX_rng hS.W hl b0 tb
      have hcp := c_placeIn1 hS c2 hl b0 tb cc0 hg hk cg ck
      obtain ⟨h1, f1, s1⟩ := c_howMany hS hl b0 tb
      have hS1 := hS.sc s1
      have hF1 := hS1.F
      have ok1 := oB_k (hS1.B hl b0 tb)
      have hqc3 := fun (h3 : AH) (q : QS w h3) => q_isCell1 q c2 hl cc0 hg hk cg ck
      obtain ⟨h2, f2, s2⟩ := c_howMany hS1 hl b0 tb
      have hS2 := hS1.sc s2
      obtain ⟨z, hz, z0, z1⟩ := lushr_nn (x2 * jv 6364136223846793005 + jv 1442695040888963407)
      have hN0 : (jv (cnX w m (12 * m + b)) = jv 0) = False := by
        rw [jv_eq (by omega) (by omega) (by omega) (by omega)]; exact eq_false (by omega)
      have hrm : rmJ (jv z) (jv (cnX w m (12 * m + b))) = jv (z % cnX w m (12 * m + b)) := rm_jv z0 z1 (by omega) (by omega)
      have i0 : 0 ≤ z % cnX w m (12 * m + b) := Int.emod_nonneg _ (by omega)
      have i1 : z % cnX w m (12 * m + b) < cnX w m (12 * m + b) := Int.emod_lt_of_pos _ (by omega)
      obtain ⟨i, hi⟩ : ∃ i, z % cnX w m (12 * m + b) = i := ⟨_, rfl⟩
      rw [hi] at hrm i0 i1
      obtain ⟨h3, T, f3, s3, e3, v3⟩ := c_tab12 hS2 hl b0 tb (i := i) i0 i1 g0 cg k0 ck
      have hF2 := hS2.F
      have hS3 := hS2.sc s3
      have hF3 := hS3.F
      obtain ⟨p1, p2, -, -, ⟨p5, p6⟩, -⟩ := (show Tt 12 from Or.inl rfl).ok hF2
      obtain ⟨p1', p2', -, -, ⟨p5', p6'⟩, -⟩ := (show Tt 12 from Or.inl rfl).ok hF3
      refine Both.scr hS (r := iv (tcl T g.toNat k)) ⟨h3, ?_, (s1.tr s2).tr s3⟩ (fun h4 hS4 => ?_)
      · simp -implicitDefEqProofs (disch := omega) only [k_X11_drawn_1, k_X11_drawn_2, k_X11_drawn_3, k_X11_drawn_4, k_X11_drawn_5, F_f_X11_drawn, K3 hF, K3 hF1, K3 hF2, K3 hF3, R3_5 hF1, R3_5 hF2, R3_5 hF3, hcb, hbA, oB_k hB, oB_0 hB, oB_1 hB, oB_2 hB, oB_3 hB, oB_4 hB, oB_k1 hB, oB_n1 hB, oB_k2 hB, oB_n2 hB, oB_k3 hB, oB_n3 hB, oB_k4 hB, oB_n4 hB, oB_5 hB, oB_6 hB, oB_7 hB, oB_d1 hB, oB_d2 hB, wP_lt, oM_k hM, oM_0 hM, oM_1 hM, oM_5 hM, oM_6 hM, oM_2 hM, oM_3 hM, oM_4 hM, oM_k1 hM, oM_n1 hM, oM_k2 hM, oM_n2 hM, oM_k3 hM, oM_n3 hM, oM_w hM, oM_b hM, oM_h hM, hcp, f1, ok1, f2, f3, hz, hN0, hrm, p1, p1', p2', p5', p6', v3, iv_add, iv_sub, iv_mul, iv_neg, iv_zero, iv_ltT, iv_ltF, iv_leT, iv_leF, iv_eqT, iv_eqF, iv_div, rm_iv, tn_iv, ib_iv, lc_lt, lc_le, lc_gt, lc_ge, lc_eq, iv_l, jv_add, jv_sub, jv_mul, jv_zero, if_pos, if_neg, some_cb, some_cbv, ↓nm_eq, ↓reduceIte, true_and, and_true, Bool.true_eq_false, Bool.false_eq_true, not_false_eq_true, not_true_eq_false]
      · obtain ⟨h5, T5, g1, g2, g3, g4, g5⟩ := q_tab hS4 hl b0 tb (i := i) i0 i1 cc0 c2 hg hk cg ck
        rw [e3] at g3
        cases g3
        have hF4 := hS4.F
        have hqb4 := hqbA h4 hS4.Q
        exact ⟨h5, by simp -implicitDefEqProofs (disch := omega) only [k_X12_drawn_1, k_X12_drawn_2, k_X12_drawn_3, k_X12_drawn_4, k_X12_drawn_5, F_f_X12_drawn, K91 hF4, hqb4, hx, hxm, hqc3 h4 hS4.Q, q_howMany hS4.Q hl b0 tb, hz, hN0, hrm, g1, g4, g5, iv_add, iv_sub, iv_mul, iv_neg, iv_zero, iv_ltT, iv_ltF, iv_leT, iv_leF, iv_eqT, iv_eqF, iv_div, rm_iv, tn_iv, ib_iv, lc_lt, lc_le, lc_gt, lc_ge, lc_eq, iv_l, jv_add, jv_sub, jv_mul, jv_zero, if_pos, if_neg, some_cb, some_cbv, ↓nm_eq, ↓reduceIte, true_and, and_true, Bool.true_eq_false, Bool.false_eq_true, not_false_eq_true, not_true_eq_false], g2⟩
    · exact Both.still hS (r := iv (-1)) (by simp -implicitDefEqProofs (disch := omega) only [k_X11_drawn_1, k_X11_drawn_2, k_X11_drawn_3, k_X11_drawn_4, k_X11_drawn_5, F_f_X11_drawn, K3 hF, hcb, hbA, oB_k hB, oB_0 hB, oB_1 hB, oB_2 hB, oB_3 hB, oB_4 hB, oB_k1 hB, oB_n1 hB, oB_k2 hB, oB_n2 hB, oB_k3 hB, oB_n3 hB, oB_k4 hB, oB_n4 hB, oB_5 hB, oB_6 hB, oB_7 hB, oB_d1 hB, oB_d2 hB, wP_lt, oM_k hM, oM_0 hM, oM_1 hM, oM_5 hM, oM_6 hM, oM_2 hM, oM_3 hM, oM_4 hM, oM_k1 hM, oM_n1 hM, oM_k2 hM, oM_n2 hM, oM_k3 hM, oM_n3 hM, oM_w hM, oM_b hM, oM_h hM, c_placeIn0 hS c1 c2 hl b0 tb hc, K3 hF, R3_0 hF, R3_1 hF, R3_2 hF, R3_3 hF, R3_4 hF, R3_5 hF, R3_6 hF, R3_7 hF, R3_8 hF, iv_add, iv_sub, iv_mul, iv_neg, iv_zero, iv_ltT, iv_ltF, iv_leT, iv_leF, iv_eqT, iv_eqF, iv_div, rm_iv, tn_iv, ib_iv, lc_lt, lc_le, lc_gt, lc_ge, lc_eq, iv_l, jv_add, jv_sub, jv_mul, jv_zero, if_pos, if_neg, some_cb, some_cbv, ↓nm_eq, ↓reduceIte, true_and, and_true, Bool.true_eq_false, Bool.false_eq_true, not_false_eq_true, not_true_eq_false]) (by simp -implicitDefEqProofs (disch := omega) only [k_X12_drawn_1, k_X12_drawn_2, k_X12_drawn_3, k_X12_drawn_4, k_X12_drawn_5, F_f_X12_drawn, hqb, hx, hxm, q_isCell0 hS.Q c1 c2 hl hc, K91 hF, K92 hF, N92 hF, K93 hF, N93 hF, K94 hF, N94 hF, K95 hF, N95 hF, K96 hF, N96 hF, K97 hF, N97 hF, K98 hF, N98 hF, K99 hF, N99 hF, K100 hF, N100 hF, K101 hF, N101 hF, K102 hF, N102 hF, K103 hF, N103 hF, K104 hF, N104 hF, K105 hF, N105 hF, K106 hF, N106 hF, K107 hF, N107 hF, K108 hF, N108 hF, K109 hF, N109 hF, K110 hF, N110 hF, K111 hF, N111 hF, K112 hF, N112 hF, K113 hF, N113 hF, K114 hF, N114 hF, K115 hF, N115 hF, K116 hF, N116 hF, K117 hF, N117 hF, K118 hF, N118 hF, K119 hF, N119 hF, K120 hF, N120 hF, R91_1 hF, R91_2 hF, R91_3 hF, R91_4 hF, R91_5 hF, R91_6 hF, R91_7 hF, R91_8 hF, R91_9 hF, R91_10 hF, R91_11 hF, R91_12 hF, R91_13 hF, R91_14 hF, R91_15 hF, R91_16 hF, R91_17 hF, R91_18 hF, R91_21 hF, R91_22 hF, R91_24 hF, R91_25 hF, R91_26 hF, R91_27 hF, R91_29 hF, R91_30 hF, R91_31 hF, R91_32 hF, R91_44 hF, RR_M hR, RR_T hR, RR_K hR, RR_Bo hR, RR_Gr hR, RR_Ch hR, RR_Bx hR, RR_G hR, RR_C hR, RR_G0 hR, RR_C0 hR, RR_V hR, RR_O hR, RR_Se hR, RR_S2 hR, RR_L hR, RR_W hR, RR_H hR, RR_hSo hR, RR_hCe hR, RR_hBo hR, RR_hOt hR, RR_hMu hR, RR_Ta hR, RR_Ki hR, RR_Tr hR, RR_Is hR, RR_So hR, RR_Sz hR, RR_El hR, iv_add, iv_sub, iv_mul, iv_neg, iv_zero, iv_ltT, iv_ltF, iv_leT, iv_leF, iv_eqT, iv_eqF, iv_div, rm_iv, tn_iv, ib_iv, lc_lt, lc_le, lc_gt, lc_ge, lc_eq, iv_l, jv_add, jv_sub, jv_mul, jv_zero, if_pos, if_neg, some_cb, some_cbv, ↓nm_eq, ↓reduceIte, true_and, and_true, Bool.true_eq_false, Bool.false_eq_true, not_false_eq_true, not_true_eq_false])
  · exact Both.still hS (r := iv (-1)) (by simp -implicitDefEqProofs (disch := omega) only [k_X11_drawn_1, k_X11_drawn_2, k_X11_drawn_3, k_X11_drawn_4, k_X11_drawn_5, F_f_X11_drawn, K3 hF, c_boxAt0 hS t1 t2 hb, c_placeInN, K3 hF, R3_0 hF, R3_1 hF, R3_2 hF, R3_3 hF, R3_4 hF, R3_5 hF, R3_6 hF, R3_7 hF, R3_8 hF, iv_add, iv_sub, iv_mul, iv_neg, iv_zero, iv_ltT, iv_ltF, iv_leT, iv_leF, iv_eqT, iv_eqF, iv_div, rm_iv, tn_iv, ib_iv, lc_lt, lc_le, lc_gt, lc_ge, lc_eq, iv_l, jv_add, jv_sub, jv_mul, jv_zero, if_pos, if_neg, some_cb, some_cbv, ↓nm_eq, ↓reduceIte, true_and, and_true, Bool.true_eq_false, Bool.false_eq_true, not_false_eq_true, not_true_eq_false]) (by simp -implicitDefEqProofs (disch := omega) only [k_X12_drawn_1, k_X12_drawn_2, k_X12_drawn_3, k_X12_drawn_4, k_X12_drawn_5, F_f_X12_drawn, q_boxOf0 hS.Q t1 t2 hb, K91 hF, K92 hF, N92 hF, K93 hF, N93 hF, K94 hF, N94 hF, K95 hF, N95 hF, K96 hF, N96 hF, K97 hF, N97 hF, K98 hF, N98 hF, K99 hF, N99 hF, K100 hF, N100 hF, K101 hF, N101 hF, K102 hF, N102 hF, K103 hF, N103 hF, K104 hF, N104 hF, K105 hF, N105 hF, K106 hF, N106 hF, K107 hF, N107 hF, K108 hF, N108 hF, K109 hF, N109 hF, K110 hF, N110 hF, K111 hF, N111 hF, K112 hF, N112 hF, K113 hF, N113 hF, K114 hF, N114 hF, K115 hF, N115 hF, K116 hF, N116 hF, K117 hF, N117 hF, K118 hF, N118 hF, K119 hF, N119 hF, K120 hF, N120 hF, R91_1 hF, R91_2 hF, R91_3 hF, R91_4 hF, R91_5 hF, R91_6 hF, R91_7 hF, R91_8 hF, R91_9 hF, R91_10 hF, R91_11 hF, R91_12 hF, R91_13 hF, R91_14 hF, R91_15 hF, R91_16 hF, R91_17 hF, R91_18 hF, R91_21 hF, R91_22 hF, R91_24 hF, R91_25 hF, R91_26 hF, R91_27 hF, R91_29 hF, R91_30 hF, R91_31 hF, R91_32 hF, R91_44 hF, RR_M hR, RR_T hR, RR_K hR, RR_Bo hR, RR_Gr hR, RR_Ch hR, RR_Bx hR, RR_G hR, RR_C hR, RR_G0 hR, RR_C0 hR, RR_V hR, RR_O hR, RR_Se hR, RR_S2 hR, RR_L hR, RR_W hR, RR_H hR, RR_hSo hR, RR_hCe hR, RR_hBo hR, RR_hOt hR, RR_hMu hR, RR_Ta hR, RR_Ki hR, RR_Tr hR, RR_Is hR, RR_So hR, RR_Sz hR, RR_El hR, iv_add, iv_sub, iv_mul, iv_neg, iv_zero, iv_ltT, iv_ltF, iv_leT, iv_leF, iv_eqT, iv_eqF, iv_div, rm_iv, tn_iv, ib_iv, lc_lt, lc_le, lc_gt, lc_ge, lc_eq, iv_l, jv_add, jv_sub, jv_mul, jv_zero, if_pos, if_neg, some_cb, some_cbv, ↓nm_eq, ↓reduceIte, true_and, and_true, Bool.true_eq_false, Bool.false_eq_true, not_false_eq_true, not_true_eq_false])
end Q
