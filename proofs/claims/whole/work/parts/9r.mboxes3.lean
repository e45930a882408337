/-! boxes from a row: both, in the end -/
section Q
variable {w w' : WD} {A A' : Int → Nat} {h h' h1 hf hq : AH} {m s i x : Int}
set_option maxRecDepth 100000 in
theorem M_boxes (hS : Sim w A h) (x1 x2 x3 x4 : Int32) : Both (f_X11_boxes 3 x1 x2 x3 x4) (f_X12_boxes 91 x1 x2 x3 x4) h := by
  obtain ⟨m, rfl, m1, m2⟩ := iv_ex x1
  obtain ⟨s, rfl, t1, t2⟩ := iv_ex x2
  obtain ⟨i, rfl, i1, i2⟩ := iv_ex x3
  obtain ⟨n, rfl, n1, n2⟩ := iv_ex x4
  have hF := hS.F
  have hR := hS.R
  have hGc := hS.gc
  by_cases hl : lvM w m
  · have am := hS.aM hl
    have tm := hS.tM hl
    have mA0 : (A m = 0) = False := eq_false (by omega)
    have cm := c_matterAt1 hF hS.C hS.W m1 m2 hl
    have qm := q_isMatter1 hF hR hS.W m1 m2 hl
    by_cases hs : 0 ≤ s ∧ s < 6
    · obtain ⟨a, ha, hsh, ha0, sk, sr, sk1, sn1, s2, s3, s1, sd⟩ := sh_facts hS hs.1 hs.2; obtain ⟨⟨y1, y2⟩, ⟨y3, y4⟩, ⟨y5, y6⟩, y7⟩ := hS.W.sh hs.1 hs.2; obtain ⟨hs0, hs1⟩ := id hs; obtain ⟨kw1, kw2⟩ := hS.W.2.2.1
      by_cases hn : 1 ≤ n ∧ n ≤ 12
      · obtain ⟨hn1, hn12⟩ := hn
        by_cases e1 : sIs w s < 0
        · rw [if_pos e1] at s1
          by_cases e2 : sSo w s < 0
          · clear ha
            have fl : sSo w s = -1 := by omega
            refine Both.still hS (r := iv 0) (by simp -implicitDefEqProofs (disch := omega) only [k_X11_boxes_106_1, F_b_X11_boxes_106, f_X11_boxes_106, k_X11_boxes_77_1, f_X11_boxes_77, k_X11_boxes_1, k_X11_boxes_2, k_X11_boxes_3, F_f_X11_boxes, F_f_X7_isEmpty, K3 hF, cm, hsh, mA0, ha0, sk, s2, s1, zret0, zret1, iv_add, iv_sub, iv_mul, iv_neg, iv_zero, iv_ltT, iv_ltF, iv_leT, iv_leF, iv_eqT, iv_eqF, iv_div, rm_iv, tn_iv, ib_iv, some_cb, some_cbv, ↓nm_eq, ↓reduceIte, true_and, and_true, Bool.true_eq_false, Bool.false_eq_true, not_false_eq_true, not_true_eq_false]) ?_
            have e0 : lp b_X12_boxes_86 (fun _ _ _ _ _ _ _ _ _ => none) FU 91 (iv m) (iv s) (iv i) (iv n) (iv 0) (iv 0) (iv 0) h = some (iv 0, h) := by
              rw [show FU = 4294967295 + 1 from rfl, lp_succ]
              simp -implicitDefEqProofs (disch := omega) only [F_b_X12_boxes_86, iv_add, iv_sub, iv_mul, iv_neg, iv_zero, iv_ltT, iv_ltF, iv_leT, iv_leF, iv_eqT, iv_eqF, iv_div, rm_iv, tn_iv, ib_iv, some_cb, some_cbv, ↓nm_eq, ↓reduceIte, true_and, and_true, Bool.true_eq_false, Bool.false_eq_true, not_false_eq_true, not_true_eq_false]
            simp -implicitDefEqProofs (disch := omega) only [k_X12_boxes_86_1, f_X12_boxes_86, F_f_X12_boxes_59, k_X12_boxes_1, k_X12_boxes_2, k_X12_boxes_3, F_f_X12_boxes, k_X12_isShelf_1, F_f_X12_isShelf, qm, q_in1, zret1, K91 hF, R91_24 hF, R91_25 hF, K112 hF, N112 hF, K113 hF, N113 hF, RR_Is hR, RR_So hR, e0, iv_add, iv_sub, iv_mul, iv_neg, iv_zero, iv_ltT, iv_ltF, iv_leT, iv_leF, iv_eqT, iv_eqF, iv_div, rm_iv, tn_iv, ib_iv, some_cb, some_cbv, ↓nm_eq, ↓reduceIte, true_and, and_true, Bool.true_eq_false, Bool.false_eq_true, not_false_eq_true, not_true_eq_false]
          · by_cases e3 : sSo w s = 1
            · obtain ⟨⟨gg1, gg2⟩, ⟨gc1, gc2⟩, ⟨bb1, bb2⟩, -⟩ := hS.W.mat hl
              obtain ⟨G, hG⟩ : ∃ G : Nat, (G : Int) = wGr w m := ⟨(wGr w m).toNat, by omega⟩
              obtain ⟨C, hC⟩ : ∃ C : Nat, (C : Int) = wCh w m := ⟨(wCh w m).toNat, by omega⟩
              obtain ⟨B, hB⟩ : ∃ B : Nat, (B : Int) = wBx w m := ⟨(wBx w m).toNat, by omega⟩
              obtain ⟨n', rfl⟩ : ∃ n' : Nat, n = n' := ⟨n.toNat, by omega⟩
              have sd' : ∀ z : Int, 0 ≤ z → z < 60 → gJ h (a + 1) z.toNat = sEl w (60 * s + z) := sd
              obtain ⟨K, hf, q1, -, q3, q4, q5, q6⟩ := c_boxes hS hl hG hC hB hs0 hs1 e3 i1 i2 (n := n') (by omega) (by omega) sk sr sk1 sn1 (s3 (by omega)) sd' (by omega) n' FU 0 (FU_gt (by omega)) (by omega) (Or.inl rfl) (by omega)
              change lp b_X11_boxes_77 (fun _ _ _ _ _ _ _ _ => none) FU 3 (iv i) (iv n') (A m) a (iv ((G + C : Nat) : Int)) (iv 0) h = _ at q1
              have a79 : 78 < a := by omega
              clear ha
              have eW : wGr w m + wCh w m = ((G + C : Nat) : Int) := by omega
              have hM := hS.M hl
              have cl : f_X11_boxes 3 (iv m) (iv s) (iv i) (iv n') h = some (iv K, hf) := by
                simp -implicitDefEqProofs (disch := omega) only [k_X11_boxes_106_1, F_b_X11_boxes_106, f_X11_boxes_106, k_X11_boxes_77_1, f_X11_boxes_77, k_X11_boxes_1, k_X11_boxes_2, k_X11_boxes_3, F_f_X11_boxes, F_f_X7_isEmpty, K3 hF, cm, hsh, mA0, ha0, sk, s2, s1, e3, oM_k hM, oM_0 hM, oM_1 hM, eW, q1, zret0, zret1, iv_add, iv_sub, iv_mul, iv_neg, iv_zero, iv_ltT, iv_ltF, iv_leT, iv_leF, iv_eqT, iv_eqF, iv_div, rm_iv, tn_iv, ib_iv, some_cb, some_cbv, ↓nm_eq, ↓reduceIte, true_and, and_true, Bool.true_eq_false, Bool.false_eq_true, not_false_eq_true, not_true_eq_false]
              obtain ⟨v1, v2, v3, v4⟩ := boH_inv (h := h) (M := A m) (B := B) (G := G) (C := C) (u := boU w s i (G + C)) ⟨am, tm⟩ (by rw [oM_5 hM, hB]) K
              have fh : (∀ z, gK hf z = gK (boH h (A m) B G C (boU w s i (G + C)) K) z) ∧ (∀ z, gN hf z = gN (boH h (A m) B G C (boU w s i (G + C)) K) z) ∧ (∀ z j, gR hf z j = gR (boH h (A m) B G C (boU w s i (G + C)) K) z j) ∧ (∀ z j, gJ hf z j = gJ (boH h (A m) B G C (boU w s i (G + C)) K) z j) ∧ gC hf = gC (boH h (A m) B G C (boU w s i (G + C)) K) ∧ gS hf = gS (boH h (A m) B G C (boU w s i (G + C)) K) ∧ ∀ z j, z ≠ 78 → gI hf z j = gI (boH h (A m) B G C (boU w s i (G + C)) K) z j := by
                rcases q6 with rfl | rfl
                · exact ⟨fun _ => rfl, fun _ => rfl, fun _ _ => rfl, fun _ _ => rfl, rfl, rfl, fun _ _ _ => rfl⟩
                · exact ⟨fun z => fiC_K _ z, fun z => fiC_N _ z, fun z j => fiC_R _ z j, fun z j => fiC_J _ z j, fiC_C _, fiC_S _, fun z j y => fiC_I _ y⟩
              obtain ⟨g1, g2, g3, g4, g5, g6, g7⟩ := fh
              have Ff : Fix hf := hF.fr (fun z hz => by rw [g1, (v3 z (by omega)).1]) (fun z hz => by rw [g2, (v3 z (by omega)).2.1]) (fun z j hz _ _ _ => by rw [g3, (v3 z (by omega)).2.2.2.2 j (by omega)])
              have Rf : RR w hf := hR.fr (fun z j hz => by rw [g7 _ _ (by omega), (v3 z (by omega)).2.2.1 j (by omega) (by omega)]) (fun j => by rw [g4, (v3 115 (by omega)).2.2.2.1 j])
              have Qf : QS w hf := ⟨Ff, Rf, hS.W⟩
              have qmf := q_isMatter1 Ff Rf hS.W m1 m2 hl
              have ext : ∀ h2 : AH, FQ hf h2 → Ext h h2 := fun h2 fq => by
                obtain ⟨p1, p2, p3, p4, p5, p6, p7⟩ := fq
                refine ⟨by omega, by omega, by rw [p2, g2, (v3 2 (by omega)).2.1], ?_⟩
                funext j
                rw [p7 2 j (by omega), g7 2 j (by omega), (v3 2 (by omega)).2.2.1 j (by omega) (by omega)]
              have exb : Exb h hf := ⟨by rw [g2, (v3 2 (by omega)).2.1], funext (fun j => by rw [g7 2 j (by omega), (v3 2 (by omega)).2.2.1 j (by omega) (by omega)]), K91 Ff⟩
              by_cases hi : 0 ≤ i
              · have sim0 : Sim w A (mixH h hf) := by
                  refine hS.same (fun z => ?_) rfl
                  by_cases y : 91 ≤ z ∧ z ≤ 115
                  · obtain ⟨p1, p2, p3, p4, p5⟩ := mixQ (hc := h) (hq := hf) y
                    obtain ⟨o1, o2, o3, o4, o5⟩ := v3 z (by omega)
                    exact ⟨by rw [p1, g1, o1], by rw [p2, g2, o2], fun j => by rw [p3, g7 _ _ (by omega), o3 j (by omega) (by omega)], fun j => by rw [p4, g4, o4], fun j => by rw [p5, g3, o5 j (by omega)]⟩
                  · exact mixC (by omega)
                obtain ⟨hq', w', A', r1, r2, r3⟩ := q_boxloop hS hl hG hC hB hs0 hs1 e3 hi i2 (n := n') (by omega) q3 (fun j z => q4 j (by omega) z) q5 Ff n' FU 0 hf w A (FU_gt (by omega)) (by omega) (by omega) ⟨fun _ => rfl, fun _ => rfl, fun _ _ => rfl, fun _ _ => rfl, rfl, rfl, fun _ _ _ => rfl⟩ sim0 ⟨hl, rfl, rfl, by rw [← hB, show ((0 : Nat) : Int) = 0 from rfl, Int.add_zero], rfl, rfl⟩ rfl
                change lp b_X12_boxes_86 (fun _ _ _ _ _ _ _ _ _ => none) FU 91 (iv m) (iv s) (iv i) (iv n') (iv 0) (iv 1) (iv 0) hf = _ at r1
                refine ⟨iv K, hf, hq', w', A', cl, ?_, ?_, ext hq' r2, exb⟩
                · simp -implicitDefEqProofs (disch := omega) only [k_X12_boxes_86_1, f_X12_boxes_86, F_f_X12_boxes_59, k_X12_boxes_1, k_X12_boxes_2, k_X12_boxes_3, F_f_X12_boxes, k_X12_isShelf_1, F_f_X12_isShelf, qmf, q_in1, zret1, K91 Ff, R91_24 Ff, R91_25 Ff, K112 Ff, N112 Ff, K113 Ff, N113 Ff, RR_Is Rf, RR_So Rf, e3, r1, iv_add, iv_sub, iv_mul, iv_neg, iv_zero, iv_ltT, iv_ltF, iv_leT, iv_leF, iv_eqT, iv_eqF, iv_div, rm_iv, tn_iv, ib_iv, some_cb, some_cbv, ↓nm_eq, ↓reduceIte, true_and, and_true, Bool.true_eq_false, Bool.false_eq_true, not_false_eq_true, not_true_eq_false]
                · obtain ⟨p1, p2, p3, p4, p5, p6, p7⟩ := r2
                  refine r3.r78 (fun z => ?_) (fun z => ?_) (fun z j => ?_) (fun z j => ?_) (fun z j y0 => ?_) (by rw [gC_mix, p5, g5])
                  · by_cases y : 91 ≤ z ∧ z ≤ 115
                    · rw [(mixQ y).1]
                    · rw [(mixC (by omega)).1, p1, g1]
                  · by_cases y : 91 ≤ z ∧ z ≤ 115
                    · rw [(mixQ y).2.1]
                    · rw [(mixC (by omega)).2.1, p2, g2]
                  · by_cases y : 91 ≤ z ∧ z ≤ 115
                    · rw [(mixQ y).2.2.2.2]
                    · rw [(mixC (by omega)).2.2.2.2, p3, g3]
                  · by_cases y : 91 ≤ z ∧ z ≤ 115
                    · rw [(mixQ y).2.2.2.1]
                    · rw [(mixC (by omega)).2.2.2.1, p4, g4]
                  · by_cases y : 91 ≤ z ∧ z ≤ 115
                    · rw [(mixQ y).2.2.1]
                    · rw [(mixC (by omega)).2.2.1, p7 _ _ (by omega), g7 _ _ y0]
              · have K0 : K = 0 := by
                  by_cases z : K = 0
                  · exact z
                  · exact absurd (q4 0 (by omega) (by omega)).1.1 hi
                subst K0
                have e0 : lp b_X12_boxes_86 (fun _ _ _ _ _ _ _ _ _ => none) FU 91 (iv m) (iv s) (iv i) (iv n') (iv 0) (iv 0) (iv 0) hf = some (iv 0, hf) := by
                  rw [show FU = 4294967295 + 1 from rfl, lp_succ]
                  simp -implicitDefEqProofs (disch := omega) only [F_b_X12_boxes_86, iv_add, iv_sub, iv_mul, iv_neg, iv_zero, iv_ltT, iv_ltF, iv_leT, iv_leF, iv_eqT, iv_eqF, iv_div, rm_iv, tn_iv, ib_iv, some_cb, some_cbv, ↓nm_eq, ↓reduceIte, true_and, and_true, Bool.true_eq_false, Bool.false_eq_true, not_false_eq_true, not_true_eq_false]
                refine ⟨iv 0, hf, hf, w, A, cl, ?_, ?_, ext hf ⟨fun _ => rfl, fun _ => rfl, fun _ _ => rfl, fun _ _ => rfl, rfl, rfl, fun _ _ _ => rfl⟩, exb⟩
                · simp -implicitDefEqProofs (disch := omega) only [k_X12_boxes_86_1, f_X12_boxes_86, F_f_X12_boxes_59, k_X12_boxes_1, k_X12_boxes_2, k_X12_boxes_3, F_f_X12_boxes, k_X12_isShelf_1, F_f_X12_isShelf, qmf, q_in1, zret1, K91 Ff, R91_24 Ff, R91_25 Ff, K112 Ff, N112 Ff, K113 Ff, N113 Ff, RR_Is Rf, RR_So Rf, e3, e0, iv_add, iv_sub, iv_mul, iv_neg, iv_zero, iv_ltT, iv_ltF, iv_leT, iv_leF, iv_eqT, iv_eqF, iv_div, rm_iv, tn_iv, ib_iv, some_cb, some_cbv, ↓nm_eq, ↓reduceIte, true_and, and_true, Bool.true_eq_false, Bool.false_eq_true, not_false_eq_true, not_true_eq_false]
                · exact hS.r78 g1 g2 g3 g4 g7 g5
            · clear ha
              exact Both.still hS (r := iv (-12)) (by simp -implicitDefEqProofs (disch := omega) only [k_X11_boxes_106_1, F_b_X11_boxes_106, f_X11_boxes_106, k_X11_boxes_77_1, f_X11_boxes_77, k_X11_boxes_1, k_X11_boxes_2, k_X11_boxes_3, F_f_X11_boxes, F_f_X7_isEmpty, K3 hF, cm, hsh, mA0, ha0, sk, s2, s1, zret0, zret1, iv_add, iv_sub, iv_mul, iv_neg, iv_zero, iv_ltT, iv_ltF, iv_leT, iv_leF, iv_eqT, iv_eqF, iv_div, rm_iv, tn_iv, ib_iv, some_cb, some_cbv, ↓nm_eq, ↓reduceIte, true_and, and_true, Bool.true_eq_false, Bool.false_eq_true, not_false_eq_true, not_true_eq_false]) (by simp -implicitDefEqProofs (disch := omega) only [k_X12_boxes_86_1, F_b_X12_boxes_86, f_X12_boxes_86, F_f_X12_boxes_59, k_X12_boxes_1, k_X12_boxes_2, k_X12_boxes_3, F_f_X12_boxes, k_X12_isShelf_1, F_f_X12_isShelf, qm, q_in1, zret1, K91 hF, R91_24 hF, R91_25 hF, K112 hF, N112 hF, K113 hF, N113 hF, RR_Is hR, RR_So hR, iv_add, iv_sub, iv_mul, iv_neg, iv_zero, iv_ltT, iv_ltF, iv_leT, iv_leF, iv_eqT, iv_eqF, iv_div, rm_iv, tn_iv, ib_iv, some_cb, some_cbv, ↓nm_eq, ↓reduceIte, true_and, and_true, Bool.true_eq_false, Bool.false_eq_true, not_false_eq_true, not_true_eq_false])
        · rw [if_neg e1] at s1
          have kA := eq_false (hS.kA (k := sIs w s) (by omega) (by omega))
          clear ha
          exact Both.still hS (r := iv (-12)) (by simp -implicitDefEqProofs (disch := omega) only [k_X11_boxes_106_1, F_b_X11_boxes_106, f_X11_boxes_106, k_X11_boxes_77_1, f_X11_boxes_77, k_X11_boxes_1, k_X11_boxes_2, k_X11_boxes_3, F_f_X11_boxes, F_f_X7_isEmpty, K3 hF, cm, hsh, mA0, ha0, sk, s2, s1, kA, zret0, zret1, iv_add, iv_sub, iv_mul, iv_neg, iv_zero, iv_ltT, iv_ltF, iv_leT, iv_leF, iv_eqT, iv_eqF, iv_div, rm_iv, tn_iv, ib_iv, some_cb, some_cbv, ↓nm_eq, ↓reduceIte, true_and, and_true, Bool.true_eq_false, Bool.false_eq_true, not_false_eq_true, not_true_eq_false]) (by simp -implicitDefEqProofs (disch := omega) only [k_X12_boxes_86_1, F_b_X12_boxes_86, f_X12_boxes_86, F_f_X12_boxes_59, k_X12_boxes_1, k_X12_boxes_2, k_X12_boxes_3, F_f_X12_boxes, k_X12_isShelf_1, F_f_X12_isShelf, qm, q_in1, zret1, K91 hF, R91_24 hF, R91_25 hF, K112 hF, N112 hF, K113 hF, N113 hF, RR_Is hR, RR_So hR, iv_add, iv_sub, iv_mul, iv_neg, iv_zero, iv_ltT, iv_ltF, iv_leT, iv_leF, iv_eqT, iv_eqF, iv_div, rm_iv, tn_iv, ib_iv, some_cb, some_cbv, ↓nm_eq, ↓reduceIte, true_and, and_true, Bool.true_eq_false, Bool.false_eq_true, not_false_eq_true, not_true_eq_false])
      · clear ha
        refine Both.still hS (r := iv (-1)) ?_ (by simp -implicitDefEqProofs (disch := omega) only [k_X12_boxes_86_1, F_b_X12_boxes_86, f_X12_boxes_86, F_f_X12_boxes_59, k_X12_boxes_1, k_X12_boxes_2, k_X12_boxes_3, F_f_X12_boxes, k_X12_isShelf_1, F_f_X12_isShelf, qm, q_in1, q_in0, zret1, K91 hF, iv_add, iv_sub, iv_mul, iv_neg, iv_zero, iv_ltT, iv_ltF, iv_leT, iv_leF, iv_eqT, iv_eqF, iv_div, rm_iv, tn_iv, ib_iv, some_cb, some_cbv, ↓nm_eq, ↓reduceIte, true_and, and_true, Bool.true_eq_false, Bool.false_eq_true, not_false_eq_true, not_true_eq_false])
        by_cases q : 1 ≤ n <;> simp -implicitDefEqProofs (disch := omega) only [k_X11_boxes_106_1, F_b_X11_boxes_106, f_X11_boxes_106, k_X11_boxes_77_1, f_X11_boxes_77, k_X11_boxes_1, k_X11_boxes_2, k_X11_boxes_3, F_f_X11_boxes, K3 hF, cm, hsh, mA0, ha0, iv_add, iv_sub, iv_mul, iv_neg, iv_zero, iv_ltT, iv_ltF, iv_leT, iv_leF, iv_eqT, iv_eqF, iv_div, rm_iv, tn_iv, ib_iv, some_cb, some_cbv, ↓nm_eq, ↓reduceIte, true_and, and_true, Bool.true_eq_false, Bool.false_eq_true, not_false_eq_true, not_true_eq_false]
    · exact Both.still hS (r := iv (-1)) (by simp -implicitDefEqProofs (disch := omega) only [k_X11_boxes_106_1, F_b_X11_boxes_106, f_X11_boxes_106, k_X11_boxes_77_1, f_X11_boxes_77, k_X11_boxes_1, k_X11_boxes_2, k_X11_boxes_3, F_f_X11_boxes, K3 hF, cm, c_shelfAt0 t1 t2 hs, mA0, iv_add, iv_sub, iv_mul, iv_neg, iv_zero, iv_ltT, iv_ltF, iv_leT, iv_leF, iv_eqT, iv_eqF, iv_div, rm_iv, tn_iv, ib_iv, some_cb, some_cbv, ↓nm_eq, ↓reduceIte, true_and, and_true, Bool.true_eq_false, Bool.false_eq_true, not_false_eq_true, not_true_eq_false]) (by simp -implicitDefEqProofs (disch := omega) only [k_X12_boxes_86_1, F_b_X12_boxes_86, f_X12_boxes_86, F_f_X12_boxes_59, k_X12_boxes_1, k_X12_boxes_2, k_X12_boxes_3, F_f_X12_boxes, k_X12_isShelf_1, F_f_X12_isShelf, qm, q_in0, zret0, K91 hF, iv_add, iv_sub, iv_mul, iv_neg, iv_zero, iv_ltT, iv_ltF, iv_leT, iv_leF, iv_eqT, iv_eqF, iv_div, rm_iv, tn_iv, ib_iv, some_cb, some_cbv, ↓nm_eq, ↓reduceIte, true_and, and_true, Bool.true_eq_false, Bool.false_eq_true, not_false_eq_true, not_true_eq_false])
  · have cm := c_matterAt0 hF hS.C hS.W m1 m2 hl
    have qm := q_isMatter0 hF hR hS.W m1 m2 hl
    obtain ⟨a, hsh⟩ : ∃ a, f_X11_shelfAt 3 (iv s) h = some (a, h) := by
      by_cases hs : 0 ≤ s ∧ s < 6
      · obtain ⟨a, -, e, -⟩ := sh_facts hS hs.1 hs.2; exact ⟨a, e⟩
      · exact ⟨0, c_shelfAt0 t1 t2 hs⟩
    exact Both.still hS (r := iv (-1)) (by simp -implicitDefEqProofs (disch := omega) only [k_X11_boxes_106_1, F_b_X11_boxes_106, f_X11_boxes_106, k_X11_boxes_77_1, f_X11_boxes_77, k_X11_boxes_1, k_X11_boxes_2, k_X11_boxes_3, F_f_X11_boxes, K3 hF, cm, hsh, iv_add, iv_sub, iv_mul, iv_neg, iv_zero, iv_ltT, iv_ltF, iv_leT, iv_leF, iv_eqT, iv_eqF, iv_div, rm_iv, tn_iv, ib_iv, some_cb, some_cbv, ↓nm_eq, ↓reduceIte, true_and, and_true, Bool.true_eq_false, Bool.false_eq_true, not_false_eq_true, not_true_eq_false]) (by simp -implicitDefEqProofs (disch := omega) only [k_X12_boxes_86_1, F_b_X12_boxes_86, f_X12_boxes_86, F_f_X12_boxes_59, k_X12_boxes_1, k_X12_boxes_2, k_X12_boxes_3, F_f_X12_boxes, qm, K91 hF, iv_add, iv_sub, iv_mul, iv_neg, iv_zero, iv_ltT, iv_ltF, iv_leT, iv_leF, iv_eqT, iv_eqF, iv_div, rm_iv, tn_iv, ib_iv, some_cb, some_cbv, ↓nm_eq, ↓reduceIte, true_and, and_true, Bool.true_eq_false, Bool.false_eq_true, not_false_eq_true, not_true_eq_false])
end Q
