/-! a matter from the tape: the method -/
section Q
variable {w w' : WD} {A A' : Int → Nat} {h h' h1 h2 hF : AH} {m : Nat}
theorem mt_QT (hS : Sim w A h) {hx : AH} (F : Fix hx) (i : ∀ a i : Nat, 91 ≤ a → a ≤ 114 → gI hx a i = gI h a i) : QT w (sI hx 91 28 (iv 0)) 0 := by
  have hR := hS.R
  refine ⟨F.fr (fun _ _ => rfl) (fun _ _ => rfl) (fun _ _ _ _ _ _ => rfl), ⟨gI_sIs _ _ _ _, ?_⟩, fun j j0 j1 => ?_, hS.W, Int.le_refl _, hS.W.2.1.1⟩
  · rw [gI_sIo _ _ (by omega), i _ _ (by omega) (by omega)]; exact hR.2.2.1
  · rw [gI_sIo _ _ (by omega), i _ _ (by omega) (by omega)]; exact RR_Ta hR j0
set_option maxRecDepth 100000 in
theorem M_matter (hS : Sim w A h) : Both (f_X11_matter 3) (f_X12_matter 91) h := by
  have hF := hS.F
  have hR := hS.R
  have hW := hS.W
  have hGc := hS.gc
  obtain ⟨wm1, wm2⟩ := hW.1
  have c39 : gI h 3 9 = iv (wM w) := hS.C.1
  by_cases h4 : wM w = 4
  · have r0 : gI h 91 0 = iv 4 := by rw [← h4]; exact hR.2.1
    rw [h4] at c39
    exact Both.still hS (r := iv (-3)) (by simp -implicitDefEqProofs (disch := omega) only [k_X11_matter_42_1, F_f_X11_matter_42, k_X11_matter_1, k_X11_matter_2, F_f_X11_matter, K3 hF, c39, iv_add, iv_sub, iv_mul, iv_neg, iv_zero, iv_ltT, iv_ltF, iv_leT, iv_leF, iv_eqT, iv_eqF, iv_div, rm_iv, tn_iv, ib_iv, some_cb, some_cbv, ↓nm_eq, ↓reduceIte, true_and, and_true, Bool.true_eq_false, Bool.false_eq_true, not_false_eq_true, not_true_eq_false]) (by simp -implicitDefEqProofs (disch := omega) only [F_b_X12_matter_108, f_X12_matter_108, k_X12_matter_49_1, k_X12_matter_49_2, k_X12_matter_49_3, F_b_X12_matter_49, f_X12_matter_49, k_X12_matter_1, F_f_X12_matter, K91 hF, r0, iv_add, iv_sub, iv_mul, iv_neg, iv_zero, iv_ltT, iv_ltF, iv_leT, iv_leF, iv_eqT, iv_eqF, iv_div, rm_iv, tn_iv, ib_iv, some_cb, some_cbv, ↓nm_eq, ↓reduceIte, true_and, and_true, Bool.true_eq_false, Bool.false_eq_true, not_false_eq_true, not_true_eq_false])
  · obtain ⟨m, hm⟩ : ∃ m : Nat, (m : Int) = wM w := ⟨(wM w).toNat, by omega⟩
    have m4 : m < 4 := by omega
    rw [← hm] at c39
    have mt : (m : Int).toNat = m := Int.toNat_natCast m
    obtain ⟨h1, e1, M, g3, ok1⟩ := c_isRead hS
    obtain ⟨p0, p1, p2⟩ := rdT_pos hW
    have wt := hW.2.1
    obtain ⟨k1, n1, r1, j1, cc1, s1, i1⟩ := id M
    have hF1 : Fix h1 := hF.fr (fun a _ => k1 a) (fun a _ => n1 a) (fun a i _ _ _ _ => r1 a i)
    have hF2 : Fix (sI h1 4 2 (iv 0)) := hF1.fr (fun _ _ => rfl) (fun _ _ => rfl) (fun _ _ _ _ _ _ => rfl)
    have q2 : ∀ a i : Nat, 91 ≤ a → a ≤ 114 → gI (sI h1 4 2 (iv 0)) a i = gI h a i := fun a i y1 y2 => by
      rw [gI_sIo _ _ (by omega), i1 a i (by omega) (by omega)]
    have g39 : gI (sI h1 4 2 (iv 0)) 3 9 = iv m := by rw [gI_sIo _ _ (by omega), i1 _ _ (by omega) (by omega), c39]
    -- what the reference does with a heap whose rows are as they were
    have ref : ∀ hx : AH, Fix hx → (∀ a i : Nat, 91 ≤ a → a ≤ 114 → gI hx a i = gI h a i) → ∃ h4, QG hx h4 m ∧ Fix h4 ∧ gI h4 91 28 = iv (rdT w).2.1 ∧ gI h4 91 19 = iv 0 ∧ gI h4 91 0 = iv m ∧ ((rdT w).1 = 0 → f_X12_matter 91 hx = some (iv (-100 - (rdT w).2.1), h4)) ∧ ((rdT w).1 = 1 → f_X12_matter 91 hx = f_X12_matter_49 91 (iv m) (iv 0) h4 ∧ MaV h4 m (rdT w).2.2.length (byt w 1 - 48).toNat (byt w 3 - 48).toNat (fun j => (rdT w).2.2.getD j (fun _ => 0))) := by
      intro hx Fx ix
      have T := mt_QT hS Fx ix
      obtain ⟨h3, e3, Q3, F3, x28, x19, v3⟩ := q_readsM m4 T
      have x0 : gI hx 91 0 = iv m := by rw [ix _ _ (by omega) (by omega), hR.2.1, hm]
      have x0' : gI (sI hx 91 28 (iv 0)) 91 0 = iv m := by rw [gI_sIo _ _ (by omega)]; exact x0
      have y0 : gI h3 91 0 = iv m := by rw [Q3.2.2.2.2.2.2 _ _ (by omega) (by omega) (by omega) (by omega) (by omega)]; exact x0'
      refine ⟨sI h3 91 19 (iv 0), ((QG.put (by omega)).tr Q3).tr (QG.put (by omega)), F3.fr (fun _ _ => rfl) (fun _ _ => rfl) (fun _ _ _ _ _ _ => rfl), by rw [gI_sIo _ _ (by omega)]; exact x28, gI_sIs _ _ _ _, by rw [gI_sIo _ _ (by omega)]; exact y0, fun u => ?_, fun u => ⟨?_, ?_⟩⟩
      · rw [u] at e3
        simp -implicitDefEqProofs (disch := omega) only [F_f_X12_matter, k_X12_matter_1, K91 Fx, x0, x0', gK_sI, e3, K91 F3, gI_sIo, x28, iv_add, iv_sub, iv_mul, iv_neg, iv_zero, iv_ltT, iv_ltF, iv_leT, iv_leF, iv_eqT, iv_eqF, iv_div, rm_iv, tn_iv, ib_iv, some_cb, some_cbv, ↓nm_eq, ↓reduceIte, true_and, and_true, Bool.true_eq_false, Bool.false_eq_true, not_false_eq_true, not_true_eq_false]
      · rw [u] at e3
        simp -implicitDefEqProofs (disch := omega) only [F_f_X12_matter, k_X12_matter_1, K91 Fx, x0, x0', gK_sI, e3, K91 F3, gI_sIo, y0, iv_add, iv_sub, iv_mul, iv_neg, iv_zero, iv_ltT, iv_ltF, iv_leT, iv_leF, iv_eqT, iv_eqF, iv_div, rm_iv, tn_iv, ib_iv, some_cb, some_cbv, ↓nm_eq, ↓reduceIte, true_and, and_true, Bool.true_eq_false, Bool.false_eq_true, not_false_eq_true, not_true_eq_false]
      · obtain ⟨_, _, ⟨gG, gC'⟩, _, _⟩ := rdT_ok hW u
        obtain ⟨⟨v1, v2, v4⟩, v5⟩ := v3 u
        refine ⟨⟨by rw [gI_sIo _ _ (by omega), v1, gG], by rw [gI_sIo _ _ (by omega), v2, gC'], by rw [gI_sIo _ _ (by omega), v4]⟩, fun j hj => ?_⟩
        obtain ⟨u1, u2, u3⟩ := v5 j hj
        exact ⟨fun g hg => by rw [gI_sIo _ _ (by omega)]; exact u1 g hg, fun c hc => by rw [gI_sIo _ _ (by omega)]; exact u2 c hc, fun hc => by rw [gI_sIo _ _ (by omega)]; exact u3 hc⟩
    have ext2 : ∀ hq : AH, QG (sI h1 4 2 (iv 0)) hq m → Ext h hq := fun hq Q => by
      obtain ⟨z1, z2, z3, z4, z5, z6, z7⟩ := Q
      refine ⟨by rw [z5, gC_sI, cc1]; omega, by rw [z6, gS_sI, s1]; omega, by rw [z2, gN_sI, n1], ?_⟩
      funext i
      rw [z7 2 i (by omega) (by omega) (by omega) (by omega) (by omega), gI_sIo _ _ (by omega), i1 2 i (by omega) (by omega)]
    have exb2 : Exb h (sI h1 4 2 (iv 0)) := ⟨by rw [gN_sI, n1], funext (fun i => by rw [gI_sIo _ _ (by omega), i1 2 i (by omega) (by omega)]), K91 hF2⟩
    rcases p2 with u | u
    · obtain ⟨h4', Q4, F4, x28, x19, x0, f0, -⟩ := ref _ hF2 q2
      rw [u] at e1
      obtain ⟨w', sim⟩ := mt_fail hS hm m4 M Q4 x19
      refine ⟨iv (-100 - (rdT w).2.1), sI h1 4 2 (iv 0), h4', w', A, ?_, f0 u, sim, ext2 h4' Q4, exb2⟩
      simp -implicitDefEqProofs (disch := omega) only [k_X11_matter_42_1, F_f_X11_matter_42, k_X11_matter_1, k_X11_matter_2, F_f_X11_matter, K3 hF, c39, R3_0 hF, K4 hF, e1, K3 hF1, R3_0 hF1, K4 hF1, g3, iv_add, iv_sub, iv_mul, iv_neg, iv_zero, iv_ltT, iv_ltF, iv_leT, iv_leF, iv_eqT, iv_eqF, iv_div, rm_iv, tn_iv, ib_iv, some_cb, some_cbv, ↓nm_eq, ↓reduceIte, true_and, and_true, Bool.true_eq_false, Bool.false_eq_true, not_false_eq_true, not_true_eq_false]
    · obtain ⟨⟨gg1, gg2⟩, ⟨gc1, gc2⟩, ⟨eG, eC⟩, k12, rg⟩ := rdT_ok hW u
      obtain ⟨T1, v6⟩ := ok1 u
      have un := c_uneven (us := fun j => (rdT w).2.2.getD j (fun _ => 0)) T1 k12 gg1 gg2 gc1 gc2 v6 rg
      have ur := unF_rng (G := (byt w 1 - 48).toNat) (C := (byt w 3 - 48).toNat) (us := fun j => (rdT w).2.2.getD j (fun _ => 0)) (rdT w).2.2.length 0
      rw [u] at e1
      generalize hK : (rdT w).2.2.length = K at *
      generalize hG : (byt w 1 - 48).toNat = G at *
      generalize hC : (byt w 3 - 48).toNat = C at *
      generalize hus : (fun j => (rdT w).2.2.getD j (fun _ => 0)) = us at *
      have rg' : ∀ j, j < K → ∀ q, q < G + C → 0 ≤ us j q ∧ us j q ≤ 99 := by rw [← hus]; exact rg
      have v6' : ∀ j, j < K → ∀ q, q < G + C → gI h1 6 (j * (G + C) + q) = iv (us j q) := by rw [← hus]; exact v6
      by_cases z : unF G C us K 0 = -1
      · -- all are even
        have uok := unF_ok (G := G) (C := C) (us := us) K 0 z
        have ok : ∀ j, j < K → AdOK G C (us j) := fun j hj => ⟨rg' j hj, uok j (by omega) (by omega)⟩
        obtain ⟨⟨t1, t2, t3, t4, t5, t6, t7⟩, ⟨d1, d2, d3, d4, d5⟩, -⟩ := id T1
        have gC2 : gC (sI h1 4 2 (iv 0)) = gC h := cc1
        have nm := c_newMat (h := sI h1 4 2 (iv 0)) (us := us) (K := K) (G := G) (C := C) (by omega) t1 t3 t6 t7 (by rw [gI_sIo _ _ (by omega)]; exact d3) (by rw [gI_sIo _ _ (by omega)]; exact d4) (by rw [gI_sIo _ _ (by omega)]; exact d5) k12 gg1 gg2 gc1 gc2 (fun j hj q hq => by rw [gI_sIo _ _ (by omega)]; exact v6' j hj q hq) ok
        obtain ⟨i1', i2', i3', n1', n2', n3', n4', n5', n6', n7'⟩ := nbH_inv (h := sI h1 4 2 (iv 0)) (G := G) (C := C) (us := us) K
        rw [gC2] at nm i1' n1' n2' n3' n4' n5' n6' n7'
        obtain ⟨b1, b2, b3, b4, b5⟩ := i3' 7 (by omega)
        obtain ⟨a1, a2, a3, a4, a5⟩ := i3' 3 (by omega)
        have kx7 : gK (nbH (sI h1 4 2 (iv 0)) G C us K) 7 = 16 := by rw [b1]; exact K7 hF2
        have nx7 : gN (nbH (sI h1 4 2 (iv 0)) G C us K) 7 = 4 := by rw [b2]; exact N7 hF2
        have kx3 : gK (nbH (sI h1 4 2 (iv 0)) G C us K) 3 = 111 := by rw [a1]; exact K3 hF2
        have gx3 : gI (nbH (sI h1 4 2 (iv 0)) G C us K) 3 9 = iv m := by rw [a3, g39]
        have cl : f_X11_matter 3 h = some (iv m, fixH (nbH (sI h1 4 2 (iv 0)) G C us K) m (gC h)) := by
          unfold fixH
          rw [z] at un
          simp -implicitDefEqProofs (disch := omega) only [k_X11_matter_42_1, F_f_X11_matter_42, k_X11_matter_1, k_X11_matter_2, F_f_X11_matter, K3 hF, c39, R3_0 hF, K4 hF, e1, K3 hF1, R3_0 hF1, K4 hF1, g3, un, K3 hF2, R3_0 hF2, R3_1 hF2, K4 hF2, gK_sI, gR_sI, gK_sR, gI_sR, g39, nm, kx7, nx7, kx3, gx3, n1', mt, iv_add, iv_sub, iv_mul, iv_neg, iv_zero, iv_ltT, iv_ltF, iv_leT, iv_leF, iv_eqT, iv_eqF, iv_div, rm_iv, tn_iv, ib_iv, some_cb, some_cbv, ↓nm_eq, ↓reduceIte, true_and, and_true, Bool.true_eq_false, Bool.false_eq_true, not_false_eq_true, not_true_eq_false]
        have lowx : ∀ a, a < gC h → a ≠ 3 → a ≠ 7 → gK (fixH (nbH (sI h1 4 2 (iv 0)) G C us K) m (gC h)) a = gK h a ∧ gN (fixH (nbH (sI h1 4 2 (iv 0)) G C us K) m (gC h)) a = gN h a ∧ (∀ i, a ≠ 4 → a ≠ 6 → gI (fixH (nbH (sI h1 4 2 (iv 0)) G C us K) m (gC h)) a i = gI h a i) ∧ ∀ i, gR (fixH (nbH (sI h1 4 2 (iv 0)) G C us K) m (gC h)) a i = gR h a i := fun a ha y3 y7 => by
          obtain ⟨o1, o2, o3, o4, o5⟩ := fixH_o (hc := nbH (sI h1 4 2 (iv 0)) G C us K) (m := m) (a := gC h) y3 y7
          obtain ⟨x1, x2, x3, x4, x5⟩ := i3' a (by omega)
          exact ⟨o1.trans (x1.trans (k1 a)), o2.trans (x2.trans (n1 a)), fun i u4 u6 => by rw [o3, x3, gI_sIo _ _ (by omega), i1 a i (by omega) (by omega)], fun i => (o5 i).trans ((x5 i).trans (r1 a i))⟩
        have Fc : Fix (fixH (nbH (sI h1 4 2 (iv 0)) G C us K) m (gC h)) := by
          refine hF.fr (fun a ha => ?_) (fun a ha => ?_) (fun a i ha y7 _ _ => ?_)
          · by_cases y3 : a = 3
            · subst y3; exact a1.trans (k1 3)
            · by_cases y7 : a = 7
              · subst y7; exact b1.trans (k1 7)
              · exact (lowx a (by omega) y3 y7).1
          · by_cases y3 : a = 3
            · subst y3; exact a2.trans (n1 3)
            · by_cases y7 : a = 7
              · subst y7; exact b2.trans (n1 7)
              · exact (lowx a (by omega) y3 y7).2.1
          · by_cases y3 : a = 3
            · subst y3; exact (gR_sRo _ _ (by omega)).trans ((a5 i).trans (r1 3 i))
            · exact (lowx a (by omega) y3 y7).2.2.2 i
        have qc : ∀ a i : Nat, 91 ≤ a → a ≤ 114 → gI (fixH (nbH (sI h1 4 2 (iv 0)) G C us K) m (gC h)) a i = gI h a i := fun a i y1 y2 => (lowx a (by omega) (by omega) (by omega)).2.2.1 i (by omega) (by omega)
        obtain ⟨h4', Q4, F4, x28, x19, x0, -, f1⟩ := ref _ Fc qc
        obtain ⟨f2, V4⟩ := f1 u
        obtain ⟨h5, Q5, fr5, ev1, -⟩ := q_evens (us := us) m4 k12 gg1 gg2 gc1 gc2 rg' K FU 0 h4' (FU_gt (by omega)) (by omega) F4 V4
        obtain ⟨e5, B5⟩ := ev1 z
        change f_X12_matter_49 91 (iv m) (iv 0) h4' = _ at e5
        have F5 : Fix h5 := F4.fr (fun a _ => Q5.1 a) (fun a _ => Q5.2.1 a) (fun a i _ _ _ _ => Q5.2.2.1 a i)
        have x05 : gI h5 91 0 = iv m := by rw [fr5 _ _ (by omega)]; exact x0
        have e6 := q_empt m4 F5 x05
        obtain ⟨z1, z2, z3, z4, z5, z6, z7, z8⟩ := zwQ_f (h := h5) (m := m) 12
        have Q45 := Q4.tr Q5
        generalize zwQ h5 m 12 = hz at *
        have kf : ∀ a, gK (sI (sI hz 103 m (iv 0)) 91 0 (iv ((m : Int) + 1))) a = gK (fixH (nbH (sI h1 4 2 (iv 0)) G C us K) m (gC h)) a := fun a => by rw [gK_sI, gK_sI, z1, Q45.1]
        have nf : ∀ a, gN (sI (sI hz 103 m (iv 0)) 91 0 (iv ((m : Int) + 1))) a = gN (fixH (nbH (sI h1 4 2 (iv 0)) G C us K) m (gC h)) a := fun a => by rw [gN_sI, gN_sI, z2, Q45.2.1]
        have rf : ∀ a i, gR (sI (sI hz 103 m (iv 0)) 91 0 (iv ((m : Int) + 1))) a i = gR (fixH (nbH (sI h1 4 2 (iv 0)) G C us K) m (gC h)) a i := fun a i => by rw [gR_sI, gR_sI, z3, Q45.2.2.1]
        have jf : ∀ a i, gJ (sI (sI hz 103 m (iv 0)) 91 0 (iv ((m : Int) + 1))) a i = gJ (fixH (nbH (sI h1 4 2 (iv 0)) G C us K) m (gC h)) a i := fun a i => by rw [gJ_sI, gJ_sI, z4, Q45.2.2.2.1]
        have cf : gC (sI (sI hz 103 m (iv 0)) 91 0 (iv ((m : Int) + 1))) = gC (fixH (nbH (sI h1 4 2 (iv 0)) G C us K) m (gC h)) := by rw [gC_sI, gC_sI, z5, Q45.2.2.2.2.1]
        have fin : ∀ a i, (a ≠ 102 ∨ i < 12 * m ∨ 12 * m + 12 ≤ i) → (a ≠ 103 ∨ i ≠ m) → (a ≠ 91 ∨ i ≠ 0) → gI (sI (sI (hz) 103 m (iv 0)) 91 0 (iv ((m : Int) + 1))) a i = gI h5 a i := fun a i y1 y2 y3 => by
          rw [gI_sIo _ _ y3, gI_sIo _ _ y2, z7 _ _ y1]
        obtain ⟨⟨V41, V42, V43⟩, V44⟩ := V4
        have V6 : MaV (sI (sI (hz) 103 m (iv 0)) 91 0 (iv ((m : Int) + 1))) m K G C us := ⟨⟨by rw [fin _ _ (by omega) (by omega) (by omega), fr5 _ _ (by omega)]; exact V41, by rw [fin _ _ (by omega) (by omega) (by omega), fr5 _ _ (by omega)]; exact V42, by rw [fin _ _ (by omega) (by omega) (by omega), fr5 _ _ (by omega)]; exact V43⟩, fun j hj => by
          obtain ⟨y1, y2, y3⟩ := V44 j hj
          exact ⟨fun g hg => by rw [fin _ _ (by omega) (by omega) (by omega), fr5 _ _ (by omega)]; exact y1 g hg, fun c hc => by rw [fin _ _ (by omega) (by omega) (by omega), fr5 _ _ (by omega)]; exact y2 c hc, fun hc => by rw [fin _ _ (by omega) (by omega) (by omega), fr5 _ _ (by omega)]; exact y3 hc⟩⟩
        obtain ⟨w', A', sim⟩ := mt_ok (us := us) (hF := sI (sI (hz) 103 m (iv 0)) 91 0 (iv ((m : Int) + 1))) hS hm m4 M k12 gg1 gg2 gc1 gc2 ok kf nf rf jf cf (fun a i y1 y2 => by
          unfold ZM at y2
          rw [fin a i (by omega) (by omega) (by omega), Q45.2.2.2.2.2.2 a i (by omega) (by omega) (by omega) (by omega) (by omega)]) (gI_sIs _ _ _ _) (by rw [fin _ _ (by omega) (by omega) (by omega), fr5 _ _ (by omega)]; exact x19) V6 (fun j hj => by
          obtain ⟨y1, y2, y3⟩ := B5 j (by omega) hj
          exact ⟨by rw [fin _ _ (by omega) (by omega) (by omega)]; exact y1, by rw [fin _ _ (by omega) (by omega) (by omega)]; exact y2, by rw [fin _ _ (by omega) (by omega) (by omega)]; exact y3⟩) (fun p hp => by rw [gI_sIo _ _ (by omega), gI_sIo _ _ (by omega)]; exact z8 p hp) (by rw [gI_sIo _ _ (by omega), gI_sIs])
        have gf : gC (fixH (nbH (sI h1 4 2 (iv 0)) G C us K) m (gC h)) = gC (nbH (sI h1 4 2 (iv 0)) G C us K) := rfl
        have sf : gS (fixH (nbH (sI h1 4 2 (iv 0)) G C us K) m (gC h)) = gS (nbH (sI h1 4 2 (iv 0)) G C us K) := rfl
        refine ⟨iv m, _, _, w', A', cl, by rw [f2, e5, e6], sim, ⟨?_, ?_, ?_, ?_⟩, (lowx 2 (by omega) (by omega) (by omega)).2.1, funext (fun i => (lowx 2 (by omega) (by omega) (by omega)).2.2.1 i (by omega) (by omega)), K91 Fc⟩
        · rw [gC_sI, gC_sI, z5, Q45.2.2.2.2.1, gf, i1']; omega
        · rw [gS_sI, gS_sI, z6, Q45.2.2.2.2.2.1, sf, i2', gS_sI, s1]; omega
        · rw [gN_sI, gN_sI, z2, Q45.2.1, (lowx 2 (by omega) (by omega) (by omega)).2.1]
        · funext i
          rw [fin _ _ (by omega) (by omega) (by omega), Q45.2.2.2.2.2.2 _ _ (by omega) (by omega) (by omega) (by omega) (by omega), (lowx 2 (by omega) (by omega) (by omega)).2.2.1 i (by omega) (by omega)]
      · obtain ⟨h4', Q4, F4, x28, x19, x0, -, f1⟩ := ref _ hF2 q2
        obtain ⟨f2, V4⟩ := f1 u
        obtain ⟨h5, Q5, fr5, -, ev2⟩ := q_evens (us := us) m4 k12 gg1 gg2 gc1 gc2 rg' K FU 0 h4' (FU_gt (by omega)) (by omega) F4 V4
        have e5 := ev2 z
        change f_X12_matter_49 91 (iv m) (iv 0) h4' = _ at e5
        have Q45 := Q4.tr Q5
        have x195 : gI h5 91 19 = iv 0 := by rw [fr5 _ _ (by omega)]; exact x19
        obtain ⟨w', sim⟩ := mt_fail hS hm m4 M Q45 x195
        refine ⟨iv (-400 - unF G C us K 0), sI h1 4 2 (iv 0), h5, w', A, ?_, by rw [f2, e5], sim, ext2 h5 Q45, exb2⟩
        generalize unF G C us K 0 = y at *
        simp -implicitDefEqProofs (disch := omega) only [k_X11_matter_42_1, F_f_X11_matter_42, k_X11_matter_1, k_X11_matter_2, F_f_X11_matter, K3 hF, c39, R3_0 hF, K4 hF, e1, K3 hF1, R3_0 hF1, K4 hF1, g3, un, iv_add, iv_sub, iv_mul, iv_neg, iv_zero, iv_ltT, iv_ltF, iv_leT, iv_leF, iv_eqT, iv_eqF, iv_div, rm_iv, tn_iv, ib_iv, some_cb, some_cbv, ↓nm_eq, ↓reduceIte, true_and, and_true, Bool.true_eq_false, Bool.false_eq_true, not_false_eq_true, not_true_eq_false]
end Q
