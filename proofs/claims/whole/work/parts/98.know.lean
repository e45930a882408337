/-! a way of knowing more -/
section Q
variable {w w' : WD} {A A' : Int → Nat} {h h' h1 : AH}
def aU (A : Int → Nat) (q : Int) (a : Nat) : Int → Nat := fun x => if x = q then a else A x
theorem aU_at (A : Int → Nat) (q : Int) (a : Nat) : aU A q a q = a := if_pos rfl
theorem aU_o (A : Int → Nat) {q x : Int} (a : Nat) (e : x ≠ q) : aU A q a x = A x := if_neg e
theorem Sep.add (H : Sep w A h) {q0 : Int} {a : Nat} (e : ∀ q, lvq w' q → q = q0 ∨ (q ≠ q0 ∧ lvq w q)) (g : gC h ≤ a) (g0 : 121 ≤ gC h) (g1 : a + sz q0 ≤ gC h') : Sep w' (aU A q0 a) h' := by
  intro q hq
  rcases e q hq with z | ⟨z, zl⟩
  · subst z
    rw [aU_at]
    refine ⟨by omega, g1, fun q' hq' hne => ?_⟩
    rcases e q' hq' with y | ⟨y, yl⟩
    · exact absurd y.symm hne
    · rw [aU_o A a y]
      have := (H q' yl).2.1
      omega
  · rw [aU_o A a z]
    obtain ⟨z1, z2, z3⟩ := H q zl
    refine ⟨z1, by omega, fun q' hq' hne => ?_⟩
    rcases e q' hq' with y | ⟨y, yl⟩
    · subst y
      rw [aU_at]
      omega
    · rw [aU_o A a y]
      exact z3 q' yl hne
theorem Sim_know (hS : Sim w A h) {x : Int} (x0 : 0 ≤ x) (x1 : x ≤ 6) (hK : wK w < 50) : Sim (wZ (wZ w 110 (wK w) x) 91 20 (wK w + 1)) (aU A (110 + wK w) (gC h)) (sI (sI (sI (sR (sR (sI (sI (nw h 102 3) (gC h) 0 (iv (wK w))) (gC h) 1 (iv x)) (gC h) 2 10) 8 (wK w).toNat (gC h)) 3 10 (iv (wK w + 1))) 110 (wK w).toNat (iv x)) 91 20 (iv (wK w + 1))) := by
  have hg := hS.gc
  have hW := hS.W
  obtain ⟨a1, a2, a3, a4, a5, a6, a7, a8, a9⟩ := id hW
  have q1 : QS w (sI (sR (sR (sI (sI (nw h 102 3) (gC h) 0 (iv (wK w))) (gC h) 1 (iv x)) (gC h) 2 10) 8 (wK w).toNat (gC h)) 3 10 (iv (wK w + 1))) := (((((hS.Q.nw hg).sI (by omega)).sI (by omega)).sR (by omega)).sR (by omega)).sI (by omega)
  have rr := RR_w91 (z := 20) (v := wK w + 1) (RR_wZ (a := 110) (z := wK w) (v := x) q1.R (by omega) (by omega) a3.1) (by omega)
  have eo : ∀ (a : Nat) (i : Int), (a ≠ 110 ∨ i ≠ wK w) → (a ≠ 91 ∨ i ≠ 20) → (wZ (wZ w 110 (wK w) x) 91 20 (wK w + 1)).1 a i = w.1 a i := fun a i y z => (wZ_o _ z).trans (wZ_o _ y)
  have e20 : wK (wZ (wZ w 110 (wK w) x) 91 20 (wK w + 1)) = wK w + 1 := wZ_at _ _ _ _
  have eX : wKi (wZ (wZ w 110 (wK w) x) 91 20 (wK w + 1)) (wK w) = x := by
    show (wZ (wZ w 110 (wK w) x) 91 20 (wK w + 1)).1 110 (wK w) = x
    rw [wZ_o _ (by omega), wZ_at]
  have e2 : ∀ i, (wZ (wZ w 110 (wK w) x) 91 20 (wK w + 1)).2 i = w.2 i := fun _ => rfl
  generalize wZ (wZ w 110 (wK w) x) 91 20 (wK w + 1) = w' at *
  have B : ∀ c m : Nat, c + m ≤ gC h → (c + m ≤ 3 ∨ 3 < c) → (c + m ≤ 8 ∨ 8 < c) → (c + m ≤ 91 ∨ 91 < c) → (c + m ≤ 110 ∨ 110 < c) → Blk h (sI (sI (sI (sR (sR (sI (sI (nw h 102 3) (gC h) 0 (iv (wK w))) (gC h) 1 (iv x)) (gC h) 2 10) 8 (wK w).toNat (gC h)) 3 10 (iv (wK w + 1))) 110 (wK w).toNat (iv x)) 91 20 (iv (wK w + 1))) c m := fun c m z0 z1 z2 z3 z4 => (((((((((Blk.rf h c m).nw (by omega)).sI (by omega)).sI (by omega)).sR (by omega)).sR (by omega)).sI (by omega)).sI (by omega)).sI (by omega))
  have eM : wM w' = wM w := eo 91 0 (by omega) (by omega)
  have eB : ∀ m, wBx w' m = wBx w m := fun m => eo 94 m (by omega) (by omega)
  have eH : ∀ m, wH w' m = wH w m := fun m => eo 103 m (by omega) (by omega)
  have eP : ∀ m y g, wP w' m y g = wP w m y g := fun m y g => by
    unfold wP wGr wG
    rw [eo 92 _ (by omega) (by omega), eo 95 _ (by omega) (by omega)]
  have hw : ∀ (a : Nat) (i : Int), 92 ≤ a → a ≤ 108 → w'.1 a i = w.1 a i := fun a i y z => eo a i (by omega) (by omega)
  have lv : ∀ m, lvM w' m = lvM w m := fun m => lvM_el eM
  have lm : ∀ {m}, lvM w m → m < 4 := fun {m} hm => by have := hm.2; omega
  have lb : ∀ {m b}, lvM w m → 0 ≤ b → b < wBx w m → 0 ≤ m ∧ b < 12 := fun {m b} hm b0 b1 => by have := (hW.mat hm).2.2.1; have := hm.1; omega
  have lh : ∀ {m k}, lvM w m → 0 ≤ k → k < wH w m → 0 ≤ m ∧ k < 8 := fun {m k} hm b0 b1 => by have := (hW.mat hm).2.2.2.1; have := hm.1; omega
  refine ⟨?_, rr, ?_, ?_, fun m hm => ?_, fun m b hm b0 b1 => ?_, fun m k hm k0 k1 => ?_, fun k k0 k1 => ?_, fun s s0 s1 => ?_, ?_, ?_, fun m b hm b0 b1 => ?_⟩
  · exact q1.F.fr (fun _ _ => rfl) (fun _ _ => rfl) (fun _ _ _ _ _ _ => rfl)
  · refine ⟨by rw [eM]; exact a1, by rw [show wT w' = wT w from eo 91 19 (by omega) (by omega)]; exact a2, by rw [e20]; omega, fun i i0 i1 => by rw [show wTa w' i = wTa w i from eo 109 i (by omega) (by omega)]; exact a4 i i0 i1, fun k k0 k1 => ?_, fun m hm => by rw [matOK_el hw]; rw [lv] at hm; exact a6 m hm, fun m b hm b0 b1 => by rw [boxOK_el hw]; rw [lv] at hm; rw [eB] at b1; exact a7 m b hm b0 b1, fun s s0 s1 => ?_, by rw [show wBo w' = wBo w from eo 91 23 (by omega) (by omega)]; exact a9⟩
    · rw [e20] at k1
      by_cases e : k = wK w
      · rw [e, eX]; omega
      · rw [show wKi w' k = wKi w k from eo 110 k (by omega) (by omega)]
        exact a5 k k0 (by omega)
    · have := a8 s s0 s1
      unfold shOK at this ⊢
      rw [e20, show sIs w' s = sIs w s from eo 112 s (by omega) (by omega), show sSo w' s = sSo w s from eo 113 s (by omega) (by omega), show sSz w' s = sSz w s from eo 114 s (by omega) (by omega)]
      omega
  · obtain ⟨c1, c2, c3, c4, c5, c6, c7, c8⟩ := hS.C
    unfold Cls
    rw [eM, e20, show wT w' = wT w from eo 91 19 (by omega) (by omega), show wBo w' = wBo w from eo 91 23 (by omega) (by omega)]
    have z4 := (B 4 4 (by omega) (by omega) (by omega) (by omega) (by omega))
    have z9 := (B 9 3 (by omega) (by omega) (by omega) (by omega) (by omega))
    refine ⟨?_, ?_, by rw [(z4 4 (by omega) (by omega)).2.2.1, c3], fun i y z => by rw [(z4 5 (by omega) (by omega)).2.2.1, c4 i y z, show wTa w' i = wTa w i from eo 109 i (by omega) (by omega)], fun i y z => by rw [(z9 11 (by omega) (by omega)).2.2.1, c5 i y z, show wTr w' i = wTr w i from eo 111 i (by omega) (by omega)], by rw [(z9 10 (by omega) (by omega)).2.2.1, c6], fun m hm => ?_, fun k k0 k1 => ?_⟩
    · rw [gI_sIo _ _ (by omega), gI_sIo _ _ (by omega), gI_sIo _ _ (by omega)]
      show gI (sI (sI (nw h 102 3) (gC h) 0 (iv (wK w))) (gC h) 1 (iv x)) 3 9 = _
      rw [gI_sIo _ _ (by omega), gI_sIo _ _ (by omega), gI_nwo _ _ _ _ (by omega), c1]
    · rw [gI_sIo _ _ (by omega), gI_sIo _ _ (by omega), gI_sIs]
    · rw [lv] at hm
      have := lm hm
      rw [(z4 7 (by omega) (by omega)).2.2.2.2, c7 m hm, aU_o]
      omega
    · show gR (sR (sR (sI (sI (nw h 102 3) (gC h) 0 (iv (wK w))) (gC h) 1 (iv x)) (gC h) 2 10) 8 (wK w).toNat (gC h)) 8 k.toNat = _
      by_cases e : k = wK w
      · rw [e, gR_sRs, aU_at]
      · rw [gR_sRo _ _ (by omega), gR_sRo _ _ (by omega)]
        show gR (nw h 102 3) 8 k.toNat = _
        rw [gR_nwo _ _ _ _ (by omega), c8 k k0 (by omega), aU_o _ _ (by omega)]
  · rw [lv] at hm
    have := lm hm
    have := hS.aM hm
    have tm := hS.tM hm
    have l0 := hm.1
    exact (hS.M hm).kp (B _ _ tm (by omega) (by omega) (by omega) (by omega)) (aU_o _ _ (by omega)) (eo 92 _ (by omega) (by omega)) (eo 93 _ (by omega) (by omega)) (eB m) (eH m) (fun p _ _ => eo 102 _ (by omega) (by omega)) (fun b y z => aU_o _ _ (by have := lb hm y z; omega)) (fun k y z => aU_o _ _ (by have := lh hm y z; omega))
  · rw [lv] at hm
    rw [eB] at b1
    have := lm hm
    have := lb hm b0 b1
    have := hS.aB hm b0 b1
    exact (hS.B hm b0 b1).kp (B _ _ (hS.tB hm b0 b1) (by omega) (by omega) (by omega) (by omega)) (aU_o _ _ (by omega)) (aU_o _ _ (by omega)) (eo 92 _ (by omega) (by omega)) (fun g _ _ => eP m _ g) (fun _ _ _ => eo 96 _ (by omega) (by omega)) (eo 100 _ (by omega) (by omega)) (fun _ _ _ => eo 101 _ (by omega) (by omega)) (eo 98 _ (by omega) (by omega)) (fun _ _ _ => eo 99 _ (by omega) (by omega)) (eo 97 _ (by omega) (by omega)) (eo 93 _ (by omega) (by omega))
  · rw [lv] at hm
    rw [eH] at k1
    have := lm hm
    have := lh hm k0 k1
    have := hS.aH hm k0 k1
    exact (hS.H hm k0 k1).kp (B _ _ (hS.tH hm k0 k1) (by omega) (by omega) (by omega) (by omega)) (aU_o _ _ (by omega)) (eo 104 _ (by omega) (by omega)) (eo 105 _ (by omega) (by omega)) (eo 106 _ (by omega) (by omega)) (eo 107 _ (by omega) (by omega)) (eo 108 _ (by omega) (by omega))
  · rw [e20] at k1
    by_cases e : k = wK w
    · unfold ObK
      rw [e, aU_at, eX]
      have eK : ∀ a, gK (sI (sI (sI (sR (sR (sI (sI (nw h 102 3) (gC h) 0 (iv (wK w))) (gC h) 1 (iv x)) (gC h) 2 10) 8 (wK w).toNat (gC h)) 3 10 (iv (wK w + 1))) 110 (wK w).toNat (iv x)) 91 20 (iv (wK w + 1))) a = gK (nw h 102 3) a := fun _ => rfl
      refine ⟨by rw [eK, gK_nws], ?_, ?_, ?_⟩
      · rw [gI_sIo _ _ (by omega), gI_sIo _ _ (by omega), gI_sIo _ _ (by omega)]
        show gI (sI (sI (nw h 102 3) (gC h) 0 (iv (wK w))) (gC h) 1 (iv x)) (gC h) 0 = _
        rw [gI_sIo _ _ (by omega), gI_sIs]
      · rw [gI_sIo _ _ (by omega), gI_sIo _ _ (by omega), gI_sIo _ _ (by omega)]
        show gI (sI (sI (nw h 102 3) (gC h) 0 (iv (wK w))) (gC h) 1 (iv x)) (gC h) 1 = _
        rw [gI_sIs]
      · show gR (sR (sR (sI (sI (nw h 102 3) (gC h) 0 (iv (wK w))) (gC h) 1 (iv x)) (gC h) 2 10) 8 (wK w).toNat (gC h)) (gC h) 2 = 10
        rw [gR_sRo _ _ (by omega), gR_sRs]
    · have k1' : k < wK w := by omega
      have := hS.aK k0 k1'
      exact (hS.K k0 k1').kp (B _ _ (hS.tK k0 k1') (by omega) (by omega) (by omega) (by omega)) (aU_o _ _ (by omega)) (eo 110 _ (by omega) (by omega))
  · have := (a8 s s0 s1).1
    exact (hS.S s0 s1).kp (B _ _ (by omega) (by omega) (by omega) (by omega) (by omega)) (eo 113 _ (by omega) (by omega)) (eo 114 _ (by omega) (by omega)) (eo 112 _ (by omega) (by omega)) (fun _ => aU_o _ _ (by omega)) (fun i _ _ => e2 _)
  · refine hS.sep.add (q0 := 110 + wK w) (fun q hq => ?_) (Nat.le_refl _) hg ?_
    · unfold lvq at hq ⊢
      rcases hq with z | ⟨m, b, z1, z2, z3, z4⟩ | ⟨m, k, z1, z2, z3, z4⟩ | ⟨k, z1, z2, z3⟩
      · rw [lv] at z
        have := lm z
        exact Or.inr ⟨by omega, Or.inl z⟩
      · rw [lv] at z1
        rw [eB] at z3
        have := lm z1
        have := lb z1 z2 z3
        exact Or.inr ⟨by omega, Or.inr (Or.inl ⟨m, b, z1, z2, z3, z4⟩)⟩
      · rw [lv] at z1
        rw [eH] at z3
        have := lm z1
        have := lh z1 z2 z3
        exact Or.inr ⟨by omega, Or.inr (Or.inr (Or.inl ⟨m, k, z1, z2, z3, z4⟩))⟩
      · rw [e20] at z2
        by_cases e : k = wK w
        · exact Or.inl (by omega)
        · exact Or.inr ⟨by omega, Or.inr (Or.inr (Or.inr ⟨k, z1, by omega, z3⟩))⟩
    · show gC h + sz (110 + wK w) ≤ gC h + 1
      unfold sz
      rw [if_neg (by omega), if_neg (by omega)]
      omega
  · show 121 ≤ gC h + 1
    omega
  · rw [lv] at hm
    rw [eB] at b1
    have := lm hm
    have := lb hm b0 b1
    have := hS.aB hm b0 b1
    have y := hS.wy m b hm b0 b1
    rw [aU_o _ _ (by omega), ((B _ _ (hS.tB hm b0 b1) (by omega) (by omega) (by omega) (by omega)) _ (Nat.le_refl _) (by omega)).2.2.2.1]
    unfold cnX at y ⊢
    rw [eP, eP, eP, eP, show wC w' (12 * m + b) 0 = wC w (12 * m + b) 0 from eo 96 _ (by omega) (by omega), show wC w' (12 * m + b) 1 = wC w (12 * m + b) 1 from eo 96 _ (by omega) (by omega), show wC w' (12 * m + b) 2 = wC w (12 * m + b) 2 from eo 96 _ (by omega) (by omega)]
    exact y
theorem nz102 : ((102 : Nat) = 0) = False := eq_false (by decide)
theorem nz101 : ((101 : Nat) = 0) = False := eq_false (by decide)
theorem nz105 : ((105 : Nat) = 0) = False := eq_false (by decide)
theorem nz106 : ((106 : Nat) = 0) = False := eq_false (by decide)
theorem nz100 : ((100 : Nat) = 0) = False := eq_false (by decide)
set_option maxRecDepth 100000 in
theorem M_knowing (hS : Sim w A h) (x1 : Int32) : Both (f_X11_knowing 3 x1) (f_X12_knowing 91 x1) h := by
  obtain ⟨x, rfl, t1, t2⟩ := iv_ex x1
  have hF := hS.F
  have hR := hS.R
  obtain ⟨kw1, kw2⟩ := hS.W.2.2.1
  have e10 : gI h 3 10 = iv (wK w) := hS.C.2.1
  by_cases hx : 0 ≤ x ∧ x ≤ 6
  · by_cases hK : wK w < 50
    · have hg := hS.gc
      have gc0 : ¬ gC h = 0 := by omega
      have sim := Sim_know hS hx.1 hx.2 hK
      have q1 : QS w (sI (sR (sR (sI (sI (nw h 102 3) (gC h) 0 (iv (wK w))) (gC h) 1 (iv x)) (gC h) 2 10) 8 (wK w).toNat (gC h)) 3 10 (iv (wK w + 1))) := (((((hS.Q.nw hg).sI (by omega)).sI (by omega)).sR (by omega)).sR (by omega)).sI (by omega)
      refine ⟨iv (wK w), sI (sR (sR (sI (sI (nw h 102 3) (gC h) 0 (iv (wK w))) (gC h) 1 (iv x)) (gC h) 2 10) 8 (wK w).toNat (gC h)) 3 10 (iv (wK w + 1)), _, _, _, ?_, ?_, sim, ⟨by show gC h + 1 ≤ gC h + 100; omega, by show gS h + 3 ≤ gS h + 500; omega, ?_, ?_⟩, ?_, ?_, K91 q1.F⟩
      · simp -implicitDefEqProofs (disch := omega) only [k_X11_knowing_1, F_f_X11_knowing, F_f_X2_init, K3 hF, e10, gc0, nz102, gK_nws, gK_nwo, gN_nwo, gI_nwo, gR_nwo, gK_sI, gK_sR, gN_sI, gN_sR, gR_sI, gI_sR, gI_sIo, R3_2 hF, R3_4 hF, K8 hF, N8 hF, iv_add, iv_sub, iv_mul, iv_neg, iv_zero, iv_ltT, iv_ltF, iv_leT, iv_leF, iv_eqT, iv_eqF, iv_div, rm_iv, tn_iv, ib_iv, some_cb, some_cbv, ↓nm_eq, ↓reduceIte, true_and, and_true, Bool.true_eq_false, Bool.false_eq_true, not_false_eq_true, not_true_eq_false]
      · have hF1 := q1.F
        have r20 := q1.R.2.2.2.1
        generalize sI (sR (sR (sI (sI (nw h 102 3) (gC h) 0 (iv (wK w))) (gC h) 1 (iv x)) (gC h) 2 10) 8 (wK w).toNat (gC h)) 3 10 (iv (wK w + 1)) = h1 at *
        simp -implicitDefEqProofs (disch := omega) only [k_X12_knowing_1, F_f_X12_knowing, q_in1, K91 hF1, R91_21 hF1, K110 hF1, N110 hF1, r20, gK_sI, gN_sI, gR_sI, gI_sIo, gI_sIs, Int.add_sub_cancel, iv_add, iv_sub, iv_mul, iv_neg, iv_zero, iv_ltT, iv_ltF, iv_leT, iv_leF, iv_eqT, iv_eqF, iv_div, rm_iv, tn_iv, ib_iv, some_cb, some_cbv, ↓nm_eq, ↓reduceIte, true_and, and_true, Bool.true_eq_false, Bool.false_eq_true, not_false_eq_true, not_true_eq_false]
      · show gN (nw h 102 3) 2 = _
        rw [gN_nwo _ _ _ (by omega)]
      · funext i
        rw [gI_sIo _ _ (by omega), gI_sIo _ _ (by omega), gI_sIo _ _ (by omega)]
        show gI (sI (sI (nw h 102 3) (gC h) 0 (iv (wK w))) (gC h) 1 (iv x)) 2 i = _
        rw [gI_sIo _ _ (by omega), gI_sIo _ _ (by omega), gI_nwo _ _ _ _ (by omega)]
      · show gN (nw h 102 3) 2 = _
        rw [gN_nwo _ _ _ (by omega)]
      · funext i
        rw [gI_sIo _ _ (by omega)]
        show gI (sI (sI (nw h 102 3) (gC h) 0 (iv (wK w))) (gC h) 1 (iv x)) 2 i = _
        rw [gI_sIo _ _ (by omega), gI_sIo _ _ (by omega), gI_nwo _ _ _ _ (by omega)]
    · have eK : wK w = 50 := by omega
      rw [eK] at e10
      have r20 : gI h 91 20 = iv 50 := by rw [← eK]; exact hR.2.2.2.1
      exact Both.still hS (r := iv (-3)) (by simp -implicitDefEqProofs (disch := omega) only [k_X11_knowing_1, F_f_X11_knowing, K3 hF, e10, iv_add, iv_sub, iv_mul, iv_neg, iv_zero, iv_ltT, iv_ltF, iv_leT, iv_leF, iv_eqT, iv_eqF, iv_div, rm_iv, tn_iv, ib_iv, some_cb, some_cbv, ↓nm_eq, ↓reduceIte, true_and, and_true, Bool.true_eq_false, Bool.false_eq_true, not_false_eq_true, not_true_eq_false]) (by simp -implicitDefEqProofs (disch := omega) only [k_X12_knowing_1, F_f_X12_knowing, q_in1, K91 hF, r20, iv_add, iv_sub, iv_mul, iv_neg, iv_zero, iv_ltT, iv_ltF, iv_leT, iv_leF, iv_eqT, iv_eqF, iv_div, rm_iv, tn_iv, ib_iv, some_cb, some_cbv, ↓nm_eq, ↓reduceIte, true_and, and_true, Bool.true_eq_false, Bool.false_eq_true, not_false_eq_true, not_true_eq_false])
  · exact Both.still hS (r := iv (-1)) (by by_cases q : 0 ≤ x <;> simp -implicitDefEqProofs (disch := omega) only [k_X11_knowing_1, F_f_X11_knowing, iv_add, iv_sub, iv_mul, iv_neg, iv_zero, iv_ltT, iv_ltF, iv_leT, iv_leF, iv_eqT, iv_eqF, iv_div, rm_iv, tn_iv, ib_iv, some_cb, some_cbv, ↓nm_eq, ↓reduceIte, true_and, and_true, Bool.true_eq_false, Bool.false_eq_true, not_false_eq_true, not_true_eq_false]) (by simp -implicitDefEqProofs (disch := omega) only [k_X12_knowing_1, F_f_X12_knowing, q_in0, iv_add, iv_sub, iv_mul, iv_neg, iv_zero, iv_ltT, iv_ltF, iv_leT, iv_leF, iv_eqT, iv_eqF, iv_div, rm_iv, tn_iv, ib_iv, some_cb, some_cbv, ↓nm_eq, ↓reduceIte, true_and, and_true, Bool.true_eq_false, Bool.false_eq_true, not_false_eq_true, not_true_eq_false])
end Q
