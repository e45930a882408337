/-! the class prepares its walk: what falls due; and goes -/
section Q
variable {w : WD} {A : Int → Nat} {h hh h' : AH} {m g k : Int} {S N : Int32}
def FD (hh h' : AH) : Prop := (∀ a i : Nat, a ≠ 22 → gI h' a i = gI hh a i) ∧ ∀ a i : Nat, gR h' a i = gR hh a i
theorem FD.rf (h : AH) : FD h h := ⟨fun _ _ _ => rfl, fun _ _ => rfl⟩
theorem FD.tr {h1 h2 h3 : AH} (a : FD h1 h2) (b : FD h2 h3) : FD h1 h3 := ⟨fun x i y => (b.1 x i y).trans (a.1 x i y), fun x i => (b.2 x i).trans (a.2 x i)⟩
theorem FD.sI {h1 h2 : AH} (a : FD h1 h2) (i : Nat) (v : Int32) : FD h1 (sI h2 22 i v) := ⟨fun y j y1 => by rw [gI_sIo _ _ (Or.inl y1)]; exact a.1 y j y1, a.2⟩
set_option maxRecDepth 100000 in
theorem c_sd2 (hS : Sim w A h) (hl : lvM w m) : ∀ (n L l : Nat) (hh : AH), n < L → l + n = (lvs w m S).length + 1 → Sc w A h hh → gI hh 16 12 = iv ((lvs w m S).length : Int) → (∀ i : Nat, i < l → gI hh 22 i = iv 0) → ∃ h1 : AH, lp b_X3_setDue_2 (fun _ _ _ _ => none) L 16 S (iv l) hh = f_X3_setDue_25 16 S (iv 0) h1 ∧ Sc w A h h1 ∧ FD hh h1 ∧ ∀ i : Nat, i < (lvs w m S).length + 1 → gI h1 22 i = iv 0 := by
  have hLn := lvs_len (S := S) hS.W hl
  intro n
  induction n with
  | zero =>
    intro L l hh hL hn sc h12 hz
    obtain ⟨L, rfl⟩ : ∃ L', L = L' + 1 := ⟨L - 1, by omega⟩
    have hF := (hS.sc sc).F
    refine ⟨hh, ?_, sc, FD.rf hh, fun i hi => hz i (by omega)⟩
    simp -implicitDefEqProofs (disch := omega) only [lp_succ, F_b_X3_setDue_2, K16 hF, h12, iv_add, iv_sub, iv_mul, iv_neg, iv_zero, iv_ltT, iv_ltF, iv_leT, iv_leF, iv_eqT, iv_eqF, iv_div, rm_iv, tn_iv, ib_iv, some_cb, some_cbv, ↓nm_eq, ↓reduceIte, true_and, and_true, Bool.true_eq_false, Bool.false_eq_true, not_false_eq_true, not_true_eq_false]
  | succ n ih =>
    intro L l hh hL hn sc h12 hz
    obtain ⟨L, rfl⟩ : ∃ L', L = L' + 1 := ⟨L - 1, by omega⟩
    have hF := (hS.sc sc).F
    obtain ⟨h1, f1, f2, f3, f4⟩ := ih L (l + 1) (sI hh 22 l (iv 0)) (by omega) (by omega) (sc.sI (kp19 (by omega) _)) (by rw [gI_sIo _ _ (Or.inl (by omega)), h12]) (fun i hi => by
      by_cases e : i = l
      · rw [e, gI_sIs]
      · rw [gI_sIo _ _ (Or.inr e)]; exact hz i (by omega))
    refine ⟨h1, ?_, f2, ((FD.rf hh).sI _ _).tr f3, f4⟩
    rw [← f1, show ((l + 1 : Nat) : Int) = (l : Int) + 1 by omega]
    simp -implicitDefEqProofs (disch := omega) only [lp_succ, F_b_X3_setDue_2, K16 hF, R16_8 hF, K22 hF, N22 hF, h12, Int.toNat_natCast, iv_add, iv_sub, iv_mul, iv_neg, iv_zero, iv_ltT, iv_ltF, iv_leT, iv_leF, iv_eqT, iv_eqF, iv_div, rm_iv, tn_iv, ib_iv, some_cb, some_cbv, ↓nm_eq, ↓reduceIte, true_and, and_true, Bool.true_eq_false, Bool.false_eq_true, not_false_eq_true, not_true_eq_false]
def DueK (w : WD) (m : Int) (S : Int32) (hh : AH) (j : Int) : Prop := ∀ l : Nat, l ≤ (lvs w m S).length → ∃ D : Nat, D < 256 ∧ gI hh 22 l = iv (D : Int) ∧ ∀ i : Int, 0 ≤ i → i ≤ 11 → (D.testBit i.toNat = true ↔ (i < j ∧ bt S i ∧ dueN w m S i + 1 = l))
set_option maxRecDepth 100000 in
theorem c_sd25 (hS : Sim w A h) (hl : lvM w m) : ∀ (n L : Nat) (j : Int) (hh : AH), n < L → 0 ≤ j → j + n = wH w m → Sc w A h hh → gR hh 16 10 = A m → (∀ b : Int, 0 ≤ b → b < wBx w m → gI hh 19 b.toNat = iv (lvB w m S b)) → DueK w m S hh j → ∃ h1 : AH, lp b_X3_setDue_25 (fun _ _ _ _ => none) L 16 S (iv j) hh = some h1 ∧ Sc w A h h1 ∧ FD hh h1 ∧ DueK w m S h1 (wH w m) := by
  have hW := hS.W
  have hLn := lvs_len (S := S) hS.W hl
  obtain ⟨-, -, ⟨b2, b3⟩, ⟨hh1, hh2⟩, -, hH⟩ := hW.mat hl
  intro n
  induction n with
  | zero =>
    intro L j hh hL j0 hj sc h10 h19 hD
    obtain ⟨L, rfl⟩ : ∃ L', L = L' + 1 := ⟨L - 1, by omega⟩
    have sim := hS.sc sc
    have hF := sim.F
    have hM := sim.M hl
    refine ⟨hh, ?_, sc, FD.rf hh, by rw [show wH w m = j by omega]; exact hD⟩
    simp -implicitDefEqProofs (disch := omega) only [lp_succ, F_b_X3_setDue_25, K16 hF, h10, oM_k hM, oM_6 hM, iv_add, iv_sub, iv_mul, iv_neg, iv_zero, iv_ltT, iv_ltF, iv_leT, iv_leF, iv_eqT, iv_eqF, iv_div, rm_iv, tn_iv, ib_iv, some_cb, some_cbv, ↓nm_eq, ↓reduceIte, true_and, and_true, Bool.true_eq_false, Bool.false_eq_true, not_false_eq_true, not_true_eq_false]
  | succ n ih =>
    intro L j hh hL j0 hj sc h10 h19 hD
    obtain ⟨L, rfl⟩ : ∃ L', L = L' + 1 := ⟨L - 1, by omega⟩
    have sim := hS.sc sc
    have hF := sim.F
    have hM := sim.M hl
    by_cases z : bt S j
    · have z1 : (S >>> (iv j &&& 31)) &&& iv 1 = iv 1 := z
      obtain ⟨⟨s0, s1⟩, -, ⟨bb0, bb1⟩, ⟨o0, o1⟩, ⟨u0, u1⟩, ot⟩ := hH j j0 (by omega)
      obtain ⟨p1, p2, p3, p4, p5, p6⟩ := sim.H hl j0 (show j < wH w m by omega)
      have rj := oM_h hM j0 (show j < wH w m by omega)
      have r1 := lvB_rng (S := S) (m := m) (w := w) (n := (wBx w m).toNat) bb0 (by omega)
      have r2 := dueN_rng (S := S) hW hl j0 (show j < wH w m by omega)
      have r3 : -1 ≤ dueN w m S j := by
        unfold dueN
        by_cases y : 2 ≤ hSo w (12 * m + j)
        · rw [if_pos y]; omega
        · rw [if_neg y]; omega
      obtain ⟨lev, hlev⟩ : ∃ lev : Nat, dueN w m S j + 1 = lev := ⟨(dueN w m S j + 1).toNat, by omega⟩
      obtain ⟨D, D1, D2, D3⟩ := hD lev (by omega)
      obtain ⟨q1, q2⟩ := B2 ⟨D, D1⟩ ⟨j.toNat, by omega⟩
      dsimp only at q1 q2
      rw [show ((j.toNat : Nat) : Int) = j by omega] at q1
      obtain ⟨h1, f1, f2, f3, f4⟩ := ih L (j + 1) (sI hh 22 lev (iv ((D ||| 2 ^ j.toNat : Nat) : Int))) (by omega) (by omega) (by omega) (sc.sI (kp19 (by omega) _)) h10 (fun b y0 y1 => by rw [gI_sIo _ _ (Or.inl (by omega))]; exact h19 b y0 y1) (fun l hl' => by
        by_cases e : l = lev
        · refine ⟨D ||| 2 ^ j.toNat, q2, by rw [e, gI_sIs], fun i i0 i1 => ?_⟩
          rw [Nat.testBit_or, Nat.testBit_two_pow, Bool.or_eq_true, D3 i i0 i1, decide_eq_true_iff]
          constructor
          · rintro (⟨y1, y2, y3⟩ | y)
            · exact ⟨by omega, y2, by omega⟩
            · have : i = j := by omega
              subst this
              exact ⟨by omega, z, by omega⟩
          · rintro ⟨y1, y2, y3⟩
            by_cases e2 : i = j
            · exact Or.inr (by omega)
            · exact Or.inl ⟨by omega, y2, by omega⟩
        · obtain ⟨E, E1, E2, E3⟩ := hD l hl'
          refine ⟨E, E1, by rw [gI_sIo _ _ (Or.inr e)]; exact E2, fun i i0 i1 => ?_⟩
          rw [E3 i i0 i1]
          constructor
          · rintro ⟨y1, y2, y3⟩; exact ⟨by omega, y2, y3⟩
          · rintro ⟨y1, y2, y3⟩
            refine ⟨?_, y2, y3⟩
            by_cases e2 : i = j
            · subst e2; omega
            · omega)
      refine ⟨h1, ?_, f2, ((FD.rf hh).sI _ _).tr f3, f4⟩
      have e19 := h19 _ bb0 bb1
      rw [← f1, ← q1]
      have etl : (dueN w m S j + 1).toNat = lev := by omega
      by_cases y : 2 ≤ hSo w (12 * m + j)
      · have o2 := (ot y).1
        have e19' := h19 _ o0 o2
        have r4 := lvB_rng (S := S) (m := m) (w := w) (n := (wBx w m).toNat) o0 (by omega)
        have ed : max (lvB w m S (hBo w (12 * m + j))) (lvB w m S (hOt w (12 * m + j))) = dueN w m S j := by unfold dueN; rw [if_pos y]
        simp -implicitDefEqProofs (disch := omega) only [lp_succ, F_b_X3_setDue_25, k_X3_setDue_25_1, k_X3_setDue_25_2, F_f_X3_setDue_91, F_f_X1_isOfTwo, K16 hF, h10, oM_k hM, oM_6 hM, oM_3 hM, oM_k2 hM, oM_n2 hM, rj, p1, p2, p4, p5, z1, R16_5 hF, K19 hF, N19 hF, R16_8 hF, K22 hF, N22 hF, e19, e19', j_max, ed, etl, D2, zret0, zret1, iv_add, iv_sub, iv_mul, iv_neg, iv_zero, iv_ltT, iv_ltF, iv_leT, iv_leF, iv_eqT, iv_eqF, iv_div, rm_iv, tn_iv, ib_iv, some_cb, some_cbv, ↓nm_eq, ↓reduceIte, true_and, and_true, Bool.true_eq_false, Bool.false_eq_true, not_false_eq_true, not_true_eq_false]
      · have ed : lvB w m S (hBo w (12 * m + j)) = dueN w m S j := by unfold dueN; rw [if_neg y]
        rw [ed] at e19
        simp -implicitDefEqProofs (disch := omega) only [lp_succ, F_b_X3_setDue_25, k_X3_setDue_25_1, k_X3_setDue_25_2, F_f_X3_setDue_91, F_f_X1_isOfTwo, K16 hF, h10, oM_k hM, oM_6 hM, oM_3 hM, oM_k2 hM, oM_n2 hM, rj, p1, p2, p4, p5, z1, R16_5 hF, K19 hF, N19 hF, R16_8 hF, K22 hF, N22 hF, e19, etl, D2, zret0, zret1, iv_add, iv_sub, iv_mul, iv_neg, iv_zero, iv_ltT, iv_ltF, iv_leT, iv_leF, iv_eqT, iv_eqF, iv_div, rm_iv, tn_iv, ib_iv, some_cb, some_cbv, ↓nm_eq, ↓reduceIte, true_and, and_true, Bool.true_eq_false, Bool.false_eq_true, not_false_eq_true, not_true_eq_false]
    · have z0 := bt_0 S j0 (by omega) z
      obtain ⟨h1, f1, f2, f3, f4⟩ := ih L (j + 1) hh (by omega) (by omega) (by omega) sc h10 h19 (fun l hl' => by
        obtain ⟨E, E1, E2, E3⟩ := hD l hl'
        refine ⟨E, E1, E2, fun i i0 i1 => ?_⟩
        rw [E3 i i0 i1]
        constructor
        · rintro ⟨y1, y2, y3⟩; exact ⟨by omega, y2, y3⟩
        · rintro ⟨y1, y2, y3⟩
          refine ⟨?_, y2, y3⟩
          by_cases e2 : i = j
          · subst e2; exact absurd y2 z
          · omega)
      refine ⟨h1, ?_, f2, f3, f4⟩
      rw [← f1]
      simp -implicitDefEqProofs (disch := omega) only [lp_succ, F_b_X3_setDue_25, K16 hF, h10, oM_k hM, oM_6 hM, z0, iv_add, iv_sub, iv_mul, iv_neg, iv_zero, iv_ltT, iv_ltF, iv_leT, iv_leF, iv_eqT, iv_eqF, iv_div, rm_iv, tn_iv, ib_iv, some_cb, some_cbv, ↓nm_eq, ↓reduceIte, true_and, and_true, Bool.true_eq_false, Bool.false_eq_true, not_false_eq_true, not_true_eq_false]
set_option maxRecDepth 100000 in
theorem c_prepare (hS : Sim w A h) (hl : lvM w m) (S : Int32) (g0 : 0 ≤ g) (g1 : g < wGr w m) (k0 : 0 ≤ k) (k1 : k < wCh w m) (sc : Sc w A h hh) {p : Int} (hp : p = 3 * g + k) : ∃ h1 : AH, f_X3_prepare 16 (A m) S (iv p) hh = some h1 ∧ Sc w A h h1 ∧ KS w A m S g k h1 ∧ gI h1 16 0 = iv 0 ∧ (∀ i : Nat, 13 ≤ i → gI h1 16 i = gI hh 16 i) ∧ ∀ i : Nat, gI h1 23 i = gI hh 23 i := by
  subst hp
  have hW := hS.W
  obtain ⟨⟨gg1, gg2⟩, ⟨gc1, gc2⟩, ⟨b2, b3⟩, ⟨hh1, hh2⟩, -⟩ := hW.mat hl
  obtain ⟨h2, eh2⟩ : ∃ h2, sI (sI (sI (sR hh 16 10 (A m)) 16 11 (iv (3 * g + k))) 16 0 (iv 0)) 16 12 (iv 0) = h2 := ⟨_, rfl⟩
  obtain ⟨h2', eh2'⟩ : ∃ h2', sI (sI (sR hh 16 10 (A m)) 16 11 (iv (3 * g + k))) 16 0 (iv 0) = h2' := ⟨_, rfl⟩
  have sc2' : Sc w A h h2' := by rw [← eh2']; exact ((sc.sR (Or.inr ⟨rfl, rfl⟩)).sI (k16 _)).sI (k16 _)
  have sc2 : Sc w A h h2 := by rw [← eh2]; exact (((sc.sR (Or.inr ⟨rfl, rfl⟩)).sI (k16 _)).sI (k16 _)).sI (k16 _)
  have r10' : gR h2' 16 10 = A m := by rw [← eh2']; exact gR_sRs _ _ _ _
  have r10 : gR h2 16 10 = A m := by rw [← eh2]; exact gR_sRs _ _ _ _
  have r11 : gI h2 16 11 = iv (3 * g + k) := by rw [← eh2, gI_s16 _ _ (by omega), gI_s16 _ _ (by omega), gI_sIs]
  have r0 : gI h2 16 0 = iv 0 := by rw [← eh2, gI_s16 _ _ (by omega), gI_sIs]
  have r12 : gI h2 16 12 = iv 0 := by rw [← eh2, gI_sIs]
  have rr : ∀ i : Nat, 13 ≤ i → gI h2 16 i = gI hh 16 i := fun i hi => by rw [← eh2, gI_s16 _ _ (by omega), gI_s16 _ _ (by omega), gI_s16 _ _ (by omega)]; rfl
  have rr23 : ∀ i : Nat, gI h2 23 i = gI hh 23 i := fun i => by rw [← eh2, gI_sIo _ _ (by omega), gI_sIo _ _ (by omega), gI_sIo _ _ (by omega)]; rfl
  have sim := hS.sc sc
  have hF := sim.F
  have sim2 := hS.sc sc2
  have hF2 := sim2.F
  have sim2' := hS.sc sc2'
  have hF2' := sim2'.F
  have hM2' := sim2'.M hl
  have hM2 := sim2.M hl
  obtain ⟨N, eN, hN⟩ := c_named sim2' hl S
  obtain ⟨h3, f1, f2, f3, ⟨f4, f5, f6⟩, f7⟩ := c_sl22 (S := S) hS hl hN g0 g1 k0 k1 (wBx w m).toNat FU 0 h2 (FU_gt (by omega)) (by omega) sc2 r10 r11 ⟨r12, fun b y0 y1 => by omega, fun d r b e => absurd e (by unfold gzL; simp)⟩
  have sim3 := hS.sc f2
  have hF3 := sim3.F
  have hLn := lvs_len (S := S) hW hl
  have e10 : gR h3 16 10 = A m := by rw [f3.2 _ _ (by omega), r10]
  obtain ⟨h4, g1', g2', g3', g4'⟩ := c_sd2 (S := S) hS hl ((lvs w m S).length + 1) FU 0 h3 (FU_gt (by omega)) (by omega) f2 f4 (fun i hi => by omega)
  have h19 : ∀ b : Int, 0 ≤ b → b < wBx w m → gI h4 19 b.toNat = iv (lvB w m S b) := fun b y0 y1 => by rw [g3'.1 _ _ (by omega)]; exact f5 b y0 (by omega)
  obtain ⟨h5, i1, i2, i3, i4⟩ := c_sd25 (S := S) hS hl (wH w m).toNat FU 0 h4 (FU_gt (by omega)) (by omega) (by omega) g2' (by rw [g3'.2, e10]) h19 (fun l hl' => ⟨0, by omega, by rw [g4' l (by omega)]; rfl, fun i i0 i1 => by
    rw [Nat.zero_testBit]
    constructor
    · intro y; exact absurd y (by decide)
    · rintro ⟨y1, -⟩; omega⟩)
  have fr : ∀ a i : Nat, a ≠ 22 → gI h5 a i = gI h3 a i := fun a i ha => by rw [i3.1 a i ha, g3'.1 a i ha]
  have frR : ∀ a i : Nat, gR h5 a i = gR h3 a i := fun a i => by rw [i3.2, g3'.2]
  refine ⟨h5, ?_, i2, ⟨by rw [frR, e10], ?_, by rw [fr _ _ (by omega), f4]; rfl, fun b y0 y1 => by rw [fr _ _ (by omega)]; exact f5 b y0 (by omega), fun d r b e => by rw [frR]; exact f6 d r b e, fun d r e => ?_, i4⟩, ?_, fun i hi => ?_, fun i => ?_⟩
  · change lp b_X3_setLevels_22 (fun _ _ _ _ _ _ => none) FU 16 N (iv 0) (iv 0) (iv 0) h2 = some h3 at f1
    change lp b_X3_setDue_2 (fun _ _ _ _ => none) FU 16 S (iv 0) h3 = lp b_X3_setDue_25 (fun _ _ _ _ => none) FU 16 S (iv 0) h4 at g1'
    rw [← eh2, ← eh2'] at *
    simp -implicitDefEqProofs (disch := omega) only [F_f_X3_prepare, k_X3_prepare_1, k_X3_prepare_2, F_f_X3_setLevels, k_X3_setLevels_1, f_X3_setLevels_22, F_f_X3_setDue, f_X3_setDue_2, K16 hF, gK_sI, gK_sR, true_or, bo0, r10', oM_k hM2', eN, f1, K16 hF3, g1', i1, iv_add, iv_sub, iv_mul, iv_neg, iv_zero, iv_ltT, iv_ltF, iv_leT, iv_leF, iv_eqT, iv_eqF, iv_div, rm_iv, tn_iv, ib_iv, some_cb, some_cbv, ↓nm_eq, ↓reduceIte, true_and, and_true, Bool.true_eq_false, Bool.false_eq_true, not_false_eq_true, not_true_eq_false]
  · rw [fr _ _ (by omega), f3.1 _ _ (by omega) (by omega) (by omega) (by omega) (by omega), r11]
  · rw [fr _ _ (by omega), fr _ _ (by omega)]; exact f7 d r e (by omega)
  · rw [fr _ _ (by omega), f3.1 _ _ (by omega) (by omega) (by omega) (by omega) (by omega), r0]
  · rw [fr _ _ (by omega), f3.1 _ _ (by omega) (by omega) (by omega) (by omega) (by omega), rr i hi]
  · rw [fr _ _ (by omega), f3.1 _ _ (by omega) (by omega) (by omega) (by omega) (by omega), rr23 i]
end Q
