/-! the class prepares its walk: levels, ends from each level on, what falls due -/
section Q
variable {w : WD} {A : Int → Nat} {h hh h' : AH} {m g k : Int} {S N : Int32}
def FL (hh h' : AH) : Prop := (∀ a i : Nat, a ≠ 19 → a ≠ 20 → a ≠ 21 → a ≠ 22 → ¬ (a = 16 ∧ i = 12) → gI h' a i = gI hh a i) ∧ ∀ a i : Nat, a ≠ 18 → gR h' a i = gR hh a i
theorem FL.rf (h : AH) : FL h h := ⟨fun _ _ _ _ _ _ _ => rfl, fun _ _ _ => rfl⟩
theorem FL.tr {h1 h2 h3 : AH} (a : FL h1 h2) (b : FL h2 h3) : FL h1 h3 := ⟨fun x i y1 y2 y3 y4 y5 => (b.1 x i y1 y2 y3 y4 y5).trans (a.1 x i y1 y2 y3 y4 y5), fun x i y => (b.2 x i y).trans (a.2 x i y)⟩
theorem FL.sI {h1 h2 : AH} (a : FL h1 h2) {x i : Nat} (v : Int32) (hx : x = 19 ∨ x = 20 ∨ x = 21 ∨ x = 22 ∨ (x = 16 ∧ i = 12)) : FL h1 (sI h2 x i v) := ⟨fun y j y1 y2 y3 y4 y5 => by rw [gI_sIo _ _ (by omega)]; exact a.1 y j y1 y2 y3 y4 y5, a.2⟩
theorem FL.sR {h1 h2 : AH} (a : FL h1 h2) (i v : Nat) : FL h1 (sR h2 18 i v) := ⟨a.1, fun y j y1 => by rw [gR_sRo _ _ (Or.inl y1)]; exact a.2 y j y1⟩
theorem kp19 {a : Nat} (ha : a = 19 ∨ a = 20 ∨ a = 21 ∨ a = 22 ∨ a = 16) (i : Nat) : ¬ kpI a i := by unfold kpI; omega
def LV (w : WD) (A : Int → Nat) (m : Int) (S : Int32) (hh : AH) (j : Nat) : Prop := gI hh 16 12 = iv ((gzL w m S j).length : Int) ∧ (∀ b : Int, 0 ≤ b → b < j → gI hh 19 b.toNat = iv (lvB w m S b)) ∧ ∀ (d r : List Int) (b : Int), gzL w m S j = d ++ b :: r → gR hh 18 d.length = A (10 + (12 * m + b))
def Rows2 (w : WD) (m : Int) (S : Int32) (g k : Int) (hh : AH) (n : Nat) : Prop := ∀ d r : List Int, lvs w m S = d ++ r → n ≤ d.length → gI hh 20 d.length = iv (uLe w m S g k (wBx w m).toNat + sLe w m g k r) ∧ gI hh 21 d.length = iv (uMo w m S g k (wBx w m).toNat + sMo w m g k r)
set_option maxRecDepth 100000 in
theorem c_sl177 (hS : Sim w A h) (hl : lvM w m) (g0 : 0 ≤ g) (g1 : g < wGr w m) (k0 : 0 ≤ k) (k1 : k < wCh w m) : ∀ (n : Nat) (L : Nat) (hh : AH) (d r : List Int), d.length = n → n < L → lvs w m S = d ++ r → Sc w A h hh → gI hh 16 11 = iv (3 * g + k) → (∀ (d r : List Int) (b : Int), lvs w m S = d ++ b :: r → gR hh 18 d.length = A (10 + (12 * m + b))) → Rows2 w m S g k hh n → ∃ h' : AH, lp b_X3_setLevels_177 (fun _ _ _ => none) L 16 (iv ((n : Int) - 1)) hh = some h' ∧ Sc w A h h' ∧ Rows2 w m S g k h' 0 ∧ (∀ a i : Nat, a ≠ 20 → a ≠ 21 → gI h' a i = gI hh a i) ∧ ∀ a i : Nat, gR h' a i = gR hh a i := by
  have hW := hS.W
  obtain ⟨⟨gg1, gg2⟩, ⟨gc1, gc2⟩, ⟨b2, b3⟩, -⟩ := hW.mat hl
  have hL := lvs_len (S := S) hW hl
  have hU := uRng (S := S) hW hl g0 g1 k0 k1 (wBx w m).toNat (by omega)
  intro n
  induction n with
  | zero =>
    intro L hh d r hdn hn hd sc h11 h18 hr
    obtain ⟨L, rfl⟩ : ∃ L', L = L' + 1 := ⟨L - 1, by omega⟩
    refine ⟨hh, ?_, sc, hr, fun _ _ _ _ => rfl, fun _ _ => rfl⟩
    rw [show ((0 : Nat) : Int) - 1 = -1 by omega]
    simp -implicitDefEqProofs (disch := omega) only [lp_succ, F_b_X3_setLevels_177, iv_add, iv_sub, iv_mul, iv_neg, iv_zero, iv_ltT, iv_ltF, iv_leT, iv_leF, iv_eqT, iv_eqF, iv_div, rm_iv, tn_iv, ib_iv, some_cb, some_cbv, ↓nm_eq, ↓reduceIte, true_and, and_true, Bool.true_eq_false, Bool.false_eq_true, not_false_eq_true, not_true_eq_false]
  | succ n ih =>
    intro L hh d r hdn hn hd sc h11 h18 hr
    obtain ⟨L, rfl⟩ : ∃ L', L = L' + 1 := ⟨L - 1, by omega⟩
    have sim := hS.sc sc
    have hF := sim.F
    rcases List.eq_nil_or_concat d with e | ⟨d0, b, e⟩
    · rw [e] at hdn; exact absurd hdn (by simp)
    · subst e
      rw [List.concat_eq_append] at hdn hd
      rw [List.length_append, List.length_singleton] at hdn
      have hd0 : d0.length = n := by omega
      have hd1 : lvs w m S = d0 ++ b :: r := by rw [hd, List.append_assoc]; rfl
      have hlen : (lvs w m S).length = d0.length + (r.length + 1) := by rw [hd1, List.length_append, List.length_cons]
      obtain ⟨bb0, bb1, bg⟩ := lvs_mem (w := w) (m := m) (S := S) (b := b) (by rw [hd1]; simp)
      have hR := sRng hW hl g0 g1 k0 k1 r (fun x hx => by
        obtain ⟨y0, y1, -⟩ := lvs_mem (w := w) (m := m) (S := S) (b := x) (by rw [hd1]; exact List.mem_append_right _ (List.mem_cons_of_mem _ hx))
        exact ⟨y0, y1⟩)
      have hw := le_rng2 hW hl bb0 bb1 g0 g1 k0 k1
      obtain ⟨y1, y2⟩ := hr (d0 ++ [b]) r hd (by rw [List.length_append, List.length_singleton]; omega)
      rw [List.length_append, List.length_singleton, hd0] at y1 y2
      have y3 := h18 d0 r b hd1
      rw [hd0] at y3
      have hB := sim.B hl bb0 bb1
      have l1 := c_least sim hl bb0 bb1 g0 g1 k0 k1
      obtain ⟨v1, hv1⟩ : ∃ v, uLe w m S g k (wBx w m).toNat + sLe w m g k r + wLe w m (12 * m + b) g k = v := ⟨_, rfl⟩
      obtain ⟨v2, hv2⟩ : ∃ v, uMo w m S g k (wBx w m).toNat + sMo w m g k r + wMo w m (12 * m + b) g k = v := ⟨_, rfl⟩
      have sc1 : Sc w A h (sI hh 20 n (iv v1)) := sc.sI (kp19 (by omega) _)
      have sim1 := hS.sc sc1
      have l2 := c_most sim1 hl bb0 bb1 g0 g1 k0 k1
      have sc2 : Sc w A h (sI (sI hh 20 n (iv v1)) 21 n (iv v2)) := sc1.sI (kp19 (by omega) _)
      have z1 : gI (sI hh 20 n (iv v1)) 16 11 = iv (3 * g + k) := by rw [gI_sIo _ _ (Or.inl (by omega)), h11]
      have z2 : gI (sI hh 20 n (iv v1)) 21 (n + 1) = gI hh 21 (n + 1) := gI_sIo _ _ (Or.inl (by omega))
      obtain ⟨h', f1, f2, f3, f4, f5⟩ := ih L (sI (sI hh 20 n (iv v1)) 21 n (iv v2)) d0 (b :: r) hd0 (by omega) hd1 sc2 (by rw [gI_sIo _ _ (Or.inl (by omega)), z1]) h18 (fun d' r' e hd' => by
        by_cases q : d'.length = n
        · obtain ⟨q1, q2⟩ := List.append_inj (e.symm.trans hd1) (by omega)
          rw [q, gI_sIo _ _ (Or.inl (by omega)), gI_sIs, gI_sIs, q2, ← hv1, ← hv2]
          show iv _ = iv (_ + (wLe w m (12 * m + b) g k + sLe w m g k r)) ∧ iv _ = iv (_ + (wMo w m (12 * m + b) g k + sMo w m g k r))
          exact ⟨by congr 1; omega, by congr 1; omega⟩
        · rw [gI_sIo _ _ (Or.inl (by omega)), gI_sIo _ _ (Or.inr q), gI_sIo _ _ (Or.inr q), gI_sIo _ _ (Or.inl (by omega))]
          exact hr d' r' e (by omega))
      refine ⟨h', ?_, f2, f3, fun a i a0 a1 => by rw [f4 a i a0 a1, gI_sIo _ _ (Or.inl a1), gI_sIo _ _ (Or.inl a0)], fun a i => by rw [f5]; rfl⟩
      have e1 : ((n + 1 : Nat) : Int) - 1 = n := by omega
      have e2 : ((n : Int) + 1).toNat = n + 1 := by omega
      rw [e1, ← f1, show (n : Int) - 1 = (n : Int) + -1 by omega]
      simp -implicitDefEqProofs (disch := omega) only [lp_succ, F_b_X3_setLevels_177, k_X3_setLevels_177_1, k_X3_setLevels_177_2, K16 hF, R16_4 hF, K18 hF, N18 hF, R16_6 hF, K20 hF, N20 hF, R16_7 hF, K21 hF, N21 hF, gK_sI, gN_sI, gR_sI, Int.toNat_natCast, e2, y1, y2, y3, h11, z1, z2, oB_k hB, l1, l2, hv1, hv2, iv_add, iv_sub, iv_mul, iv_neg, iv_zero, iv_ltT, iv_ltF, iv_leT, iv_leF, iv_eqT, iv_eqF, iv_div, rm_iv, tn_iv, ib_iv, some_cb, some_cbv, ↓nm_eq, ↓reduceIte, true_and, and_true, Bool.true_eq_false, Bool.false_eq_true, not_false_eq_true, not_true_eq_false]
set_option maxRecDepth 100000 in
theorem c_sl22 (hS : Sim w A h) (hl : lvM w m) (hN : ∀ b : Int, 0 ≤ b → b ≤ 11 → (bt N b ↔ nmB w m S b)) (g0 : 0 ≤ g) (g1 : g < wGr w m) (k0 : 0 ≤ k) (k1 : k < wCh w m) : ∀ (n L j : Nat) (hh : AH), n < L → ((j + n : Nat) : Int) = wBx w m → Sc w A h hh → gR hh 16 10 = A m → gI hh 16 11 = iv (3 * g + k) → LV w A m S hh j → ∃ h' : AH, lp b_X3_setLevels_22 (fun _ _ _ _ _ _ => none) L 16 N (iv (uLe w m S g k j)) (iv (uMo w m S g k j)) (iv j) hh = some h' ∧ Sc w A h h' ∧ FL hh h' ∧ LV w A m S h' (wBx w m).toNat ∧ Rows2 w m S g k h' 0 := by
  have hW := hS.W
  obtain ⟨⟨gg1, gg2⟩, ⟨gc1, gc2⟩, ⟨b2, b3⟩, -⟩ := hW.mat hl
  intro n
  induction n with
  | zero =>
    intro L j hh hL hj sc h10 h11 hV
    obtain ⟨L, rfl⟩ : ∃ L', L = L' + 1 := ⟨L - 1, by omega⟩
    have sim := hS.sc sc
    have hF := sim.F
    have hM := sim.M hl
    have ej : (wBx w m).toNat = j := by omega
    obtain ⟨v1, v2, v3⟩ := id hV
    have hLn := lvs_len (S := S) hW hl
    have hU := uRng (S := S) hW hl g0 g1 k0 k1 j (by omega)
    unfold lvs at hLn
    rw [ej] at hLn
    obtain ⟨len, hlen⟩ : ∃ len, (gzL w m S j).length = len := ⟨_, rfl⟩
    rw [hlen] at hLn v1
    have sc2 : Sc w A h (sI (sI hh 20 len (iv (uLe w m S g k j))) 21 len (iv (uMo w m S g k j))) := (sc.sI (kp19 (by omega) _)).sI (kp19 (by omega) _)
    have z1 : gI (sI hh 20 len (iv (uLe w m S g k j))) 16 12 = iv (len : Int) := by rw [gI_sIo _ _ (Or.inl (by omega)), v1]
    have z2 : gI (sI (sI hh 20 len (iv (uLe w m S g k j))) 21 len (iv (uMo w m S g k j))) 16 12 = iv (len : Int) := by rw [gI_sIo _ _ (Or.inl (by omega)), z1]
    obtain ⟨h', f1, f2, f3, f4, f5⟩ := c_sl177 (S := S) hS hl g0 g1 k0 k1 len FU (sI (sI hh 20 len (iv (uLe w m S g k j))) 21 len (iv (uMo w m S g k j))) (lvs w m S) [] (by unfold lvs; rw [ej]; exact hlen) (FU_gt (by omega)) (by simp) sc2 (by rw [gI_sIo _ _ (Or.inl (by omega)), gI_sIo _ _ (Or.inl (by omega)), h11]) (by unfold lvs; rw [ej]; exact v3) (fun d r e hd => by
      have e' : d.length + r.length = len := by rw [← hlen, ← List.length_append]; unfold lvs at e; rw [ej] at e; rw [e]
      have : r = [] := List.length_eq_zero_iff.mp (by omega)
      subst this
      rw [show d.length = len by simp at e'; exact e', gI_sIo _ _ (Or.inl (by omega)), gI_sIs, gI_sIs, ej]
      show iv _ = iv (_ + 0) ∧ iv _ = iv (_ + 0)
      rw [Int.add_zero, Int.add_zero]
      exact ⟨rfl, rfl⟩)
    refine ⟨h', ?_, f2, ⟨fun a i a1 a2 a3 a4 a5 => ?_, fun a i _ => ?_⟩, ⟨?_, fun b c0 c1 => ?_, fun d r b e => ?_⟩, f3⟩
    · have e2 : (j : Int) = wBx w m := by omega
      rw [← f1, e2]
      simp -implicitDefEqProofs (disch := omega) only [lp_succ, F_b_X3_setLevels_22, f_X3_setLevels_177, K16 hF, h10, oM_k hM, oM_5 hM, R16_6 hF, K20 hF, N20 hF, R16_7 hF, K21 hF, N21 hF, gK_sI, gN_sI, gR_sI, Int.toNat_natCast, v1, z1, z2, iv_add, iv_sub, iv_mul, iv_neg, iv_zero, iv_ltT, iv_ltF, iv_leT, iv_leF, iv_eqT, iv_eqF, iv_div, rm_iv, tn_iv, ib_iv, some_cb, some_cbv, ↓nm_eq, ↓reduceIte, true_and, and_true, Bool.true_eq_false, Bool.false_eq_true, not_false_eq_true, not_true_eq_false]
    · rw [f4 a i a2 a3, gI_sIo _ _ (Or.inl a3), gI_sIo _ _ (Or.inl a2)]
    · rw [f5]; rfl
    · rw [f4 _ _ (by omega) (by omega), z2, ej, hlen]
    · rw [f4 _ _ (by omega) (by omega), gI_sIo _ _ (Or.inl (by omega)), gI_sIo _ _ (Or.inl (by omega))]
      exact v2 b c0 (by omega)
    · rw [f5]
      exact v3 d r b (by rw [← ej]; exact e)
  | succ n ih =>
    intro L j hh hL hj sc h10 h11 hV
    obtain ⟨L, rfl⟩ : ∃ L', L = L' + 1 := ⟨L - 1, by omega⟩
    have sim := hS.sc sc
    have hF := sim.F
    have hM := sim.M hl
    have hB := sim.B hl (b := j) (by omega) (by omega)
    obtain ⟨v1, v2, v3⟩ := id hV
    have hLn := gzL_len (w := w) (m := m) (S := S) j
    have hU := uRng (S := S) hW hl g0 g1 k0 k1 j (by omega)
    obtain ⟨-, -, -, -, -, wo, -⟩ := hW.box hl (b := j) (by omega) (by omega)
    obtain ⟨len, hlen⟩ : ∃ len, (gzL w m S j).length = len := ⟨_, rfl⟩
    rw [hlen] at hLn v1
    have s1 : uLe w m S g k (j + 1) = uLe w m S g k j + if gz w m S j = true then 0 else wLe w m (12 * m + j) g k := rfl
    have s2 : uMo w m S g k (j + 1) = uMo w m S g k j + if gz w m S j = true then 0 else wMo w m (12 * m + j) g k := rfl
    have ob := oM_b hM (b := (j : Int)) (by omega) (by omega)
    rw [Int.toNat_natCast] at ob
    have lvj : lvB w m S j = if gz w m S j = true then (len : Int) else -1 := by unfold lvB; rw [Int.toNat_natCast, hlen]
    by_cases y : gz w m S j = true
    · obtain ⟨nm, o⟩ := gz_iff.1 y
      have z1 : (N >>> (iv j &&& 31)) &&& iv 1 = iv 1 := (nb_bt hN (b := j) (by omega) (by omega)).1 nm
      have scx : Sc w A h (sR (sI (sI hh 19 j (iv len)) 16 12 (iv ((len : Int) + 1))) 18 len (A (10 + (12 * m + j)))) := ((sc.sI (kp19 (by omega) _)).sI (kp19 (by omega) _)).sR (Or.inl rfl)
      have fl : FL hh (sR (sI (sI hh 19 j (iv len)) 16 12 (iv ((len : Int) + 1))) 18 len (A (10 + (12 * m + j)))) := (((FL.rf hh).sI _ (by omega)).sI _ (by omega)).sR _ _
      have hV1 : LV w A m S (sR (sI (sI hh 19 j (iv len)) 16 12 (iv ((len : Int) + 1))) 18 len (A (10 + (12 * m + j)))) (j + 1) := by
        refine ⟨?_, ?_, ?_⟩
        · show gI (sI (sI hh 19 j (iv len)) 16 12 (iv ((len : Int) + 1))) 16 12 = _
          rw [gI_sIs, gzL_y y, List.length_append, List.length_singleton, hlen]
          congr 1
        · intro b c0 c1
          show gI (sI (sI hh 19 j (iv len)) 16 12 (iv ((len : Int) + 1))) 19 b.toNat = _
          rw [gI_sIo _ _ (Or.inl (by omega))]
          by_cases e : b = j
          · subst e; rw [Int.toNat_natCast, gI_sIs, lvj, if_pos y]
          · rw [gI_sIo _ _ (Or.inr (by omega))]; exact v2 b c0 (by omega)
        · intro d r b e
          rw [gzL_y y] at e
          rcases List.eq_nil_or_concat r with q | ⟨r', x, q⟩
          · subst q
            obtain ⟨y1, y2⟩ := List.append_inj' e rfl
            injection y2 with y3 _
            rw [← y1, hlen, gR_sRs, ← y3]
          · subst q
            rw [List.concat_eq_append] at e
            have e' : gzL w m S j ++ [(j : Int)] = (d ++ b :: r') ++ [x] := by rw [e]; simp
            obtain ⟨y1, y2⟩ := List.append_inj' e' rfl
            rw [gR_sRo _ _ (Or.inr (by rw [← hlen, y1, List.length_append, List.length_cons]; omega))]
            exact v3 d r' b y1
      obtain ⟨h', f1, f2, f3, f4, f5⟩ := ih L (j + 1) _ (by omega) (by omega) scx (by rw [gR_sRo _ _ (Or.inl (by omega))]; exact h10) (by rw [fl.1 _ _ (by omega) (by omega) (by omega) (by omega) (by omega)]; exact h11) hV1
      refine ⟨h', ?_, f2, fl.tr f3, f4, f5⟩
      have z12 : gI (sI hh 19 j (iv len)) 16 12 = iv (len : Int) := by rw [gI_sIo _ _ (Or.inl (by omega)), v1]
      rw [← f1, s1, s2, if_pos y, if_pos y, Int.add_zero, Int.add_zero, show ((j + 1 : Nat) : Int) = (j : Int) + 1 by omega]
      simp -implicitDefEqProofs (disch := omega) only [lp_succ, F_b_X3_setLevels_22, F_f_X3_setLevels_68, F_f_X3_setLevels_89, K16 hF, h10, oM_k hM, oM_5 hM, oM_2 hM, oM_k1 hM, oM_n1 hM, ob, oB_k hB, oB_7 hB, o, z1, v1, z12, R16_4 hF, K18 hF, N18 hF, R16_5 hF, K19 hF, N19 hF, gK_sI, gN_sI, gR_sI, Int.toNat_natCast, iv_add, iv_sub, iv_mul, iv_neg, iv_zero, iv_ltT, iv_ltF, iv_leT, iv_leF, iv_eqT, iv_eqF, iv_div, rm_iv, tn_iv, ib_iv, some_cb, some_cbv, ↓nm_eq, ↓reduceIte, true_and, and_true, Bool.true_eq_false, Bool.false_eq_true, not_false_eq_true, not_true_eq_false]
    · have scx : Sc w A h (sI hh 19 j (iv (-1))) := sc.sI (kp19 (by omega) _)
      have simx := hS.sc scx
      have hBx := simx.B hl (b := j) (by omega) (by omega)
      have fl : FL hh (sI hh 19 j (iv (-1))) := (FL.rf hh).sI _ (by omega)
      have hw := le_rng2 hW hl (b := j) (by omega) (by omega) g0 g1 k0 k1
      have l1 := c_least simx hl (b := j) (by omega) (by omega) g0 g1 k0 k1
      have l2 := c_most simx hl (b := j) (by omega) (by omega) g0 g1 k0 k1
      have x11 : gI (sI hh 19 j (iv (-1))) 16 11 = iv (3 * g + k) := by rw [gI_sIo _ _ (Or.inl (by omega))]; exact h11
      have hV1 : LV w A m S (sI hh 19 j (iv (-1))) (j + 1) := by
        refine ⟨?_, ?_, ?_⟩
        · rw [gI_sIo _ _ (Or.inl (by omega)), v1, gzL_n y, hlen]
        · intro b c0 c1
          by_cases e : b = j
          · subst e; rw [Int.toNat_natCast, gI_sIs, lvj, if_neg y]
          · rw [gI_sIo _ _ (Or.inr (by omega))]; exact v2 b c0 (by omega)
        · intro d r b e
          rw [gzL_n y] at e
          exact v3 d r b e
      obtain ⟨h', f1, f2, f3, f4, f5⟩ := ih L (j + 1) _ (by omega) (by omega) scx h10 x11 hV1
      refine ⟨h', ?_, f2, fl.tr f3, f4, f5⟩
      rw [← f1, s1, s2, if_neg y, if_neg y, show ((j + 1 : Nat) : Int) = (j : Int) + 1 by omega]
      cases nm : nb w m S j with
      | false =>
        have z0 := bt_0 N (b := j) (by omega) (by omega) (fun q => by
          have := (nb_bt hN (b := j) (by omega) (by omega)).2 q
          rw [nm] at this; exact absurd this (by decide))
        simp -implicitDefEqProofs (disch := omega) only [lp_succ, F_b_X3_setLevels_22, F_f_X3_setLevels_68, F_f_X3_setLevels_89, k_X3_setLevels_89_1, k_X3_setLevels_89_2, K16 hF, h10, oM_k hM, oM_5 hM, oM_2 hM, oM_k1 hM, oM_n1 hM, ob, oB_k hB, oB_k hBx, z0, R16_5 hF, K19 hF, N19 hF, gK_sI, gN_sI, gR_sI, Int.toNat_natCast, x11, l1, l2, iv_add, iv_sub, iv_mul, iv_neg, iv_zero, iv_ltT, iv_ltF, iv_leT, iv_leF, iv_eqT, iv_eqF, iv_div, rm_iv, tn_iv, ib_iv, some_cb, some_cbv, ↓nm_eq, ↓reduceIte, true_and, and_true, Bool.true_eq_false, Bool.false_eq_true, not_false_eq_true, not_true_eq_false]
      | true =>
        have z1 : (N >>> (iv j &&& 31)) &&& iv 1 = iv 1 := (nb_bt hN (b := j) (by omega) (by omega)).1 nm
        have o : wO w (12 * m + j) = 1 := by
          rcases wo with o | o
          · exact absurd (gz_iff.2 ⟨nm, o⟩) y
          · exact o
        simp -implicitDefEqProofs (disch := omega) only [lp_succ, F_b_X3_setLevels_22, F_f_X3_setLevels_68, F_f_X3_setLevels_89, k_X3_setLevels_89_1, k_X3_setLevels_89_2, K16 hF, h10, oM_k hM, oM_5 hM, oM_2 hM, oM_k1 hM, oM_n1 hM, ob, oB_k hB, oB_7 hB, o, oB_k hBx, z1, R16_5 hF, K19 hF, N19 hF, gK_sI, gN_sI, gR_sI, Int.toNat_natCast, x11, l1, l2, iv_add, iv_sub, iv_mul, iv_neg, iv_zero, iv_ltT, iv_ltF, iv_leT, iv_leF, iv_eqT, iv_eqF, iv_div, rm_iv, tn_iv, ib_iv, some_cb, some_cbv, ↓nm_eq, ↓reduceIte, true_and, and_true, Bool.true_eq_false, Bool.false_eq_true, not_false_eq_true, not_true_eq_false]
end Q
