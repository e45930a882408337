/-! the one side reads a tape -/
def rdA (w : WD) (G C : Nat) : Nat → Int → Int × Int × List (Nat → Int)
  | 0, p => (0, p, [])
  | n + 1, p => if wT w ≤ p then (1, p, []) else if n = 0 then (0, p, []) else if byt w p = 59 then (if (rdB w G C (p + 1)).1 = 1 then ((rdA w G C n (rdB w G C (p + 1)).2.1).1, (rdA w G C n (rdB w G C (p + 1)).2.1).2.1, (rdB w G C (p + 1)).2.2 :: (rdA w G C n (rdB w G C (p + 1)).2.1).2.2) else (0, (rdB w G C (p + 1)).2.1, [])) else (0, p, [])
def rdH (w : WD) (p : Int) : Int × Int := if byt w p = 103 then (if 50 ≤ byt w (p + 1) ∧ byt w (p + 1) ≤ 52 then (if byt w (p + 2) = 99 then (if 50 ≤ byt w (p + 3) ∧ byt w (p + 3) ≤ 51 then (1, p + 4) else (0, p + 3)) else (0, p + 2)) else (0, p + 1)) else (0, p)
section Q
variable {w : WD} {h h' h1 h2 : AH} {p : Int} {G C : Nat}
theorem rdB_rng (hW : WI w) (p0 : 0 ≤ p) (p1 : p ≤ wT w) : p ≤ (rdB w G C p).2.1 ∧ (rdB w G C p).2.1 ≤ wT w ∧ ((rdB w G C p).1 = 0 ∨ (rdB w G C p).1 = 1) ∧ ((rdB w G C p).1 = 1 → ∀ q, q < G + C → 0 ≤ (rdB w G C p).2.2 q ∧ (rdB w G C p).2.2 q ≤ 99) := by
  obtain ⟨a1, a2, a3, a4⟩ := rdN_rng hW G 1 p p0 p1
  by_cases z : (rdN w 1 G p).1 = 1
  · by_cases y : byt w (rdN w 1 G p).2.1 = 47
    · have e : rdB w G C p = ((rdN w 1 C ((rdN w 1 G p).2.1 + 1)).1, (rdN w 1 C ((rdN w 1 G p).2.1 + 1)).2.1, fun q => if q < G then (rdN w 1 G p).2.2.getD q 0 else (rdN w 1 C ((rdN w 1 G p).2.1 + 1)).2.2.getD (q - G) 0) := (if_pos z).trans (if_pos y)
      have hp := byt_in (w := w) (p := (rdN w 1 G p).2.1) (c := 47) (by omega) (by omega)
      obtain ⟨b1, b2, b3, b4⟩ := rdN_rng hW C 1 ((rdN w 1 G p).2.1 + 1) (by omega) (by omega)
      rw [e]
      refine ⟨by show p ≤ (rdN w 1 C ((rdN w 1 G p).2.1 + 1)).2.1; omega, b2, b3, fun u q hq => ?_⟩
      by_cases qG : q < G
      · show 0 ≤ (if q < G then (rdN w 1 G p).2.2.getD q 0 else (rdN w 1 C ((rdN w 1 G p).2.1 + 1)).2.2.getD (q - G) 0) ∧ (if q < G then (rdN w 1 G p).2.2.getD q 0 else (rdN w 1 C ((rdN w 1 G p).2.1 + 1)).2.2.getD (q - G) 0) ≤ 99
        rw [if_pos qG]
        exact (a4 z).2 q qG
      · show 0 ≤ (if q < G then (rdN w 1 G p).2.2.getD q 0 else (rdN w 1 C ((rdN w 1 G p).2.1 + 1)).2.2.getD (q - G) 0) ∧ (if q < G then (rdN w 1 G p).2.2.getD q 0 else (rdN w 1 C ((rdN w 1 G p).2.1 + 1)).2.2.getD (q - G) 0) ≤ 99
        rw [if_neg qG]
        exact (b4 u).2 (q - G) (by omega)
    · have e : rdB w G C p = (0, (rdN w 1 G p).2.1, fun _ => 0) := (if_pos z).trans (if_neg y)
      rw [e]
      exact ⟨a1, a2, Or.inl rfl, fun u => absurd u (by show ¬ (0 : Int) = 1; omega)⟩
  · have e : rdB w G C p = (0, (rdN w 1 G p).2.1, fun _ => 0) := if_neg z
    rw [e]
    exact ⟨a1, a2, Or.inl rfl, fun u => absurd u (by show ¬ (0 : Int) = 1; omega)⟩
theorem rdA_s (w : WD) (G C n : Nat) (p : Int) : rdA w G C (n + 1) p = if wT w ≤ p then (1, p, []) else if n = 0 then (0, p, []) else if byt w p = 59 then (if (rdB w G C (p + 1)).1 = 1 then ((rdA w G C n (rdB w G C (p + 1)).2.1).1, (rdA w G C n (rdB w G C (p + 1)).2.1).2.1, (rdB w G C (p + 1)).2.2 :: (rdA w G C n (rdB w G C (p + 1)).2.1).2.2) else (0, (rdB w G C (p + 1)).2.1, [])) else (0, p, []) := rfl
theorem rdA_rng (hW : WI w) (n : Nat) : ∀ p : Int, 0 ≤ p → p ≤ wT w → p ≤ (rdA w G C n p).2.1 ∧ (rdA w G C n p).2.1 ≤ wT w ∧ ((rdA w G C n p).1 = 0 ∨ (rdA w G C n p).1 = 1) ∧ (rdA w G C n p).2.2.length ≤ n - 1 ∧ ∀ j, j < (rdA w G C n p).2.2.length → ∀ q, q < G + C → 0 ≤ (rdA w G C n p).2.2.getD j (fun _ => 0) q ∧ (rdA w G C n p).2.2.getD j (fun _ => 0) q ≤ 99 := by
  induction n with
  | zero => exact fun p p0 p1 => ⟨Int.le_refl _, p1, Or.inl rfl, Nat.zero_le _, fun j y => absurd y (Nat.not_lt_zero j)⟩
  | succ n ih =>
    intro p p0 p1
    rw [rdA_s]
    by_cases z1 : wT w ≤ p
    · rw [if_pos z1]
      exact ⟨Int.le_refl _, p1, Or.inr rfl, Nat.zero_le _, fun j y => absurd y (Nat.not_lt_zero j)⟩
    · rw [if_neg z1]
      by_cases z2 : n = 0
      · rw [if_pos z2]
        exact ⟨Int.le_refl _, p1, Or.inl rfl, Nat.zero_le _, fun j y => absurd y (Nat.not_lt_zero j)⟩
      · rw [if_neg z2]
        by_cases z3 : byt w p = 59
        · rw [if_pos z3]
          obtain ⟨b1, b2, b3, b4⟩ := rdB_rng (G := G) (C := C) hW (p := p + 1) (by omega) (by omega)
          by_cases z4 : (rdB w G C (p + 1)).1 = 1
          · rw [if_pos z4]
            obtain ⟨i1, i2, i3, i4, i5⟩ := ih (rdB w G C (p + 1)).2.1 (by omega) b2
            refine ⟨by show p ≤ (rdA w G C n (rdB w G C (p + 1)).2.1).2.1; omega, i2, i3, by show (rdA w G C n (rdB w G C (p + 1)).2.1).2.2.length + 1 ≤ _; omega, fun j hj q hq => ?_⟩
            cases j with
            | zero => exact b4 z4 q hq
            | succ j => exact i5 j (Nat.lt_of_succ_lt_succ hj) q hq
          · rw [if_neg z4]
            exact ⟨by show p ≤ (rdB w G C (p + 1)).2.1; omega, b2, Or.inl rfl, Nat.zero_le _, fun j y => absurd y (Nat.not_lt_zero j)⟩
        · rw [if_neg z3]
          exact ⟨Int.le_refl _, p1, Or.inl rfl, Nat.zero_le _, fun j y => absurd y (Nat.not_lt_zero j)⟩
/-- what a tape read changes -/
def CM (h h' : AH) (lo : Nat) : Prop := (∀ a, gK h' a = gK h a) ∧ (∀ a, gN h' a = gN h a) ∧ (∀ a i, gR h' a i = gR h a i) ∧ (∀ a i, gJ h' a i = gJ h a i) ∧ gC h' = gC h ∧ gS h' = gS h ∧ ∀ a i, (a ≠ 4 ∨ i < 3 ∨ 6 < i) → (a ≠ 6 ∨ i < lo) → gI h' a i = gI h a i
theorem CM.rf (h : AH) (lo : Nat) : CM h h lo := ⟨fun _ => rfl, fun _ => rfl, fun _ _ => rfl, fun _ _ => rfl, rfl, rfl, fun _ _ _ _ => rfl⟩
theorem CM.tr {lo : Nat} (a : CM h h1 lo) (b : CM h1 h2 lo) : CM h h2 lo := ⟨fun x => (b.1 x).trans (a.1 x), fun x => (b.2.1 x).trans (a.2.1 x), fun x i => (b.2.2.1 x i).trans (a.2.2.1 x i), fun x i => (b.2.2.2.1 x i).trans (a.2.2.2.1 x i), b.2.2.2.2.1.trans a.2.2.2.2.1, b.2.2.2.2.2.1.trans a.2.2.2.2.2.1, fun x i y z => (b.2.2.2.2.2.2 x i y z).trans (a.2.2.2.2.2.2 x i y z)⟩
theorem CM.wd {lo lo' : Nat} (a : CM h h1 lo) (y : lo' ≤ lo) : CM h h1 lo' := ⟨a.1, a.2.1, a.2.2.1, a.2.2.2.1, a.2.2.2.2.1, a.2.2.2.2.2.1, fun x i u v => a.2.2.2.2.2.2 x i u (by omega)⟩
theorem CF.cm {lo hi : Nat} (a : CF h h1 lo hi) : CM h h1 lo := ⟨a.1, a.2.1, a.2.2.1, a.2.2.2.1, a.2.2.2.2.1, a.2.2.2.2.2.1, fun x i u v => a.2.2.2.2.2.2 x i (by omega) (by omega)⟩
theorem CM.fld {lo i : Nat} {v : Int32} (hi : 3 ≤ i ∧ i ≤ 6) : CM h (sI h 4 i v) lo := ⟨fun _ => rfl, fun _ => rfl, fun _ _ => rfl, fun _ _ => rfl, rfl, rfl, fun a j u _ => gI_sIo _ _ (by omega)⟩
set_option maxRecDepth 100000 in
theorem c_rdAll (hG : G ≤ 4) (g2 : 2 ≤ G) (hC : C ≤ 3) (c2 : 2 ≤ C) (n : Nat) : ∀ (N k : Nat) (p : Int) (h : AH), n < N → k + n = 12 → TSt w h p k G C → ∃ h', CM h h' (k * (G + C)) ∧ TSt w h' (rdA w G C (n + 1) p).2.1 ((k + (rdA w G C (n + 1) p).2.2.length : Nat) : Int) G C ∧ lp b_X9_isRead_19 (fun _ _ => none) N 4 h = some (iv (rdA w G C (n + 1) p).1, h') ∧ ∀ j, j < (rdA w G C (n + 1) p).2.2.length → ∀ q, q < G + C → gI h' 6 ((k + j) * (G + C) + q) = iv ((rdA w G C (n + 1) p).2.2.getD j (fun _ => 0) q) := by
  induction n with
  | zero =>
    intro N k p h hN hk H
    obtain ⟨N, rfl⟩ : ∃ N', N = N' + 1 := ⟨N - 1, by omega⟩
    obtain ⟨⟨a1, a2, a3, a4, a5, a6, a7⟩, ⟨b1, b2, b3, b4, b5⟩, -, hW, q0, q1⟩ := id H
    have wt := hW.2.1
    by_cases z : wT w ≤ p
    · have e : rdA w G C (0 + 1) p = (1, p, []) := if_pos z
      rw [e]
      refine ⟨h, CM.rf _ _, by rw [show ((k + ([] : List (Nat → Int)).length : Nat) : Int) = k from rfl]; exact H, ?_, fun j y => absurd y (Nat.not_lt_zero j)⟩
      simp -implicitDefEqProofs (disch := omega) only [lp_succ, F_b_X9_isRead_19, a1, b1, b2, zret1, iv_add, iv_sub, iv_mul, iv_neg, iv_zero, iv_ltT, iv_ltF, iv_leT, iv_leF, iv_eqT, iv_eqF, iv_div, rm_iv, tn_iv, ib_iv, some_cb, some_cbv, ↓nm_eq, ↓reduceIte, true_and, and_true, Bool.true_eq_false, Bool.false_eq_true, not_false_eq_true, not_true_eq_false]
    · have e : rdA w G C (0 + 1) p = (0, p, []) := (if_neg z).trans (if_pos rfl)
      rw [e]
      refine ⟨h, CM.rf _ _, by rw [show ((k + ([] : List (Nat → Int)).length : Nat) : Int) = k from rfl]; exact H, ?_, fun j y => absurd y (Nat.not_lt_zero j)⟩
      simp -implicitDefEqProofs (disch := omega) only [lp_succ, F_b_X9_isRead_19, a1, b1, b2, b5, zret0, iv_add, iv_sub, iv_mul, iv_neg, iv_zero, iv_ltT, iv_ltF, iv_leT, iv_leF, iv_eqT, iv_eqF, iv_div, rm_iv, tn_iv, ib_iv, some_cb, some_cbv, ↓nm_eq, ↓reduceIte, true_and, and_true, Bool.true_eq_false, Bool.false_eq_true, not_false_eq_true, not_true_eq_false]
  | succ n ih =>
    intro N k p h hN hk H
    obtain ⟨N, rfl⟩ : ∃ N', N = N' + 1 := ⟨N - 1, by omega⟩
    obtain ⟨⟨a1, a2, a3, a4, a5, a6, a7⟩, ⟨b1, b2, b3, b4, b5⟩, -, hW, q0, q1⟩ := id H
    have wt := hW.2.1
    rw [rdA_s]
    by_cases z : wT w ≤ p
    · rw [if_pos z]
      refine ⟨h, CM.rf _ _, by rw [show ((k + ([] : List (Nat → Int)).length : Nat) : Int) = k from rfl]; exact H, ?_, fun j y => absurd y (Nat.not_lt_zero j)⟩
      simp -implicitDefEqProofs (disch := omega) only [lp_succ, F_b_X9_isRead_19, a1, b1, b2, zret1, iv_add, iv_sub, iv_mul, iv_neg, iv_zero, iv_ltT, iv_ltF, iv_leT, iv_leF, iv_eqT, iv_eqF, iv_div, rm_iv, tn_iv, ib_iv, some_cb, some_cbv, ↓nm_eq, ↓reduceIte, true_and, and_true, Bool.true_eq_false, Bool.false_eq_true, not_false_eq_true, not_true_eq_false]
    · rw [if_neg z, if_neg (by omega)]
      by_cases y : byt w p = 59
      · rw [if_pos y]
        have sg := c_sign1 H.t0 (c := 59) (by omega) (by omega) y
        obtain ⟨T1, F1⟩ := H.pos (q := p + 1) (by omega) (by omega)
        obtain ⟨h2, e2, F2, T2, v2⟩ := c_rdB (by omega) (by omega) hG g2 hC c2 T1
        rw [Int.toNat_natCast] at F2 v2
        have k41 := T1.1.1
        have k42 := T2.1.1
        by_cases u : (rdB w G C (p + 1)).1 = 1
        · rw [if_pos u]
          rw [u] at e2
          have T3 : TSt w (sI h2 4 6 (iv ((k + 1 : Nat) : Int))) (rdB w G C (p + 1)).2.1 ((k + 1 : Nat) : Int) G C := by
            obtain ⟨o, ⟨p1, p2, p3, p4, p5⟩, ct, r⟩ := T2
            exact ⟨o, ⟨by rw [gI_sIo _ _ (by omega)]; exact p1, by rw [gI_sIo _ _ (by omega)]; exact p2, by rw [gI_sIo _ _ (by omega)]; exact p3, by rw [gI_sIo _ _ (by omega)]; exact p4, gI_sIs _ _ _ _⟩, fun i i0 i1 => by rw [gI_sIo _ _ (by omega)]; exact ct i i0 i1, r⟩
          obtain ⟨h4, F4, T4, e4, v4⟩ := ih N (k + 1) (rdB w G C (p + 1)).2.1 _ (by omega) (by omega) T3
          have kk : k * (G + C) + (G + C) = (k + 1) * (G + C) := (Nat.succ_mul _ _).symm
          refine ⟨h4, (((F1 (k * (G + C)) (k * (G + C))).cm.tr F2.cm).tr (CM.fld (by omega))).tr (F4.wd (by omega)), ?_, ?_, fun j hj q hq => ?_⟩
          · show TSt w h4 (rdA w G C (n + 1) (rdB w G C (p + 1)).2.1).2.1 ((k + ((rdA w G C (n + 1) (rdB w G C (p + 1)).2.1).2.2.length + 1) : Nat) : Int) G C
            rw [show k + ((rdA w G C (n + 1) (rdB w G C (p + 1)).2.1).2.2.length + 1) = k + 1 + (rdA w G C (n + 1) (rdB w G C (p + 1)).2.1).2.2.length by omega]
            exact T4
          · show _ = some (iv (rdA w G C (n + 1) (rdB w G C (p + 1)).2.1).1, h4)
            rw [← e4]
            have g6 := T2.2.1.2.2.2.2
            rw [show ((k + 1 : Nat) : Int) = (k : Int) + 1 by omega]
            clear e4 v4 ih v2
            simp -implicitDefEqProofs (disch := omega) only [lp_succ, F_b_X9_isRead_19, k_X9_isRead_19_1, k_X9_isRead_19_2, a1, b1, b2, b5, sg, e2, k41, k42, g6, iv_add, iv_sub, iv_mul, iv_neg, iv_zero, iv_ltT, iv_ltF, iv_leT, iv_leF, iv_eqT, iv_eqF, iv_div, rm_iv, tn_iv, ib_iv, some_cb, some_cbv, ↓nm_eq, ↓reduceIte, true_and, and_true, Bool.true_eq_false, Bool.false_eq_true, not_false_eq_true, not_true_eq_false]
          · cases j with
            | zero =>
              show gI h4 6 ((k + 0) * (G + C) + q) = iv ((rdB w G C (p + 1)).2.2 q)
              rw [Nat.add_zero, F4.2.2.2.2.2.2 _ _ (by omega) (by omega), gI_sIo _ _ (by omega)]
              exact v2 u q hq
            | succ j =>
              have := v4 j (Nat.lt_of_succ_lt_succ hj) q hq
              rw [show k + (j + 1) = k + 1 + j by omega]
              exact this
        · rw [if_neg u]
          have u0 : (rdB w G C (p + 1)).1 = 0 := by
            have := (rdB_rng (G := G) (C := C) hW (p := p + 1) (by omega) (by omega)).2.2.1
            omega
          rw [u0] at e2
          refine ⟨h2, (F1 (k * (G + C)) (k * (G + C))).cm.tr F2.cm, by rw [show ((k + ([] : List (Nat → Int)).length : Nat) : Int) = k from rfl]; exact T2, ?_, fun j y => absurd y (Nat.not_lt_zero j)⟩
          simp -implicitDefEqProofs (disch := omega) only [lp_succ, F_b_X9_isRead_19, k_X9_isRead_19_1, k_X9_isRead_19_2, a1, b1, b2, b5, sg, e2, k41, zret0, iv_add, iv_sub, iv_mul, iv_neg, iv_zero, iv_ltT, iv_ltF, iv_leT, iv_leF, iv_eqT, iv_eqF, iv_div, rm_iv, tn_iv, ib_iv, some_cb, some_cbv, ↓nm_eq, ↓reduceIte, true_and, and_true, Bool.true_eq_false, Bool.false_eq_true, not_false_eq_true, not_true_eq_false]
      · rw [if_neg y]
        have sg := c_sign0 H.t0 (c := 59) (by omega) (by omega) y
        refine ⟨h, CM.rf _ _, by rw [show ((k + ([] : List (Nat → Int)).length : Nat) : Int) = k from rfl]; exact H, ?_, fun j y => absurd y (Nat.not_lt_zero j)⟩
        simp -implicitDefEqProofs (disch := omega) only [lp_succ, F_b_X9_isRead_19, k_X9_isRead_19_1, k_X9_isRead_19_2, a1, b1, b2, b5, sg, zret0, iv_add, iv_sub, iv_mul, iv_neg, iv_zero, iv_ltT, iv_ltF, iv_leT, iv_leF, iv_eqT, iv_eqF, iv_div, rm_iv, tn_iv, ib_iv, some_cb, some_cbv, ↓nm_eq, ↓reduceIte, true_and, and_true, Bool.true_eq_false, Bool.false_eq_true, not_false_eq_true, not_true_eq_false]
set_option maxRecDepth 100000 in
theorem c_head (H : TS0 w h p) : ∃ h', f_X9_readHead 4 h = some (iv (rdH w p).1, h') ∧ TS0 w h' (rdH w p).2 ∧ CM h h' 84 ∧ gI h' 4 6 = gI h 4 6 ∧ ((rdH w p).1 = 1 → gI h' 4 4 = iv (byt w (p + 1) - 48) ∧ gI h' 4 5 = iv (byt w (p + 3) - 48)) := by
  obtain ⟨-, -, -, hW, q0, q1⟩ := id H
  have k4 := H.1.1
  unfold rdH
  by_cases z1 : byt w p = 103
  · rw [if_pos z1]
    have hp1 := byt_in (w := w) (p := p) (c := 103) (by omega) (by omega)
    have s1 := c_sign1 H (c := 103) (by omega) (by omega) z1
    have T1 := H.pos (q := p + 1) (by omega) (by omega)
    have k41 := T1.1.1
    by_cases z2 : 50 ≤ byt w (p + 1) ∧ byt w (p + 1) ≤ 52
    · rw [if_pos z2]
      have hp2 := byt_in (w := w) (p := p + 1) (c := 50) (by omega) z2.1
      have d1 := c_digit1 T1 (lo := 2) (hi := 4) (by omega) (by omega) (by omega) (by omega)
      have d2 := c_rdig T1 hp2
      have T2 := T1.pos (q := p + 1 + 1) (by omega) (by omega)
      have T3 := T2.fld (i := 4) (v := iv (byt w (p + 1) - 48)) (by omega)
      have k42 := T2.1.1
      have k43 := T3.1.1
      by_cases z3 : byt w (p + 2) = 99
      · rw [if_pos z3]
        have hp3 := byt_in (w := w) (p := p + 2) (c := 99) (by omega) (by omega)
        have s3 := c_sign1 T3 (c := 99) (by omega) (by omega) (by rw [show p + 1 + 1 = p + 2 by omega]; exact z3)
        have T4 := T3.pos (q := p + 1 + 1 + 1) (by omega) (by omega)
        have k44 := T4.1.1
        by_cases z4 : 50 ≤ byt w (p + 3) ∧ byt w (p + 3) ≤ 51
        · rw [if_pos z4]
          have e3 : p + 1 + 1 + 1 = p + 3 := by omega
          have hp4 := byt_in (w := w) (p := p + 3) (c := 50) (by omega) z4.1
          have d3 := c_digit1 T4 (lo := 2) (hi := 3) (by omega) (by omega) (by omega) (by rw [e3]; omega)
          have d4 := c_rdig T4 (by omega)
          rw [show byt w (p + 1 + 1 + 1) = byt w (p + 3) by rw [e3]] at d4
          have T5 := T4.pos (q := p + 1 + 1 + 1 + 1) (by omega) (by omega)
          have T6 := T5.fld (i := 5) (v := iv (byt w (p + 3) - 48)) (by omega)
          have k45 := T5.1.1
          refine ⟨_, ?_, by rw [show p + 4 = p + 1 + 1 + 1 + 1 by omega]; exact T6, (((((CM.fld (by omega)).tr (CM.fld (by omega))).tr (CM.fld (by omega))).tr (CM.fld (by omega))).tr (CM.fld (by omega))).tr (CM.fld (by omega)), ?_, fun _ => ⟨?_, gI_sIs _ _ _ _⟩⟩
          · simp -implicitDefEqProofs (disch := omega) only [k_X9_readHead_1, k_X9_readHead_2, k_X9_readHead_3, k_X9_readHead_4, k_X9_readHead_5, k_X9_readHead_6, F_f_X9_readHead, k4, k41, k42, k43, k44, k45, s1, d1, d2, s3, d3, d4, zret1, iv_add, iv_sub, iv_mul, iv_neg, iv_zero, iv_ltT, iv_ltF, iv_leT, iv_leF, iv_eqT, iv_eqF, iv_div, rm_iv, tn_iv, ib_iv, some_cb, some_cbv, ↓nm_eq, ↓reduceIte, true_and, and_true, Bool.true_eq_false, Bool.false_eq_true, not_false_eq_true, not_true_eq_false]
          · rw [gI_sIo _ _ (by omega), gI_sIo _ _ (by omega), gI_sIo _ _ (by omega), gI_sIo _ _ (by omega), gI_sIo _ _ (by omega), gI_sIo _ _ (by omega)]
          · rw [gI_sIo _ _ (by omega), gI_sIo _ _ (by omega), gI_sIo _ _ (by omega), gI_sIs]
        · rw [if_neg z4]
          have d3 := c_digit0 T4 (lo := 2) (hi := 3) (by omega) (by omega) (by omega) (by rw [show p + 1 + 1 + 1 = p + 3 by omega]; omega)
          refine ⟨_, ?_, by rw [show p + 3 = p + 1 + 1 + 1 by omega]; exact T4, (((CM.fld (by omega)).tr (CM.fld (by omega))).tr (CM.fld (by omega))).tr (CM.fld (by omega)), ?_, fun u => absurd u (by show ¬ (0 : Int) = 1; omega)⟩
          · simp -implicitDefEqProofs (disch := omega) only [k_X9_readHead_1, k_X9_readHead_2, k_X9_readHead_3, k_X9_readHead_4, k_X9_readHead_5, k_X9_readHead_6, F_f_X9_readHead, k4, k41, k42, k43, k44, s1, d1, d2, s3, d3, zret0, iv_add, iv_sub, iv_mul, iv_neg, iv_zero, iv_ltT, iv_ltF, iv_leT, iv_leF, iv_eqT, iv_eqF, iv_div, rm_iv, tn_iv, ib_iv, some_cb, some_cbv, ↓nm_eq, ↓reduceIte, true_and, and_true, Bool.true_eq_false, Bool.false_eq_true, not_false_eq_true, not_true_eq_false]
          · rw [gI_sIo _ _ (by omega), gI_sIo _ _ (by omega), gI_sIo _ _ (by omega), gI_sIo _ _ (by omega)]
      · rw [if_neg z3]
        have s3 := c_sign0 T3 (c := 99) (by omega) (by omega) (by rw [show p + 1 + 1 = p + 2 by omega]; exact z3)
        refine ⟨_, ?_, by rw [show p + 2 = p + 1 + 1 by omega]; exact T3, ((CM.fld (by omega)).tr (CM.fld (by omega))).tr (CM.fld (by omega)), ?_, fun u => absurd u (by show ¬ (0 : Int) = 1; omega)⟩
        · simp -implicitDefEqProofs (disch := omega) only [k_X9_readHead_1, k_X9_readHead_2, k_X9_readHead_3, k_X9_readHead_4, k_X9_readHead_5, k_X9_readHead_6, F_f_X9_readHead, k4, k41, k42, k43, s1, d1, d2, s3, zret0, iv_add, iv_sub, iv_mul, iv_neg, iv_zero, iv_ltT, iv_ltF, iv_leT, iv_leF, iv_eqT, iv_eqF, iv_div, rm_iv, tn_iv, ib_iv, some_cb, some_cbv, ↓nm_eq, ↓reduceIte, true_and, and_true, Bool.true_eq_false, Bool.false_eq_true, not_false_eq_true, not_true_eq_false]
        · rw [gI_sIo _ _ (by omega), gI_sIo _ _ (by omega), gI_sIo _ _ (by omega)]
    · rw [if_neg z2]
      have d1 := c_digit0 T1 (lo := 2) (hi := 4) (by omega) (by omega) (by omega) (by omega)
      refine ⟨_, ?_, T1, CM.fld (by omega), ?_, fun u => absurd u (by show ¬ (0 : Int) = 1; omega)⟩
      · simp -implicitDefEqProofs (disch := omega) only [k_X9_readHead_1, k_X9_readHead_2, k_X9_readHead_3, k_X9_readHead_4, k_X9_readHead_5, k_X9_readHead_6, F_f_X9_readHead, k4, k41, s1, d1, zret0, iv_add, iv_sub, iv_mul, iv_neg, iv_zero, iv_ltT, iv_ltF, iv_leT, iv_leF, iv_eqT, iv_eqF, iv_div, rm_iv, tn_iv, ib_iv, some_cb, some_cbv, ↓nm_eq, ↓reduceIte, true_and, and_true, Bool.true_eq_false, Bool.false_eq_true, not_false_eq_true, not_true_eq_false]
      · rw [gI_sIo _ _ (by omega)]
  · rw [if_neg z1]
    have s1 := c_sign0 H (c := 103) (by omega) (by omega) z1
    refine ⟨h, ?_, H, CM.rf _ _, rfl, fun u => absurd u (by show ¬ (0 : Int) = 1; omega)⟩
    simp -implicitDefEqProofs (disch := omega) only [k_X9_readHead_1, k_X9_readHead_2, k_X9_readHead_3, k_X9_readHead_4, k_X9_readHead_5, k_X9_readHead_6, F_f_X9_readHead, k4, s1, zret0, iv_add, iv_sub, iv_mul, iv_neg, iv_zero, iv_ltT, iv_ltF, iv_leT, iv_leF, iv_eqT, iv_eqF, iv_div, rm_iv, tn_iv, ib_iv, some_cb, some_cbv, ↓nm_eq, ↓reduceIte, true_and, and_true, Bool.true_eq_false, Bool.false_eq_true, not_false_eq_true, not_true_eq_false]
/-- a whole tape: whether it is a matter, where it ends, its boxes -/
def rdT (w : WD) : Int × Int × List (Nat → Int) := if (rdH w 0).1 = 1 then rdA w (byt w 1 - 48).toNat (byt w 3 - 48).toNat 13 (rdH w 0).2 else (0, (rdH w 0).2, [])
theorem rdH_ok (e : (rdH w p).1 = 1) : (50 ≤ byt w (p + 1) ∧ byt w (p + 1) ≤ 52) ∧ 50 ≤ byt w (p + 3) ∧ byt w (p + 3) ≤ 51 := by
  unfold rdH at e
  by_cases z1 : byt w p = 103
  · rw [if_pos z1] at e
    by_cases z2 : 50 ≤ byt w (p + 1) ∧ byt w (p + 1) ≤ 52
    · rw [if_pos z2] at e
      by_cases z3 : byt w (p + 2) = 99
      · rw [if_pos z3] at e
        by_cases z4 : 50 ≤ byt w (p + 3) ∧ byt w (p + 3) ≤ 51
        · exact ⟨z2, z4⟩
        · rw [if_neg z4] at e; exact absurd e (by show ¬ (0 : Int) = 1; omega)
      · rw [if_neg z3] at e; exact absurd e (by show ¬ (0 : Int) = 1; omega)
    · rw [if_neg z2] at e; exact absurd e (by show ¬ (0 : Int) = 1; omega)
  · rw [if_neg z1] at e; exact absurd e (by show ¬ (0 : Int) = 1; omega)
theorem rdH_rng (hW : WI w) (p0 : 0 ≤ p) (p1 : p ≤ wT w) : p ≤ (rdH w p).2 ∧ (rdH w p).2 ≤ wT w ∧ ((rdH w p).1 = 0 ∨ (rdH w p).1 = 1) := by
  unfold rdH
  by_cases z1 : byt w p = 103
  · have hp1 := byt_in (w := w) (p := p) (c := 103) (by omega) (by omega)
    rw [if_pos z1]
    by_cases z2 : 50 ≤ byt w (p + 1) ∧ byt w (p + 1) ≤ 52
    · have hp2 := byt_in (w := w) (p := p + 1) (c := 50) (by omega) z2.1
      rw [if_pos z2]
      by_cases z3 : byt w (p + 2) = 99
      · have hp3 := byt_in (w := w) (p := p + 2) (c := 99) (by omega) (by omega)
        rw [if_pos z3]
        by_cases z4 : 50 ≤ byt w (p + 3) ∧ byt w (p + 3) ≤ 51
        · have hp4 := byt_in (w := w) (p := p + 3) (c := 50) (by omega) z4.1
          rw [if_pos z4]
          exact ⟨by show p ≤ p + 4; omega, by show p + 4 ≤ wT w; omega, Or.inr rfl⟩
        · rw [if_neg z4]
          exact ⟨by show p ≤ p + 3; omega, by show p + 3 ≤ wT w; omega, Or.inl rfl⟩
      · rw [if_neg z3]
        exact ⟨by show p ≤ p + 2; omega, by show p + 2 ≤ wT w; omega, Or.inl rfl⟩
    · rw [if_neg z2]
      exact ⟨by show p ≤ p + 1; omega, by show p + 1 ≤ wT w; omega, Or.inl rfl⟩
  · rw [if_neg z1]
    exact ⟨Int.le_refl _, p1, Or.inl rfl⟩
set_option maxRecDepth 100000 in
theorem c_isRead {A : Int → Nat} (hS : Sim w A h) : ∃ h', f_X9_isRead 4 h = some (iv (rdT w).1, h') ∧ CM h h' 0 ∧ gI h' 4 3 = iv (rdT w).2.1 ∧ ((rdT w).1 = 1 → TSt w h' (rdT w).2.1 ((rdT w).2.2.length : Nat) (byt w 1 - 48).toNat (byt w 3 - 48).toNat ∧ ∀ j, j < (rdT w).2.2.length → ∀ q, q < (byt w 1 - 48).toNat + (byt w 3 - 48).toNat → gI h' 6 (j * ((byt w 1 - 48).toNat + (byt w 3 - 48).toNat) + q) = iv ((rdT w).2.2.getD j (fun _ => 0) q)) := by
  have hF := hS.F
  have hW := hS.W
  have H0 : TS0 w (sI (sI h 4 3 (iv 0)) 4 6 (iv 0)) 0 := ⟨⟨K4 hF, R4_0 hF, R4_1 hF, K5 hF, N5 hF, K6 hF, N6 hF⟩, ⟨by rw [gI_sIo _ _ (by omega), gI_sIo _ _ (by omega)]; exact hS.C.2.2.1, by rw [gI_sIo _ _ (by omega), gI_sIs]⟩, fun i i0 i1 => by rw [gI_sIo _ _ (by omega), gI_sIo _ _ (by omega)]; exact hS.C.2.2.2.1 i i0 i1, hW, Int.le_refl _, hW.2.1.1⟩
  obtain ⟨h1, e1, T1, F1, g6, v1⟩ := c_head H0
  rw [gI_sIs] at g6
  have F0 : CM h (sI (sI h 4 3 (iv 0)) 4 6 (iv 0)) 84 := (CM.fld (by omega)).tr (CM.fld (by omega))
  have k4 := K4 hF
  obtain ⟨y1, y2, y3⟩ := rdH_rng hW (p := 0) (by omega) hW.2.1.1
  unfold rdT
  by_cases z : (rdH w 0).1 = 1
  · rw [if_pos z]
    obtain ⟨ok1, ok2⟩ := rdH_ok z
    rw [Int.zero_add] at ok1 ok2
    obtain ⟨v2, v3⟩ := v1 z
    rw [Int.zero_add] at v2 v3
    have TT : TSt w h1 (rdH w 0).2 ((0 : Nat) : Int) (byt w 1 - 48).toNat (byt w 3 - 48).toNat := ⟨T1.1, ⟨T1.2.1.1, T1.2.1.2, by rw [v2]; congr 1; omega, by rw [v3]; congr 1; omega, g6⟩, T1.2.2⟩
    obtain ⟨h2, F2, T2, e2, v4⟩ := c_rdAll (by omega) (by omega) (by omega) (by omega) 12 FU 0 (rdH w 0).2 h1 (FU_gt (by omega)) (by omega) TT
    change lp b_X9_isRead_19 (fun _ _ => none) FU 4 h1 = _ at e2
    rw [Nat.zero_add] at T2
    rw [z] at e1
    refine ⟨h2, ?_, ((F0.tr F1).wd (by omega)).tr (F2.wd (by omega)), T2.2.1.2.1, fun _ => ⟨T2, fun j hj q hq => ?_⟩⟩
    · simp -implicitDefEqProofs (disch := omega) only [k_X9_isRead_19_1, k_X9_isRead_19_2, f_X9_isRead_19, k_X9_isRead_1, F_f_X9_isRead, k4, gK_sI, e1, e2, iv_add, iv_sub, iv_mul, iv_neg, iv_zero, iv_ltT, iv_ltF, iv_leT, iv_leF, iv_eqT, iv_eqF, iv_div, rm_iv, tn_iv, ib_iv, some_cb, some_cbv, ↓nm_eq, ↓reduceIte, true_and, and_true, Bool.true_eq_false, Bool.false_eq_true, not_false_eq_true, not_true_eq_false]
    · have := v4 j hj q hq
      rw [Nat.zero_add] at this
      exact this
  · rw [if_neg z]
    have z0 : (rdH w 0).1 = 0 := by omega
    rw [z0] at e1
    refine ⟨h1, ?_, (F0.tr F1).wd (by omega), T1.2.1.2, fun u => absurd u (by show ¬ (0 : Int) = 1; omega)⟩
    simp -implicitDefEqProofs (disch := omega) only [k_X9_isRead_19_1, k_X9_isRead_19_2, f_X9_isRead_19, k_X9_isRead_1, F_f_X9_isRead, k4, gK_sI, e1, zret0, iv_add, iv_sub, iv_mul, iv_neg, iv_zero, iv_ltT, iv_ltF, iv_leT, iv_leF, iv_eqT, iv_eqF, iv_div, rm_iv, tn_iv, ib_iv, some_cb, some_cbv, ↓nm_eq, ↓reduceIte, true_and, and_true, Bool.true_eq_false, Bool.false_eq_true, not_false_eq_true, not_true_eq_false]
end Q
