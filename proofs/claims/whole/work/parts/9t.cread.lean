/-! the one side reads a box, and all boxes -/
/-- a box on the tape: whether it is one, where it ends, its numbers -/
def rdB (w : WD) (G C : Nat) (p : Int) : Int × Int × (Nat → Int) := if (rdN w 1 G p).1 = 1 then (if byt w (rdN w 1 G p).2.1 = 47 then ((rdN w 1 C ((rdN w 1 G p).2.1 + 1)).1, (rdN w 1 C ((rdN w 1 G p).2.1 + 1)).2.1, fun q => if q < G then (rdN w 1 G p).2.2.getD q 0 else (rdN w 1 C ((rdN w 1 G p).2.1 + 1)).2.2.getD (q - G) 0) else (0, (rdN w 1 G p).2.1, fun _ => 0)) else (0, (rdN w 1 G p).2.1, fun _ => 0)
section Q
variable {w : WD} {h h' h1 h2 : AH} {p k : Int} {G C : Nat}
theorem rdN_s (w : WD) (f : Int) (n : Nat) (p : Int) : rdN w f (n + 1) p = if f = 1 ∨ byt w p = 44 then (if 0 ≤ pNv w (if f = 1 then p else p + 1) then ((rdN w 0 n (pNp w (if f = 1 then p else p + 1))).1, (rdN w 0 n (pNp w (if f = 1 then p else p + 1))).2.1, pNv w (if f = 1 then p else p + 1) :: (rdN w 0 n (pNp w (if f = 1 then p else p + 1))).2.2) else (0, pNp w (if f = 1 then p else p + 1), [])) else (0, p, []) := rfl
theorem rdN_1 (w : WD) (n : Nat) (p : Int) : rdN w 1 (n + 1) p = if 0 ≤ pNv w p then ((rdN w 0 n (pNp w p)).1, (rdN w 0 n (pNp w p)).2.1, pNv w p :: (rdN w 0 n (pNp w p)).2.2) else (0, pNp w p, []) := by
  rw [rdN_s, if_pos (Or.inl rfl)]
  rfl
theorem rdN_0 (w : WD) (n : Nat) (p : Int) : rdN w 0 (n + 1) p = if byt w p = 44 then (if 0 ≤ pNv w (p + 1) then ((rdN w 0 n (pNp w (p + 1))).1, (rdN w 0 n (pNp w (p + 1))).2.1, pNv w (p + 1) :: (rdN w 0 n (pNp w (p + 1))).2.2) else (0, pNp w (p + 1), [])) else (0, p, []) := by
  rw [rdN_s]
  by_cases q : byt w p = 44
  · rw [if_pos (Or.inr q), if_pos q]
    rfl
  · rw [if_neg (by omega), if_neg q]
set_option maxRecDepth 100000 in
theorem c_rdA (k0 : 0 ≤ k) (k1 : k < 12) (hG : G ≤ 4) (g2 : 2 ≤ G) (hC : C ≤ 3) (n : Nat) : ∀ (N idx : Nat) (p : Int) (h : AH), n < N → (idx + n = G ∨ (G < idx ∧ idx + n = G + C)) → TSt w h p k G C → ∃ h', CF h h' (k.toNat * (G + C) + idx) (k.toNat * (G + C) + idx + n) ∧ TSt w h' (rdN w (if idx = 0 then 1 else 0) n p).2.1 k G C ∧ ((rdN w (if idx = 0 then 1 else 0) n p).1 = 1 → lp b_X9_readSums_2 (fun _ _ _ => none) N 4 (iv idx) h = lp b_X9_readSums_2 (fun _ _ _ => none) (N - n) 4 (iv ((idx + n : Nat) : Int)) h' ∧ ∀ q, q < n → gI h' 6 (k.toNat * (G + C) + idx + q) = iv ((rdN w (if idx = 0 then 1 else 0) n p).2.2.getD q 0)) ∧ ((rdN w (if idx = 0 then 1 else 0) n p).1 = 0 → lp b_X9_readSums_2 (fun _ _ _ => none) N 4 (iv idx) h = some (iv 0, h')) := by
  induction n with
  | zero =>
    intro N idx p h hN hi H
    refine ⟨h, CF.rf _ _ _, H, fun _ => ⟨rfl, fun q y => by omega⟩, fun y => absurd y (by show ¬ (1 : Int) = 0; omega)⟩
  | succ n ih =>
    intro N idx p h hN hi H
    obtain ⟨N, rfl⟩ : ∃ N', N = N' + 1 := ⟨N - 1, by omega⟩
    have hW := H.2.2.2.1
    obtain ⟨q0, q1⟩ := H.2.2.2.2
    obtain ⟨⟨a1, a2, a3, a4, a5, a6, a7⟩, ⟨b1, b2, b3, b4, b5⟩, -⟩ := id H
    -- after the separator
    have go : ∀ (p1 : Int) (hs : AH), p ≤ p1 → p1 ≤ wT w → TSt w hs p1 k G C → CF h hs (k.toNat * (G + C) + idx) (k.toNat * (G + C) + idx + (n + 1)) → lp b_X9_readSums_2 (fun _ _ _ => none) (N + 1) 4 (iv idx) h = f_X9_readSums_43 (lp b_X9_readSums_2 (fun _ _ _ => none) N) 4 (iv idx) hs → ∀ r : Int × Int × List Int, r = (if 0 ≤ pNv w p1 then ((rdN w 0 n (pNp w p1)).1, (rdN w 0 n (pNp w p1)).2.1, pNv w p1 :: (rdN w 0 n (pNp w p1)).2.2) else (0, pNp w p1, [])) → ∃ h', CF h h' (k.toNat * (G + C) + idx) (k.toNat * (G + C) + idx + (n + 1)) ∧ TSt w h' r.2.1 k G C ∧ (r.1 = 1 → lp b_X9_readSums_2 (fun _ _ _ => none) (N + 1) 4 (iv idx) h = lp b_X9_readSums_2 (fun _ _ _ => none) (N + 1 - (n + 1)) 4 (iv ((idx + (n + 1) : Nat) : Int)) h' ∧ ∀ q, q < n + 1 → gI h' 6 (k.toNat * (G + C) + idx + q) = iv (r.2.2.getD q 0)) ∧ (r.1 = 0 → lp b_X9_readSums_2 (fun _ _ _ => none) (N + 1) 4 (iv idx) h = some (iv 0, h')) := by
      intro p1 hs y1 y2 T F0 e r hr
      obtain ⟨h1, T1, F1, n1, n2⟩ := c_num T (idx := idx) k0 k1 hG hC (by omega) (lp b_X9_readSums_2 (fun _ _ _ => none) N)
      by_cases pv : 0 ≤ pNv w p1
      · rw [if_pos pv] at hr
        obtain ⟨n3, n4⟩ := n1 pv
        obtain ⟨h2, F2, T2, m1, m2⟩ := ih N (idx + 1) (pNp w p1) h1 (by omega) (by omega) T1
        rw [if_neg (show ¬ idx + 1 = 0 by omega)] at T2 m1 m2
        subst hr
        refine ⟨h2, (F0.tr (F1.wd (by omega) (by omega))).tr (F2.wd (by omega) (by omega)), T2, fun y => ?_, fun y => ?_⟩
        · obtain ⟨m3, m4⟩ := m1 y
          refine ⟨?_, fun q hq => ?_⟩
          · rw [e, n3, show (idx : Int) + 1 = ((idx + 1 : Nat) : Int) by omega, m3, show N + 1 - (n + 1) = N - n by omega, show idx + (n + 1) = idx + 1 + n by omega]
          · cases q with
            | zero =>
              rw [Nat.add_zero, F2.2.2.2.2.2.2 6 _ (by omega) (by omega), n4]
              rfl
            | succ q =>
              have := m4 q (by omega)
              rw [show k.toNat * (G + C) + idx + (q + 1) = k.toNat * (G + C) + (idx + 1) + q by omega, this]
              rfl
        · rw [e, n3, show (idx : Int) + 1 = ((idx + 1 : Nat) : Int) by omega]
          exact m2 y
      · rw [if_neg pv] at hr
        subst hr
        exact ⟨h1, F0.tr (F1.wd (by omega) (by omega)), T1, fun y => absurd y (by show ¬ (0 : Int) = 1; omega), fun _ => by rw [e]; exact n2 (by omega)⟩
    by_cases z : idx = 0
    · subst z
      rw [if_pos rfl]
      refine go p h (Int.le_refl _) q1 H (CF.rf _ _ _) ?_ _ (rdN_1 w n p)
      simp -implicitDefEqProofs (disch := omega) only [lp_succ, F_b_X9_readSums_2, a1, b3, b4, iv_add, iv_sub, iv_mul, iv_neg, iv_zero, iv_ltT, iv_ltF, iv_leT, iv_leF, iv_eqT, iv_eqF, iv_div, rm_iv, tn_iv, ib_iv, some_cb, some_cbv, ↓nm_eq, ↓reduceIte, true_and, and_true, Bool.true_eq_false, Bool.false_eq_true, not_false_eq_true, not_true_eq_false]
    · rw [if_neg z]
      by_cases y : byt w p = 44
      · have hp := byt_in (w := w) (p := p) (c := 44) (by omega) (by omega)
        obtain ⟨T1, F1⟩ := H.pos (q := p + 1) (by omega) (by omega)
        have sg := c_sign1 H.t0 (c := 44) (by omega) (by omega) y
        refine go (p + 1) _ (by omega) (by omega) T1 (F1 _ _) ?_ _ ((rdN_0 w n p).trans (if_pos y))
        simp -implicitDefEqProofs (disch := omega) only [lp_succ, F_b_X9_readSums_2, k_X9_readSums_2_1, k_X9_readSums_2_2, a1, b3, b4, sg, iv_add, iv_sub, iv_mul, iv_neg, iv_zero, iv_ltT, iv_ltF, iv_leT, iv_leF, iv_eqT, iv_eqF, iv_div, rm_iv, tn_iv, ib_iv, some_cb, some_cbv, ↓nm_eq, ↓reduceIte, true_and, and_true, Bool.true_eq_false, Bool.false_eq_true, not_false_eq_true, not_true_eq_false]
      · have sg := c_sign0 H.t0 (c := 44) (by omega) (by omega) y
        have e0 : rdN w 0 (n + 1) p = (0, p, []) := (rdN_0 w n p).trans (if_neg y)
        rw [e0]
        refine ⟨h, CF.rf _ _ _, H, fun u => absurd u (by show ¬ (0 : Int) = 1; omega), fun _ => ?_⟩
        simp -implicitDefEqProofs (disch := omega) only [lp_succ, F_b_X9_readSums_2, k_X9_readSums_2_1, k_X9_readSums_2_2, a1, b3, b4, sg, zret0, iv_add, iv_sub, iv_mul, iv_neg, iv_zero, iv_ltT, iv_ltF, iv_leT, iv_leF, iv_eqT, iv_eqF, iv_div, rm_iv, tn_iv, ib_iv, some_cb, some_cbv, ↓nm_eq, ↓reduceIte, true_and, and_true, Bool.true_eq_false, Bool.false_eq_true, not_false_eq_true, not_true_eq_false]
set_option maxRecDepth 100000 in
theorem c_rdB (k0 : 0 ≤ k) (k1 : k < 12) (hG : G ≤ 4) (g2 : 2 ≤ G) (hC : C ≤ 3) (c2 : 2 ≤ C) (H : TSt w h p k G C) : ∃ h', f_X9_readSums 4 h = some (iv (rdB w G C p).1, h') ∧ CF h h' (k.toNat * (G + C)) (k.toNat * (G + C) + (G + C)) ∧ TSt w h' (rdB w G C p).2.1 k G C ∧ ((rdB w G C p).1 = 1 → ∀ q, q < G + C → gI h' 6 (k.toNat * (G + C) + q) = iv ((rdB w G C p).2.2 q)) := by
  obtain ⟨C', rfl⟩ : ∃ C', C = C' + 1 := ⟨C - 1, by omega⟩
  have hW := H.2.2.2.1
  obtain ⟨q0, q1⟩ := H.2.2.2.2
  obtain ⟨h1, F1, T1, n1, n2⟩ := c_rdA k0 k1 hG g2 hC G FU 0 p h (FU_gt (by omega)) (Or.inl (by omega)) H
  rw [if_pos rfl] at T1 n1 n2
  rw [Nat.add_zero] at F1
  change (rdN w 1 G p).1 = 1 → lp b_X9_readSums_2 (fun _ _ _ => none) FU 4 (iv 0) h = _ ∧ _ at n1
  change (rdN w 1 G p).1 = 0 → lp b_X9_readSums_2 (fun _ _ _ => none) FU 4 (iv 0) h = _ at n2
  obtain ⟨r1, r2, r3, r4⟩ := rdN_rng hW G 1 p q0 q1
  have hFU : 100 < FU := FU_gt (by omega)
  have un : ∀ r : Option (Int32 × AH), lp b_X9_readSums_2 (fun _ _ _ => none) FU 4 (iv 0) h = r → f_X9_readSums 4 h = r := fun r e => e
  rcases r3 with z | z
  · have e : rdB w G (C' + 1) p = (0, (rdN w 1 G p).2.1, fun _ => 0) := if_neg (by omega)
    rw [e]
    exact ⟨h1, un _ (n2 z), F1.wd (by omega) (by omega), T1, fun y => absurd y (by show ¬ (0 : Int) = 1; omega)⟩
  · obtain ⟨e1, v1⟩ := n1 z
    obtain ⟨l1, l2⟩ := r4 z
    obtain ⟨N2, hN2⟩ : ∃ N2, FU - G = N2 + 1 := ⟨FU - G - 1, by omega⟩
    rw [hN2, Nat.zero_add] at e1
    obtain ⟨⟨a1, a2, a3, a4, a5, a6, a7⟩, ⟨b1, b2, b3, b4, b5⟩, -⟩ := id T1
    by_cases y : byt w (rdN w 1 G p).2.1 = 47
    · have e : rdB w G (C' + 1) p = ((rdN w 1 (C' + 1) ((rdN w 1 G p).2.1 + 1)).1, (rdN w 1 (C' + 1) ((rdN w 1 G p).2.1 + 1)).2.1, fun q => if q < G then (rdN w 1 G p).2.2.getD q 0 else (rdN w 1 (C' + 1) ((rdN w 1 G p).2.1 + 1)).2.2.getD (q - G) 0) := (if_pos z).trans (if_pos y)
      rw [e, rdN_1]
      have hp := byt_in (w := w) (p := (rdN w 1 G p).2.1) (c := 47) (by omega) (by omega)
      obtain ⟨T2, F2⟩ := T1.pos (q := (rdN w 1 G p).2.1 + 1) (by omega) (by omega)
      have sg := c_sign1 T1.t0 (c := 47) (by omega) (by omega) y
      obtain ⟨h3, T3, F3, m1, m2⟩ := c_num T2 (idx := G) k0 k1 hG hC (by omega) (lp b_X9_readSums_2 (fun _ _ _ => none) N2)
      have st : lp b_X9_readSums_2 (fun _ _ _ => none) (N2 + 1) 4 (iv G) h1 = f_X9_readSums_43 (lp b_X9_readSums_2 (fun _ _ _ => none) N2) 4 (iv G) (sI h1 4 3 (iv ((rdN w 1 G p).2.1 + 1))) := by
        simp -implicitDefEqProofs (disch := omega) only [lp_succ, F_b_X9_readSums_2, k_X9_readSums_2_1, k_X9_readSums_2_2, a1, b3, b4, sg, iv_add, iv_sub, iv_mul, iv_neg, iv_zero, iv_ltT, iv_ltF, iv_leT, iv_leF, iv_eqT, iv_eqF, iv_div, rm_iv, tn_iv, ib_iv, some_cb, some_cbv, ↓nm_eq, ↓reduceIte, true_and, and_true, Bool.true_eq_false, Bool.false_eq_true, not_false_eq_true, not_true_eq_false]
      by_cases pv : 0 ≤ pNv w ((rdN w 1 G p).2.1 + 1)
      · rw [if_pos pv]
        obtain ⟨m3, m4⟩ := m1 pv
        obtain ⟨h4, F4, T4, s1, s2⟩ := c_rdA k0 k1 hG g2 hC C' N2 (G + 1) (pNp w ((rdN w 1 G p).2.1 + 1)) h3 (by omega) (Or.inr ⟨by omega, by omega⟩) T3
        rw [if_neg (show ¬ G + 1 = 0 by omega)] at T4 s1 s2
        obtain ⟨a1', -⟩ := pN_rng hW (p := (rdN w 1 G p).2.1 + 1) (by omega) (by omega)
        obtain ⟨-, a2', a3', a4', -, -⟩ := pN_rng hW (p := (rdN w 1 G p).2.1 + 1) (by omega) (by omega)
        obtain ⟨t1, t2, t3, t4⟩ := rdN_rng hW C' 0 (pNp w ((rdN w 1 G p).2.1 + 1)) (by omega) a4'
        have FF : CF h h4 (k.toNat * (G + (C' + 1))) (k.toNat * (G + (C' + 1)) + (G + (C' + 1))) := (((F1.wd (by omega) (by omega)).tr (F2 _ _)).tr (F3.wd (by omega) (by omega))).tr (F4.wd (by omega) (by omega))
        rcases t3 with u | u
        · refine ⟨h4, un _ ?_, FF, T4, fun x => absurd x (by show ¬ (rdN w 0 C' (pNp w ((rdN w 1 G p).2.1 + 1))).1 = 1; omega)⟩
          rw [e1, st, m3, show (G : Int) + 1 = ((G + 1 : Nat) : Int) by omega, s2 u]
          show _ = some (iv (rdN w 0 C' (pNp w ((rdN w 1 G p).2.1 + 1))).1, h4)
          rw [u]
        · obtain ⟨s3, s4⟩ := s1 u
          obtain ⟨N4, hN4⟩ : ∃ N4, N2 - C' = N4 + 1 := ⟨N2 - C' - 1, by omega⟩
          rw [hN4] at s3
          have fin : lp b_X9_readSums_2 (fun _ _ _ => none) (N4 + 1) 4 (iv ((G + 1 + C' : Nat) : Int)) h4 = some (iv 1, h4) := by
            obtain ⟨⟨o1, o2, o3, o4, o5, o6, o7⟩, ⟨p1, p2, p3, p4, p5⟩, -⟩ := id T4
            simp -implicitDefEqProofs (disch := omega) only [lp_succ, F_b_X9_readSums_2, o1, p3, p4, zret1, iv_add, iv_sub, iv_mul, iv_neg, iv_zero, iv_ltT, iv_ltF, iv_leT, iv_leF, iv_eqT, iv_eqF, iv_div, rm_iv, tn_iv, ib_iv, some_cb, some_cbv, ↓nm_eq, ↓reduceIte, true_and, and_true, Bool.true_eq_false, Bool.false_eq_true, not_false_eq_true, not_true_eq_false]
          refine ⟨h4, un _ ?_, FF, T4, fun _ q hq => ?_⟩
          · rw [e1, st, m3, show (G : Int) + 1 = ((G + 1 : Nat) : Int) by omega, s3, fin]
            show _ = some (iv (rdN w 0 C' (pNp w ((rdN w 1 G p).2.1 + 1))).1, h4)
            rw [u]
          · show gI h4 6 (k.toNat * (G + (C' + 1)) + q) = iv (if q < G then (rdN w 1 G p).2.2.getD q 0 else (pNv w ((rdN w 1 G p).2.1 + 1) :: (rdN w 0 C' (pNp w ((rdN w 1 G p).2.1 + 1))).2.2).getD (q - G) 0)
            by_cases qG : q < G
            · have := v1 q qG
              rw [Nat.add_zero] at this
              rw [if_pos qG, F4.2.2.2.2.2.2 _ _ (by omega) (by omega), F3.2.2.2.2.2.2 _ _ (by omega) (by omega), gI_sIo _ _ (by omega), this]
            · rw [if_neg qG]
              by_cases q0' : q = G
              · subst q0'
                rw [F4.2.2.2.2.2.2 _ _ (by omega) (by omega), m4, Nat.sub_self]
                rfl
              · have := s4 (q - G - 1) (by omega)
                rw [show k.toNat * (G + (C' + 1)) + (G + 1) + (q - G - 1) = k.toNat * (G + (C' + 1)) + q by omega] at this
                rw [this, show q - G = q - G - 1 + 1 by omega]
                rfl
      · rw [if_neg pv]
        refine ⟨h3, un _ ?_, (((F1.wd (by omega) (by omega)).tr (F2 _ _)).tr (F3.wd (by omega) (by omega))), T3, fun x => absurd x (by show ¬ (0 : Int) = 1; omega)⟩
        rw [e1, st]
        exact m2 (by omega)
    · have e : rdB w G (C' + 1) p = (0, (rdN w 1 G p).2.1, fun _ => 0) := (if_pos z).trans (if_neg y)
      rw [e]
      have sg := c_sign0 T1.t0 (c := 47) (by omega) (by omega) y
      refine ⟨h1, un _ ?_, F1.wd (by omega) (by omega), T1, fun x => absurd x (by show ¬ (0 : Int) = 1; omega)⟩
      rw [e1]
      simp -implicitDefEqProofs (disch := omega) only [lp_succ, F_b_X9_readSums_2, k_X9_readSums_2_1, k_X9_readSums_2_2, a1, b3, b4, sg, zret0, iv_add, iv_sub, iv_mul, iv_neg, iv_zero, iv_ltT, iv_ltF, iv_leT, iv_leF, iv_eqT, iv_eqF, iv_div, rm_iv, tn_iv, ib_iv, some_cb, some_cbv, ↓nm_eq, ↓reduceIte, true_and, and_true, Bool.true_eq_false, Bool.false_eq_true, not_false_eq_true, not_true_eq_false]
end Q
