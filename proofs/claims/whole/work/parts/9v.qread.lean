/-! the reference reads a tape -/
section Q
variable {w : WD} {h h' h1 h2 : AH} {p m : Int} {G C : Nat}
/-- where the reference's reading stands -/
def QT (w : WD) (h : AH) (p : Int) : Prop := Fix h ∧ (gI h 91 28 = iv p ∧ gI h 91 19 = iv (wT w)) ∧ (∀ i : Int, 0 ≤ i → i < 200 → gI h 109 i.toNat = iv (wTa w i)) ∧ WI w ∧ 0 ≤ p ∧ p ≤ wT w
def QF (h h' : AH) (row lo hi : Nat) : Prop := (∀ a, gK h' a = gK h a) ∧ (∀ a, gN h' a = gN h a) ∧ (∀ a i, gR h' a i = gR h a i) ∧ (∀ a i, gJ h' a i = gJ h a i) ∧ gC h' = gC h ∧ gS h' = gS h ∧ ∀ a i, (a ≠ 91 ∨ i ≠ 28) → (a ≠ row ∨ i < lo ∨ hi ≤ i) → gI h' a i = gI h a i
theorem QF.rf (h : AH) (row lo hi : Nat) : QF h h row lo hi := ⟨fun _ => rfl, fun _ => rfl, fun _ _ => rfl, fun _ _ => rfl, rfl, rfl, fun _ _ _ _ => rfl⟩
theorem QF.tr {row lo hi : Nat} (a : QF h h1 row lo hi) (b : QF h1 h2 row lo hi) : QF h h2 row lo hi := ⟨fun x => (b.1 x).trans (a.1 x), fun x => (b.2.1 x).trans (a.2.1 x), fun x i => (b.2.2.1 x i).trans (a.2.2.1 x i), fun x i => (b.2.2.2.1 x i).trans (a.2.2.2.1 x i), b.2.2.2.2.1.trans a.2.2.2.2.1, b.2.2.2.2.2.1.trans a.2.2.2.2.2.1, fun x i y z => (b.2.2.2.2.2.2 x i y z).trans (a.2.2.2.2.2.2 x i y z)⟩
theorem QF.wd {row lo hi lo' hi' : Nat} (a : QF h h1 row lo hi) (y : lo' ≤ lo) (z : hi ≤ hi') : QF h h1 row lo' hi' := ⟨a.1, a.2.1, a.2.2.1, a.2.2.2.1, a.2.2.2.2.1, a.2.2.2.2.2.1, fun x i u v => a.2.2.2.2.2.2 x i u (by omega)⟩
theorem QF.put {row lo hi i : Nat} {v : Int32} (z : lo ≤ i ∧ i < hi) : QF h (sI h row i v) row lo hi := ⟨fun _ => rfl, fun _ => rfl, fun _ _ => rfl, fun _ _ => rfl, rfl, rfl, fun a j _ y => gI_sIo _ _ (by omega)⟩
theorem QT.pos (H : QT w h p) {q : Int} (q0 : 0 ≤ q) (q1 : q ≤ wT w) : QT w (sI h 91 28 (iv q)) q ∧ ∀ row lo hi, QF h (sI h 91 28 (iv q)) row lo hi := by
  obtain ⟨a, ⟨b1, b2⟩, c, hW, -, -⟩ := H
  exact ⟨⟨a.fr (fun _ _ => rfl) (fun _ _ => rfl) (fun _ _ _ _ _ _ => rfl), ⟨gI_sIs _ _ _ _, by rw [gI_sIo _ _ (by omega)]; exact b2⟩, fun i i0 i1 => by rw [gI_sIo _ _ (by omega)]; exact c i i0 i1, hW, q0, q1⟩, fun row lo hi => ⟨fun _ => rfl, fun _ => rfl, fun _ _ => rfl, fun _ _ => rfl, rfl, rfl, fun a i y _ => gI_sIo _ _ y⟩⟩
theorem QT.put (H : QT w h p) {a i : Nat} {v : Int32} (z : a ≠ 91 ∧ a ≠ 109) : QT w (sI h a i v) p := by
  obtain ⟨f, ⟨b1, b2⟩, c, r⟩ := H
  exact ⟨f.fr (fun _ _ => rfl) (fun _ _ => rfl) (fun _ _ _ _ _ _ => rfl), ⟨by rw [gI_sIo _ _ (by omega)]; exact b1, by rw [gI_sIo _ _ (by omega)]; exact b2⟩, fun i i0 i1 => by rw [gI_sIo _ _ (by omega)]; exact c i i0 i1, r⟩
set_option maxRecDepth 100000 in
theorem q_here (H : QT w h p) : f_X12_here 91 h = some (iv (byt w p), h) := by
  obtain ⟨hF, ⟨b1, b2⟩, ct, hW, q0, q1⟩ := H
  have wt := hW.2.1
  by_cases z : p < wT w
  · rw [show byt w p = wTa w p from if_pos z]
    simp -implicitDefEqProofs (disch := omega) only [F_f_X12_here, K91 hF, R91_18 hF, K109 hF, N109 hF, b1, b2, ct, iv_add, iv_sub, iv_mul, iv_neg, iv_zero, iv_ltT, iv_ltF, iv_leT, iv_leF, iv_eqT, iv_eqF, iv_div, rm_iv, tn_iv, ib_iv, some_cb, some_cbv, ↓nm_eq, ↓reduceIte, true_and, and_true, Bool.true_eq_false, Bool.false_eq_true, not_false_eq_true, not_true_eq_false]
  · rw [show byt w p = -1 from if_neg z]
    simp -implicitDefEqProofs (disch := omega) only [F_f_X12_here, K91 hF, b1, b2, iv_add, iv_sub, iv_mul, iv_neg, iv_zero, iv_ltT, iv_ltF, iv_leT, iv_leF, iv_eqT, iv_eqF, iv_div, rm_iv, tn_iv, ib_iv, some_cb, some_cbv, ↓nm_eq, ↓reduceIte, true_and, and_true, Bool.true_eq_false, Bool.false_eq_true, not_false_eq_true, not_true_eq_false]
set_option maxRecDepth 100000 in
theorem q_eats1 (H : QT w h p) {c : Int} (c0 : 0 ≤ c) (c1 : c ≤ 255) (e : byt w p = c) : f_X12_eats 91 (iv c) h = some (iv 1, sI h 91 28 (iv (p + 1))) := by
  have e0 := q_here H
  obtain ⟨hF, ⟨b1, b2⟩, ct, hW, q0, q1⟩ := H
  have wt := hW.2.1
  rw [e] at e0
  simp -implicitDefEqProofs (disch := omega) only [F_f_X12_eats_13, k_X12_eats_1, F_f_X12_eats, K91 hF, e0, b1, zret1, iv_add, iv_sub, iv_mul, iv_neg, iv_zero, iv_ltT, iv_ltF, iv_leT, iv_leF, iv_eqT, iv_eqF, iv_div, rm_iv, tn_iv, ib_iv, some_cb, some_cbv, ↓nm_eq, ↓reduceIte, true_and, and_true, Bool.true_eq_false, Bool.false_eq_true, not_false_eq_true, not_true_eq_false]
set_option maxRecDepth 100000 in
theorem q_eats0 (H : QT w h p) {c : Int} (c0 : 0 ≤ c) (c1 : c ≤ 255) (e : byt w p ≠ c) : f_X12_eats 91 (iv c) h = some (iv 0, sI h 91 28 (iv p)) := by
  have e0 := q_here H
  obtain ⟨hF, ⟨b1, b2⟩, ct, hW, q0, q1⟩ := H
  have wt := hW.2.1
  have br := byt_rng hW q0
  simp -implicitDefEqProofs (disch := omega) only [F_f_X12_eats_13, k_X12_eats_1, F_f_X12_eats, K91 hF, e0, b1, zret0, Int.add_zero, iv_add, iv_sub, iv_mul, iv_neg, iv_zero, iv_ltT, iv_ltF, iv_leT, iv_leF, iv_eqT, iv_eqF, iv_div, rm_iv, tn_iv, ib_iv, some_cb, some_cbv, ↓nm_eq, ↓reduceIte, true_and, and_true, Bool.true_eq_false, Bool.false_eq_true, not_false_eq_true, not_true_eq_false]
set_option maxRecDepth 100000 in
theorem q_number (H : QT w h p) : ∃ h', f_X12_number 91 h = some (iv (pNv w p), h') ∧ QT w h' (pNp w p) ∧ ∀ row lo hi, QF h h' row lo hi := by
  obtain ⟨hF, ⟨b1, b2⟩, ct, hW, q0, q1⟩ := id H
  have wt := hW.2.1
  have br := byt_rng hW q0
  have e0 := q_here H
  have hFU : 100 < FU := FU_gt (by omega)
  obtain ⟨N, hN⟩ : ∃ N, FU = N + 1 + 1 + 1 := ⟨FU - 3, by omega⟩
  have un : ∀ r : Option (Int32 × AH), lp b_X12_number_4 (fun _ _ _ _ => none) (N + 1 + 1 + 1) 91 (iv 0) (iv 0) h = r → f_X12_number 91 h = r := fun r e => by
    rw [← hN] at e
    exact e
  clear hN hFU
  by_cases d1 : 48 ≤ byt w p ∧ byt w p ≤ 57
  · have hp := byt_in (w := w) (p := p) (c := 48) (by omega) d1.1
    obtain ⟨T1, F1⟩ := H.pos (q := p + 1) (by omega) (by omega)
    have br1 := byt_rng hW (p := p + 1) (by omega)
    have e1 := q_here T1
    have g1 := T1.2.1.1
    have hF1 := T1.1
    by_cases d2 : 48 ≤ byt w (p + 1) ∧ byt w (p + 1) ≤ 57
    · have hp2 := byt_in (w := w) (p := p + 1) (c := 48) (by omega) d2.1
      have ev : pNv w p = (byt w p - 48) * 10 + (byt w (p + 1) - 48) := (if_pos d1).trans (if_pos d2)
      have ep : pNp w p = p + 2 := (if_pos d1).trans (if_pos d2)
      obtain ⟨T2, F2⟩ := T1.pos (q := p + 1 + 1) (by omega) (by omega)
      rw [ep, ev, show p + 2 = p + 1 + 1 by omega]
      refine ⟨_, un _ ?_, T2, fun row lo hi => (F1 row lo hi).tr (F2 row lo hi)⟩
      rw [show (byt w p - 48) * 10 + (byt w (p + 1) - 48) = 10 * (10 * 0 + byt w p - 48) + byt w (p + 1) - 48 by omega]
      simp -implicitDefEqProofs (disch := omega) only [lp_succ, F_b_X12_number_4, k_X12_number_4_1, k_X12_number_4_2, k_X12_number_4_3, F_f_X12_number_52, K91 hF, K91 hF1, e0, e1, b1, g1, q_in1, iv_add, iv_sub, iv_mul, iv_neg, iv_zero, iv_ltT, iv_ltF, iv_leT, iv_leF, iv_eqT, iv_eqF, iv_div, rm_iv, tn_iv, ib_iv, some_cb, some_cbv, ↓nm_eq, ↓reduceIte, true_and, and_true, Bool.true_eq_false, Bool.false_eq_true, not_false_eq_true, not_true_eq_false]
    · have ev : pNv w p = byt w p - 48 := (if_pos d1).trans (if_neg d2)
      have ep : pNp w p = p + 1 := (if_pos d1).trans (if_neg d2)
      rw [ep, ev]
      refine ⟨_, un _ ?_, T1, fun row lo hi => F1 row lo hi⟩
      rw [show byt w p - 48 = 10 * 0 + byt w p - 48 by omega]
      simp -implicitDefEqProofs (disch := omega) only [lp_succ, F_b_X12_number_4, k_X12_number_4_1, k_X12_number_4_2, k_X12_number_4_3, F_f_X12_number_52, K91 hF, K91 hF1, e0, e1, b1, g1, q_in1, q_in0, iv_add, iv_sub, iv_mul, iv_neg, iv_zero, iv_ltT, iv_ltF, iv_leT, iv_leF, iv_eqT, iv_eqF, iv_div, rm_iv, tn_iv, ib_iv, some_cb, some_cbv, ↓nm_eq, ↓reduceIte, true_and, and_true, Bool.true_eq_false, Bool.false_eq_true, not_false_eq_true, not_true_eq_false]
  · have ev : pNv w p = -1 := if_neg d1
    have ep : pNp w p = p := if_neg d1
    rw [ep, ev]
    refine ⟨h, un _ ?_, H, fun row lo hi => QF.rf _ _ _ _⟩
    simp -implicitDefEqProofs (disch := omega) only [lp_succ, F_b_X12_number_4, k_X12_number_4_1, k_X12_number_4_2, k_X12_number_4_3, F_f_X12_number_52, K91 hF, e0, q_in0, iv_add, iv_sub, iv_mul, iv_neg, iv_zero, iv_ltT, iv_ltF, iv_leT, iv_leF, iv_eqT, iv_eqF, iv_div, rm_iv, tn_iv, ib_iv, some_cb, some_cbv, ↓nm_eq, ↓reduceIte, true_and, and_true, Bool.true_eq_false, Bool.false_eq_true, not_false_eq_true, not_true_eq_false]
set_option maxRecDepth 100000 in
theorem q_rd1 {x tot : Nat} (hx : x < 48) (ht : tot ≤ 4) (n : Nat) : ∀ (N idx : Nat) (p : Int) (h : AH), n < N → idx + n = tot → QT w h p → ∃ h', lp b_X12_readsSums_3 (fun _ _ _ _ _ _ => none) N 91 (iv x) (iv 1) (iv tot) (iv idx) h = some (iv (rdN w (if idx = 0 then 1 else 0) n p).1, h') ∧ QF h h' 95 (4 * x + idx) (4 * x + tot) ∧ QT w h' (rdN w (if idx = 0 then 1 else 0) n p).2.1 ∧ ((rdN w (if idx = 0 then 1 else 0) n p).1 = 1 → ∀ q, q < n → gI h' 95 (4 * x + idx + q) = iv ((rdN w (if idx = 0 then 1 else 0) n p).2.2.getD q 0)) := by
  induction n with
  | zero =>
    intro N idx p h hN hi H
    obtain ⟨N, rfl⟩ : ∃ N', N = N' + 1 := ⟨N - 1, by omega⟩
    obtain rfl : idx = tot := by omega
    refine ⟨h, ?_, QF.rf _ _ _ _, H, fun _ q y => by omega⟩
    show _ = some (iv 1, h)
    simp -implicitDefEqProofs (disch := omega) only [lp_succ, F_b_X12_readsSums_3, zret1, iv_add, iv_sub, iv_mul, iv_neg, iv_zero, iv_ltT, iv_ltF, iv_leT, iv_leF, iv_eqT, iv_eqF, iv_div, rm_iv, tn_iv, ib_iv, some_cb, some_cbv, ↓nm_eq, ↓reduceIte, true_and, and_true, Bool.true_eq_false, Bool.false_eq_true, not_false_eq_true, not_true_eq_false]
  | succ n ih =>
    intro N idx p h hN hi H
    obtain ⟨N, rfl⟩ : ∃ N', N = N' + 1 := ⟨N - 1, by omega⟩
    obtain ⟨hF, ⟨b1, b2⟩, ct, hW, q0, q1⟩ := id H
    have wt := hW.2.1
    have go : ∀ (p1 : Int) (hs : AH), p ≤ p1 → p1 ≤ wT w → QT w hs p1 → QF h hs 95 (4 * x + idx) (4 * x + tot) → (∀ (h1 : AH), f_X12_number 91 hs = some (iv (pNv w p1), h1) → lp b_X12_readsSums_3 (fun _ _ _ _ _ _ => none) (N + 1) 91 (iv x) (iv 1) (iv tot) (iv idx) h = f_X12_readsSums_31 (lp b_X12_readsSums_3 (fun _ _ _ _ _ _ => none) N) 91 (iv x) (iv 1) (iv tot) (iv idx) (iv (pNv w p1)) h1) → ∀ r : Int × Int × List Int, r = (if 0 ≤ pNv w p1 then ((rdN w 0 n (pNp w p1)).1, (rdN w 0 n (pNp w p1)).2.1, pNv w p1 :: (rdN w 0 n (pNp w p1)).2.2) else (0, pNp w p1, [])) → ∃ h', lp b_X12_readsSums_3 (fun _ _ _ _ _ _ => none) (N + 1) 91 (iv x) (iv 1) (iv tot) (iv idx) h = some (iv r.1, h') ∧ QF h h' 95 (4 * x + idx) (4 * x + tot) ∧ QT w h' r.2.1 ∧ (r.1 = 1 → ∀ q, q < n + 1 → gI h' 95 (4 * x + idx + q) = iv (r.2.2.getD q 0)) := by
      intro p1 hs y1 y2 T F0 e r hr
      obtain ⟨h1, n1, T1, F1⟩ := q_number T
      have e1 := e h1 n1
      have hF1 := T1.1
      obtain ⟨a1, a2, a3, a4, a5, a6⟩ := pN_rng hW (p := p1) (by omega) y2
      by_cases pv : 0 ≤ pNv w p1
      · rw [if_pos pv] at hr
        obtain ⟨h2, m1, F2, T2, m2⟩ := ih N (idx + 1) (pNp w p1) (sI h1 95 (4 * x + idx) (iv (pNv w p1))) (by omega) (by omega) (T1.put (by omega))
        rw [if_neg (show ¬ idx + 1 = 0 by omega)] at m1 T2 m2
        subst hr
        refine ⟨h2, ?_, ((F0.tr (F1 _ _ _)).tr (QF.put (by omega))).tr (F2.wd (by omega) (by omega)), T2, fun y q hq => ?_⟩
        · show _ = some (iv (rdN w 0 n (pNp w p1)).1, h2)
          rw [e1, ← m1, show ((idx + 1 : Nat) : Int) = (idx : Int) + 1 by omega]
          have ix : (4 * (x : Int) + (idx : Int)).toNat = 4 * x + idx := by omega
          simp -implicitDefEqProofs (disch := omega) only [F_f_X12_readsSums_31, K91 hF1, R91_4 hF1, K95 hF1, N95 hF1, ix, iv_add, iv_sub, iv_mul, iv_neg, iv_zero, iv_ltT, iv_ltF, iv_leT, iv_leF, iv_eqT, iv_eqF, iv_div, rm_iv, tn_iv, ib_iv, some_cb, some_cbv, ↓nm_eq, ↓reduceIte, true_and, and_true, Bool.true_eq_false, Bool.false_eq_true, not_false_eq_true, not_true_eq_false]
        · cases q with
          | zero =>
            rw [Nat.add_zero, F2.2.2.2.2.2.2 _ _ (by omega) (by omega), gI_sIs]
            rfl
          | succ q =>
            have := m2 y q (by omega)
            rw [show 4 * x + idx + (q + 1) = 4 * x + (idx + 1) + q by omega, this]
            rfl
      · rw [if_neg pv] at hr
        subst hr
        refine ⟨h1, ?_, F0.tr (F1 _ _ _), T1, fun y => absurd y (by show ¬ (0 : Int) = 1; omega)⟩
        rw [e1]
        simp -implicitDefEqProofs (disch := omega) only [F_f_X12_readsSums_31, zret0, iv_add, iv_sub, iv_mul, iv_neg, iv_zero, iv_ltT, iv_ltF, iv_leT, iv_leF, iv_eqT, iv_eqF, iv_div, rm_iv, tn_iv, ib_iv, some_cb, some_cbv, ↓nm_eq, ↓reduceIte, true_and, and_true, Bool.true_eq_false, Bool.false_eq_true, not_false_eq_true, not_true_eq_false]
    by_cases z : idx = 0
    · subst z
      rw [if_pos rfl]
      refine go p h (Int.le_refl _) q1 H (QF.rf _ _ _ _) (fun h1 e => ?_) _ (rdN_1 w n p)
      simp -implicitDefEqProofs (disch := omega) only [lp_succ, F_b_X12_readsSums_3, k_X12_readsSums_3_1, k_X12_readsSums_3_2, k_X12_readsSums_3_3, K91 hF, e, iv_add, iv_sub, iv_mul, iv_neg, iv_zero, iv_ltT, iv_ltF, iv_leT, iv_leF, iv_eqT, iv_eqF, iv_div, rm_iv, tn_iv, ib_iv, some_cb, some_cbv, ↓nm_eq, ↓reduceIte, true_and, and_true, Bool.true_eq_false, Bool.false_eq_true, not_false_eq_true, not_true_eq_false]
    · rw [if_neg z]
      by_cases y : byt w p = 44
      · have hp := byt_in (w := w) (p := p) (c := 44) (by omega) (by omega)
        obtain ⟨T1, F1⟩ := H.pos (q := p + 1) (by omega) (by omega)
        have sg := q_eats1 H (c := 44) (by omega) (by omega) y
        have hF1 := T1.1
        refine go (p + 1) _ (by omega) (by omega) T1 (F1 _ _ _) (fun h1 e => ?_) _ ((rdN_0 w n p).trans (if_pos y))
        simp -implicitDefEqProofs (disch := omega) only [lp_succ, F_b_X12_readsSums_3, k_X12_readsSums_3_1, k_X12_readsSums_3_2, k_X12_readsSums_3_3, K91 hF, K91 hF1, sg, e, iv_add, iv_sub, iv_mul, iv_neg, iv_zero, iv_ltT, iv_ltF, iv_leT, iv_leF, iv_eqT, iv_eqF, iv_div, rm_iv, tn_iv, ib_iv, some_cb, some_cbv, ↓nm_eq, ↓reduceIte, true_and, and_true, Bool.true_eq_false, Bool.false_eq_true, not_false_eq_true, not_true_eq_false]
      · have sg := q_eats0 H (c := 44) (by omega) (by omega) y
        obtain ⟨T1, F1⟩ := H.pos (q := p) q0 q1
        have e0 : rdN w 0 (n + 1) p = (0, p, []) := (rdN_0 w n p).trans (if_neg y)
        rw [e0]
        refine ⟨sI h 91 28 (iv p), ?_, F1 _ _ _, T1, fun u => absurd u (by show ¬ (0 : Int) = 1; omega)⟩
        simp -implicitDefEqProofs (disch := omega) only [lp_succ, F_b_X12_readsSums_3, k_X12_readsSums_3_1, k_X12_readsSums_3_2, k_X12_readsSums_3_3, F_f_X12_readsSums_31, K91 hF, sg, zret0, iv_add, iv_sub, iv_mul, iv_neg, iv_zero, iv_ltT, iv_ltF, iv_leT, iv_leF, iv_eqT, iv_eqF, iv_div, rm_iv, tn_iv, ib_iv, some_cb, some_cbv, ↓nm_eq, ↓reduceIte, true_and, and_true, Bool.true_eq_false, Bool.false_eq_true, not_false_eq_true, not_true_eq_false]
set_option maxRecDepth 100000 in
theorem q_rd0 {x tot : Nat} (hx : x < 48) (ht : tot ≤ 3) (n : Nat) : ∀ (N idx : Nat) (p : Int) (h : AH), n < N → idx + n = tot → QT w h p → ∃ h', lp b_X12_readsSums_3 (fun _ _ _ _ _ _ => none) N 91 (iv x) (iv 0) (iv tot) (iv idx) h = some (iv (rdN w (if idx = 0 then 1 else 0) n p).1, h') ∧ QF h h' 96 (3 * x + idx) (3 * x + tot) ∧ QT w h' (rdN w (if idx = 0 then 1 else 0) n p).2.1 ∧ ((rdN w (if idx = 0 then 1 else 0) n p).1 = 1 → ∀ q, q < n → gI h' 96 (3 * x + idx + q) = iv ((rdN w (if idx = 0 then 1 else 0) n p).2.2.getD q 0)) := by
  induction n with
  | zero =>
    intro N idx p h hN hi H
    obtain ⟨N, rfl⟩ : ∃ N', N = N' + 1 := ⟨N - 1, by omega⟩
    obtain rfl : idx = tot := by omega
    refine ⟨h, ?_, QF.rf _ _ _ _, H, fun _ q y => by omega⟩
    show _ = some (iv 1, h)
    simp -implicitDefEqProofs (disch := omega) only [lp_succ, F_b_X12_readsSums_3, zret1, iv_add, iv_sub, iv_mul, iv_neg, iv_zero, iv_ltT, iv_ltF, iv_leT, iv_leF, iv_eqT, iv_eqF, iv_div, rm_iv, tn_iv, ib_iv, some_cb, some_cbv, ↓nm_eq, ↓reduceIte, true_and, and_true, Bool.true_eq_false, Bool.false_eq_true, not_false_eq_true, not_true_eq_false]
  | succ n ih =>
    intro N idx p h hN hi H
    obtain ⟨N, rfl⟩ : ∃ N', N = N' + 1 := ⟨N - 1, by omega⟩
    obtain ⟨hF, ⟨b1, b2⟩, ct, hW, q0, q1⟩ := id H
    have wt := hW.2.1
    have go : ∀ (p1 : Int) (hs : AH), p ≤ p1 → p1 ≤ wT w → QT w hs p1 → QF h hs 96 (3 * x + idx) (3 * x + tot) → (∀ (h1 : AH), f_X12_number 91 hs = some (iv (pNv w p1), h1) → lp b_X12_readsSums_3 (fun _ _ _ _ _ _ => none) (N + 1) 91 (iv x) (iv 0) (iv tot) (iv idx) h = f_X12_readsSums_31 (lp b_X12_readsSums_3 (fun _ _ _ _ _ _ => none) N) 91 (iv x) (iv 0) (iv tot) (iv idx) (iv (pNv w p1)) h1) → ∀ r : Int × Int × List Int, r = (if 0 ≤ pNv w p1 then ((rdN w 0 n (pNp w p1)).1, (rdN w 0 n (pNp w p1)).2.1, pNv w p1 :: (rdN w 0 n (pNp w p1)).2.2) else (0, pNp w p1, [])) → ∃ h', lp b_X12_readsSums_3 (fun _ _ _ _ _ _ => none) (N + 1) 91 (iv x) (iv 0) (iv tot) (iv idx) h = some (iv r.1, h') ∧ QF h h' 96 (3 * x + idx) (3 * x + tot) ∧ QT w h' r.2.1 ∧ (r.1 = 1 → ∀ q, q < n + 1 → gI h' 96 (3 * x + idx + q) = iv (r.2.2.getD q 0)) := by
      intro p1 hs y1 y2 T F0 e r hr
      obtain ⟨h1, n1, T1, F1⟩ := q_number T
      have e1 := e h1 n1
      have hF1 := T1.1
      obtain ⟨a1, a2, a3, a4, a5, a6⟩ := pN_rng hW (p := p1) (by omega) y2
      by_cases pv : 0 ≤ pNv w p1
      · rw [if_pos pv] at hr
        obtain ⟨h2, m1, F2, T2, m2⟩ := ih N (idx + 1) (pNp w p1) (sI h1 96 (3 * x + idx) (iv (pNv w p1))) (by omega) (by omega) (T1.put (by omega))
        rw [if_neg (show ¬ idx + 1 = 0 by omega)] at m1 T2 m2
        subst hr
        refine ⟨h2, ?_, ((F0.tr (F1 _ _ _)).tr (QF.put (by omega))).tr (F2.wd (by omega) (by omega)), T2, fun y q hq => ?_⟩
        · show _ = some (iv (rdN w 0 n (pNp w p1)).1, h2)
          rw [e1, ← m1, show ((idx + 1 : Nat) : Int) = (idx : Int) + 1 by omega]
          have ix : (3 * (x : Int) + (idx : Int)).toNat = 3 * x + idx := by omega
          simp -implicitDefEqProofs (disch := omega) only [F_f_X12_readsSums_31, K91 hF1, R91_5 hF1, K96 hF1, N96 hF1, ix, iv_add, iv_sub, iv_mul, iv_neg, iv_zero, iv_ltT, iv_ltF, iv_leT, iv_leF, iv_eqT, iv_eqF, iv_div, rm_iv, tn_iv, ib_iv, some_cb, some_cbv, ↓nm_eq, ↓reduceIte, true_and, and_true, Bool.true_eq_false, Bool.false_eq_true, not_false_eq_true, not_true_eq_false]
        · cases q with
          | zero =>
            rw [Nat.add_zero, F2.2.2.2.2.2.2 _ _ (by omega) (by omega), gI_sIs]
            rfl
          | succ q =>
            have := m2 y q (by omega)
            rw [show 3 * x + idx + (q + 1) = 3 * x + (idx + 1) + q by omega, this]
            rfl
      · rw [if_neg pv] at hr
        subst hr
        refine ⟨h1, ?_, F0.tr (F1 _ _ _), T1, fun y => absurd y (by show ¬ (0 : Int) = 1; omega)⟩
        rw [e1]
        simp -implicitDefEqProofs (disch := omega) only [F_f_X12_readsSums_31, zret0, iv_add, iv_sub, iv_mul, iv_neg, iv_zero, iv_ltT, iv_ltF, iv_leT, iv_leF, iv_eqT, iv_eqF, iv_div, rm_iv, tn_iv, ib_iv, some_cb, some_cbv, ↓nm_eq, ↓reduceIte, true_and, and_true, Bool.true_eq_false, Bool.false_eq_true, not_false_eq_true, not_true_eq_false]
    by_cases z : idx = 0
    · subst z
      rw [if_pos rfl]
      refine go p h (Int.le_refl _) q1 H (QF.rf _ _ _ _) (fun h1 e => ?_) _ (rdN_1 w n p)
      simp -implicitDefEqProofs (disch := omega) only [lp_succ, F_b_X12_readsSums_3, k_X12_readsSums_3_1, k_X12_readsSums_3_2, k_X12_readsSums_3_3, K91 hF, e, iv_add, iv_sub, iv_mul, iv_neg, iv_zero, iv_ltT, iv_ltF, iv_leT, iv_leF, iv_eqT, iv_eqF, iv_div, rm_iv, tn_iv, ib_iv, some_cb, some_cbv, ↓nm_eq, ↓reduceIte, true_and, and_true, Bool.true_eq_false, Bool.false_eq_true, not_false_eq_true, not_true_eq_false]
    · rw [if_neg z]
      by_cases y : byt w p = 44
      · have hp := byt_in (w := w) (p := p) (c := 44) (by omega) (by omega)
        obtain ⟨T1, F1⟩ := H.pos (q := p + 1) (by omega) (by omega)
        have sg := q_eats1 H (c := 44) (by omega) (by omega) y
        have hF1 := T1.1
        refine go (p + 1) _ (by omega) (by omega) T1 (F1 _ _ _) (fun h1 e => ?_) _ ((rdN_0 w n p).trans (if_pos y))
        simp -implicitDefEqProofs (disch := omega) only [lp_succ, F_b_X12_readsSums_3, k_X12_readsSums_3_1, k_X12_readsSums_3_2, k_X12_readsSums_3_3, K91 hF, K91 hF1, sg, e, iv_add, iv_sub, iv_mul, iv_neg, iv_zero, iv_ltT, iv_ltF, iv_leT, iv_leF, iv_eqT, iv_eqF, iv_div, rm_iv, tn_iv, ib_iv, some_cb, some_cbv, ↓nm_eq, ↓reduceIte, true_and, and_true, Bool.true_eq_false, Bool.false_eq_true, not_false_eq_true, not_true_eq_false]
      · have sg := q_eats0 H (c := 44) (by omega) (by omega) y
        obtain ⟨T1, F1⟩ := H.pos (q := p) q0 q1
        have e0 : rdN w 0 (n + 1) p = (0, p, []) := (rdN_0 w n p).trans (if_neg y)
        rw [e0]
        refine ⟨sI h 91 28 (iv p), ?_, F1 _ _ _, T1, fun u => absurd u (by show ¬ (0 : Int) = 1; omega)⟩
        simp -implicitDefEqProofs (disch := omega) only [lp_succ, F_b_X12_readsSums_3, k_X12_readsSums_3_1, k_X12_readsSums_3_2, k_X12_readsSums_3_3, F_f_X12_readsSums_31, K91 hF, sg, zret0, iv_add, iv_sub, iv_mul, iv_neg, iv_zero, iv_ltT, iv_ltF, iv_leT, iv_leF, iv_eqT, iv_eqF, iv_div, rm_iv, tn_iv, ib_iv, some_cb, some_cbv, ↓nm_eq, ↓reduceIte, true_and, and_true, Bool.true_eq_false, Bool.false_eq_true, not_false_eq_true, not_true_eq_false]
end Q
