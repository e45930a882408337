section Q
variable {w : WD} {h : AH}
set_option maxRecDepth 100000 in
theorem q_ww33 (hS : QS w h) {m b0 g a b p r : Int} {n : Nat} (hl : lvM w m) (b00 : 0 ≤ b0) (tb : b0 < wBx w m) (hg : 0 ≤ g) (hn : g + 1 + n = wGr w m) (n1 : 1 ≤ n) (ha : -500 ≤ a ∧ a ≤ 500) (hb : -500 ≤ b ∧ b ≤ 500) (hp : 0 ≤ p ∧ p ≤ 200) (hr : 0 ≤ r ∧ r ≤ 99) : ∀ (k N : Nat), k < N → ∀ (y j : Int), 0 ≤ j → j + k = max j (min (r - p) b + 1) → j ≤ 1000 → lp b_X12_waysWith_33 (fun _ _ _ _ _ _ _ _ _ _ => none) N 91 (iv (12 * m + b0)) (iv g) (iv a) (iv b) (iv p) (iv r) (jv y) (iv j) h = some (jv (y + Sr (fun q => cn (rwL w (12 * m + b0) (g + 1) n) (a - p) (b - q) (sumL (rwL w (12 * m + b0) (g + 1) n) - (a - p) - (b - q))) j (min (r - p) b)), h) := by
  have hF := hS.F
  intro k
  induction k with
  | zero =>
    intro N hN; obtain ⟨N, rfl⟩ : ∃ N', N = N' + 1 := ⟨N - 1, (by omega)⟩
    intro y j j0 hj j1
    rw [Sr_none (by omega), Int.add_zero]
    by_cases z : r - p < j
    · simp -implicitDefEqProofs (disch := omega) only [lp_succ, F_b_X12_waysWith_33, iv_add, iv_sub, iv_mul, iv_neg, iv_zero, iv_ltT, iv_ltF, iv_leT, iv_leF, iv_eqT, iv_eqF, iv_div, rm_iv, tn_iv, ib_iv, some_cb, some_cbv, ↓nm_eq, ↓reduceIte, true_and, and_true, Bool.true_eq_false, Bool.false_eq_true, not_false_eq_true, not_true_eq_false]
    · simp -implicitDefEqProofs (disch := omega) only [lp_succ, F_b_X12_waysWith_33, iv_add, iv_sub, iv_mul, iv_neg, iv_zero, iv_ltT, iv_ltF, iv_leT, iv_leF, iv_eqT, iv_eqF, iv_div, rm_iv, tn_iv, ib_iv, some_cb, some_cbv, ↓nm_eq, ↓reduceIte, true_and, and_true, Bool.true_eq_false, Bool.false_eq_true, not_false_eq_true, not_true_eq_false]
  | succ k ih =>
    intro N hN; obtain ⟨N, rfl⟩ : ∃ N', N = N' + 1 := ⟨N - 1, (by omega)⟩
    intro y j j0 hj j1
    have hi := ih N (by omega) (y + cn (rwL w (12 * m + b0) (g + 1) n) (a - p) (b - j) (sumL (rwL w (12 * m + b0) (g + 1) n) - (a - p) - (b - j))) (j + 1) (by omega) (by omega) (by omega)
    have hq := q_ways hS hl b00 tb (g := g + 1) (n := n) (a := a - p) (b := b - j) (by omega) (by omega) n1 (by omega) (by omega)
    rw [Sr_first (by omega), ← Int.add_assoc, ← hi]
    simp -implicitDefEqProofs (disch := omega) only [lp_succ, F_b_X12_waysWith_33, k_X12_waysWith_33_1, K91 hF, hq, iv_add, iv_sub, iv_mul, iv_neg, iv_zero, iv_ltT, iv_ltF, iv_leT, iv_leF, iv_eqT, iv_eqF, iv_div, rm_iv, tn_iv, ib_iv, lc_lt, lc_le, lc_gt, lc_ge, lc_eq, iv_l, jv_add, jv_sub, jv_mul, jv_zero, if_pos, if_neg, some_cb, some_cbv, ↓nm_eq, ↓reduceIte, true_and, and_true, Bool.true_eq_false, Bool.false_eq_true, not_false_eq_true, not_true_eq_false]
set_option maxRecDepth 100000 in
theorem q_ww108 (hS : QS w h) {x a b p r s r2 r3 c1 : Int} (F : Int → Int → Int) (hFc : ∀ x y : Int, F x y = cn [r2, r3] x y (r2 + r3 - x - y)) (k : Nat → Int32 → Int32 → Int32 → Int32 → Int32 → Int64 → Int32 → Int32 → AH → Option (Int64 × AH)) (hx : 0 ≤ x ∧ x ≤ 47) (e2 : wG w x 2 = r2) (e3 : wG w x 3 = r3) (h2 : 0 ≤ r2 ∧ r2 ≤ 99) (h3 : 0 ≤ r3 ∧ r3 ≤ 99) (hr : 0 ≤ r ∧ r ≤ 99) (hs : 0 ≤ s ∧ s ≤ 99) (ha : -500 ≤ a ∧ a ≤ 500) (hb : -500 ≤ b ∧ b ≤ 500) (hp : 0 ≤ p ∧ p ≤ 200) (hc : 0 ≤ c1 ∧ c1 ≤ a - p) : ∀ (n N : Nat), n < N → ∀ (y j : Int), 0 ≤ j → j + n = max j (b + 1) → j ≤ 1000 → lp (b_X12_waysWith_108 k) (fun _ _ _ _ _ _ _ _ _ _ _ => none) N 91 (iv x) (iv a) (iv b) (iv p) (iv r) (jv y) (iv s) (iv c1) (iv j) h = k 91 (iv x) (iv a) (iv b) (iv p) (iv r) (jv (y + Sr (fun d => if a - p - c1 ≤ s then F c1 d * wwK (r - p) s b (a - p - c1) d else 0) j b)) (iv s) (iv (c1 + 1)) h := by
  have hF := hS.F
  have hR := hS.R
  have G1 : gI h 95 (4 * x + 2).toNat = iv r2 := by rw [RR_G hR (x := x) (g := 2) (by omega), e2]
  have G2 : gI h 95 (4 * x + 3).toNat = iv r3 := by rw [RR_G hR (x := x) (g := 3) (by omega), e3]
  intro n
  induction n with
  | zero =>
    intro N hN; obtain ⟨N, rfl⟩ : ∃ N', N = N' + 1 := ⟨N - 1, (by omega)⟩
    intro y j j0 hj j1
    rw [Sr_none (by omega), Int.add_zero]
    simp -implicitDefEqProofs (disch := omega) only [lp_succ, F_b_X12_waysWith_108, iv_add, iv_sub, iv_mul, iv_neg, iv_zero, iv_ltT, iv_ltF, iv_leT, iv_leF, iv_eqT, iv_eqF, iv_div, rm_iv, tn_iv, ib_iv, some_cb, some_cbv, ↓nm_eq, ↓reduceIte, true_and, and_true, Bool.true_eq_false, Bool.false_eq_true, not_false_eq_true, not_true_eq_false]
  | succ n ih =>
    intro N hN; obtain ⟨N, rfl⟩ : ∃ N', N = N' + 1 := ⟨N - 1, (by omega)⟩
    intro y j j0 hj j1
    have hi := ih N (by omega) (y + (if a - p - c1 ≤ s then F c1 j * wwK (r - p) s b (a - p - c1) j else 0)) (j + 1) (by omega) (by omega) (by omega)
    rw [Sr_first (by omega), ← Int.add_assoc, ← hi]
    by_cases z1 : s < a - p - c1
    · rw [if_neg (by omega), Int.add_zero]
      simp -implicitDefEqProofs (disch := omega) only [lp_succ, F_b_X12_waysWith_108, k_X12_waysWith_108_2, k_X12_waysWith_108_3, q_lesser, q_greater, iv_add, iv_sub, iv_mul, iv_neg, iv_zero, iv_ltT, iv_ltF, iv_leT, iv_leF, iv_eqT, iv_eqF, iv_div, rm_iv, tn_iv, ib_iv, jv_add, Int.add_zero, some_cb, some_cbv, ↓nm_eq, ↓reduceIte, true_and, and_true, Bool.true_eq_false, Bool.false_eq_true, not_false_eq_true, not_true_eq_false]
    rw [if_pos (by omega)]
    unfold wwK
    by_cases z2 : min (r - p) (b - j) < max 0 (b - j + (a - p - c1) - s)
    · rw [if_neg (by omega), Int.mul_zero, Int.add_zero]
      simp -implicitDefEqProofs (disch := omega) only [lp_succ, F_b_X12_waysWith_108, k_X12_waysWith_108_2, k_X12_waysWith_108_3, q_lesser, q_greater, iv_add, iv_sub, iv_mul, iv_neg, iv_zero, iv_ltT, iv_ltF, iv_leT, iv_leF, iv_eqT, iv_eqF, iv_div, rm_iv, tn_iv, ib_iv, jv_add, Int.add_zero, some_cb, some_cbv, ↓nm_eq, ↓reduceIte, true_and, and_true, Bool.true_eq_false, Bool.false_eq_true, not_false_eq_true, not_true_eq_false]
    · rw [if_pos (by omega)]
      have hq := q_pair (h := h) (r := r2) (s := r3) (by omega) (by omega) (a := c1) (b := j) (by omega) (by omega)
      rw [← hFc] at hq
      simp -implicitDefEqProofs (disch := omega) only [lp_succ, F_b_X12_waysWith_108, k_X12_waysWith_108_1, k_X12_waysWith_108_2, k_X12_waysWith_108_3, q_lesser, q_greater, K91 hF, R91_4 hF, K95 hF, N95 hF, G1, G2, hq, iv_add, iv_sub, iv_mul, iv_neg, iv_zero, iv_ltT, iv_ltF, iv_leT, iv_leF, iv_eqT, iv_eqF, iv_div, rm_iv, tn_iv, ib_iv, iv_l, jv_add, jv_mul, some_cb, some_cbv, ↓nm_eq, ↓reduceIte, true_and, and_true, Bool.true_eq_false, Bool.false_eq_true, not_false_eq_true, not_true_eq_false]
set_option maxRecDepth 100000 in
theorem q_ww96 (hS : QS w h) {x a b p r s r2 r3 : Int} (F : Int → Int → Int) (hFc : ∀ x y : Int, F x y = cn [r2, r3] x y (r2 + r3 - x - y)) (hx : 0 ≤ x ∧ x ≤ 47) (e2 : wG w x 2 = r2) (e3 : wG w x 3 = r3) (h2 : 0 ≤ r2 ∧ r2 ≤ 99) (h3 : 0 ≤ r3 ∧ r3 ≤ 99) (hr : 0 ≤ r ∧ r ≤ 99) (hs : 0 ≤ s ∧ s ≤ 99) (ha : -500 ≤ a ∧ a ≤ 500) (hb : -500 ≤ b ∧ b ≤ 500) (hp : 0 ≤ p ∧ p ≤ 200) : ∀ (n N : Nat), n < N → ∀ (y c1 : Int), 0 ≤ c1 → c1 + n = max c1 (a - p + 1) → c1 ≤ 1000 → lp b_X12_waysWith_96 (fun _ _ _ _ _ _ _ _ _ _ => none) N 91 (iv x) (iv a) (iv b) (iv p) (iv r) (jv y) (iv s) (iv c1) h = some (jv (y + Sr (fun c1 => Sr (fun d => if a - p - c1 ≤ s then F c1 d * wwK (r - p) s b (a - p - c1) d else 0) 0 b) c1 (a - p)), h) := by
  intro n
  induction n with
  | zero =>
    intro N hN; obtain ⟨N, rfl⟩ : ∃ N', N = N' + 1 := ⟨N - 1, (by omega)⟩
    intro y c1 c0 hc c2
    rw [Sr_none (by omega), Int.add_zero]
    simp -implicitDefEqProofs (disch := omega) only [lp_succ, F_b_X12_waysWith_96, iv_add, iv_sub, iv_mul, iv_neg, iv_zero, iv_ltT, iv_ltF, iv_leT, iv_leF, iv_eqT, iv_eqF, iv_div, rm_iv, tn_iv, ib_iv, some_cb, some_cbv, ↓nm_eq, ↓reduceIte, true_and, and_true, Bool.true_eq_false, Bool.false_eq_true, not_false_eq_true, not_true_eq_false]
  | succ n ih =>
    intro N hN; obtain ⟨N, rfl⟩ : ∃ N', N = N' + 1 := ⟨N - 1, (by omega)⟩
    intro y c1 c0 hc c2
    have hj := q_ww108 hS F hFc (lp b_X12_waysWith_96 (fun _ _ _ _ _ _ _ _ _ _ => none) N) hx e2 e3 h2 h3 hr hs ha hb hp (c1 := c1) (by omega) (b + 1).toNat FU (FU_gt (by omega)) y 0 (by omega) (by omega) (by omega)
    have hi := ih N (by omega) (y + Sr (fun d => if a - p - c1 ≤ s then F c1 d * wwK (r - p) s b (a - p - c1) d else 0) 0 b) (c1 + 1) (by omega) (by omega) (by omega)
    rw [hi] at hj
    rw [Sr_first (by omega), ← Int.add_assoc, ← hj]
    simp -implicitDefEqProofs (disch := omega) only [lp_succ, F_b_X12_waysWith_96, f_X12_waysWith_108, iv_add, iv_sub, iv_mul, iv_neg, iv_zero, iv_ltT, iv_ltF, iv_leT, iv_leF, iv_eqT, iv_eqF, iv_div, rm_iv, tn_iv, ib_iv, some_cb, some_cbv, ↓nm_eq, ↓reduceIte, true_and, and_true, Bool.true_eq_false, Bool.false_eq_true, not_false_eq_true, not_true_eq_false]
set_option maxRecDepth 100000 in
theorem q_waysWith (hS : QS w h) {m b0 g a b p : Int} {n : Nat} (hl : lvM w m) (b00 : 0 ≤ b0) (tb : b0 < wBx w m) (hg : 0 ≤ g) (hn : g + 1 + n = wGr w m) (n1 : 1 ≤ n) (ha : -500 ≤ a ∧ a ≤ 500) (hb : -500 ≤ b ∧ b ≤ 500) (hp : 0 ≤ p ∧ p ≤ 200) : f_X12_waysWith 91 (iv (12 * m + b0)) (iv g) (iv a) (iv b) (iv p) h = some (jv (Sr (fun q => cn (rwL w (12 * m + b0) (g + 1) n) (a - p) (b - q) (sumL (rwL w (12 * m + b0) (g + 1) n) - (a - p) - (b - q))) 0 (wG w (12 * m + b0) g - p)), h) := by
  have hF := hS.F
  have hR := hS.R
  obtain ⟨⟨w1, w2⟩, -⟩ := hS.W; obtain ⟨⟨gg1, gg2⟩, ⟨gc1, gc2⟩, ⟨b2, b3⟩, ⟨hh1, hh2⟩, -⟩ := hS.W.mat hl; obtain ⟨l1, l2⟩ := id hl
  have hV := hS.W.box hl b00 tb
  obtain ⟨⟨x0, x1⟩, v0, v1⟩ := box_ran hS.W hl b00 tb
  have hx : iv (12 * m + b0) / iv 12 = iv m := (by rw [iv_div (by omega) (by omega) (by omega) (by omega)]; congr 1; omega)
  have hG := fun (i : Int) (i0 : 0 ≤ i) (i1 : i < wGr w m) => oB_g hV i0 i1 (by omega)
  have q0 := hG g hg (by omega)
  by_cases z : n = 3
  · subst z
    have hg0 : g = 0 := (by omega)
    subst hg0
    have hn4 : wGr w m = 4 := (by omega)
    have q1 := hG 1 (by omega) (by omega)
    have q2 := hG 2 (by omega) (by omega)
    have q3 := hG 3 (by omega) (by omega)
    have key := q_ww96 hS (x := 12 * m + b0) (a := a) (b := b) (p := p) (fun x y => cn [wG w (12 * m + b0) 2, wG w (12 * m + b0) 3] x y (wG w (12 * m + b0) 2 + wG w (12 * m + b0) 3 - x - y)) (fun _ _ => rfl) (by omega) rfl rfl q2 q3 q0 q1 ha hb hp (a - p + 1).toNat FU (FU_gt (by omega)) 0 0 (by omega) (by omega) (by omega)
    rw [← ww4 (P := wG w (12 * m + b0) 0 - p) (s := wG w (12 * m + b0) 1) (a := a - p) (b := b) (fun x y => cn [wG w (12 * m + b0) 2, wG w (12 * m + b0) 3] x y (wG w (12 * m + b0) 2 + wG w (12 * m + b0) 3 - x - y)) (fun _ _ => rfl), Int.zero_add] at key
    have e : Sr (fun q => cn (rwL w (12 * m + b0) (0 + 1) 3) (a - p) (b - q) (sumL (rwL w (12 * m + b0) (0 + 1) 3) - (a - p) - (b - q))) 0 (wG w (12 * m + b0) 0 - p) = Sr (fun q => cn [wG w (12 * m + b0) 1, wG w (12 * m + b0) 2, wG w (12 * m + b0) 3] (a - p) (b - q) (wG w (12 * m + b0) 1 + wG w (12 * m + b0) 2 + wG w (12 * m + b0) 3 - (a - p) - b + q)) 0 (wG w (12 * m + b0) 0 - p) := Sr_congr (fun q _ _ => by
      show cn [wG w (12 * m + b0) 1, wG w (12 * m + b0) 2, wG w (12 * m + b0) 3] (a - p) (b - q) (sumL [wG w (12 * m + b0) 1, wG w (12 * m + b0) 2, wG w (12 * m + b0) 3] - (a - p) - (b - q)) = _
      rw [sumL3, show wG w (12 * m + b0) 1 + wG w (12 * m + b0) 2 + wG w (12 * m + b0) 3 - (a - p) - (b - q) = wG w (12 * m + b0) 1 + wG w (12 * m + b0) 2 + wG w (12 * m + b0) 3 - (a - p) - b + q by omega])
    rw [e, ← key]
    simp -implicitDefEqProofs (disch := omega) only [k_X12_waysWith_33_1, F_b_X12_waysWith_33, f_X12_waysWith_33, k_X12_waysWith_108_1, k_X12_waysWith_108_2, k_X12_waysWith_108_3, F_f_X12_waysWith, K91 hF, R91_1 hF, K92 hF, N92 hF, RR_Gr hR, R91_4 hF, K95 hF, N95 hF, RR_G hR, RR_G0 hR, hx, hn4, Int.add_zero, iv_add, iv_sub, iv_mul, iv_neg, iv_zero, iv_ltT, iv_ltF, iv_leT, iv_leF, iv_eqT, iv_eqF, iv_div, rm_iv, tn_iv, ib_iv, some_cb, some_cbv, ↓nm_eq, ↓reduceIte, true_and, and_true, Bool.true_eq_false, Bool.false_eq_true, not_false_eq_true, not_true_eq_false]
    rfl
  · have key := q_ww33 hS hl b00 tb hg hn n1 ha hb hp q0 (min (wG w (12 * m + b0) g - p) b + 1).toNat FU (FU_gt (by omega)) 0 0 (by omega) (by omega) (by omega)
    have e : Sr (fun q => cn (rwL w (12 * m + b0) (g + 1) n) (a - p) (b - q) (sumL (rwL w (12 * m + b0) (g + 1) n) - (a - p) - (b - q))) 0 (wG w (12 * m + b0) g - p) = Sr (fun q => cn (rwL w (12 * m + b0) (g + 1) n) (a - p) (b - q) (sumL (rwL w (12 * m + b0) (g + 1) n) - (a - p) - (b - q))) 0 (min (wG w (12 * m + b0) g - p) b) := Sr_wide (by omega) (by omega) (fun q _ _ => rfl) (fun q _ _ _ => cn_neg _ _ _ _ (by omega))
    rw [e]
    rw [Int.zero_add] at key
    rw [← key]
    simp -implicitDefEqProofs (disch := omega) only [k_X12_waysWith_33_1, k_X12_waysWith_108_1, k_X12_waysWith_108_2, k_X12_waysWith_108_3, F_b_X12_waysWith_108, f_X12_waysWith_108, F_b_X12_waysWith_96, f_X12_waysWith_96, F_f_X12_waysWith, K91 hF, R91_1 hF, K92 hF, N92 hF, RR_Gr hR, R91_4 hF, K95 hF, N95 hF, RR_G hR, hx, iv_add, iv_sub, iv_mul, iv_neg, iv_zero, iv_ltT, iv_ltF, iv_leT, iv_leF, iv_eqT, iv_eqF, iv_div, rm_iv, tn_iv, ib_iv, some_cb, some_cbv, ↓nm_eq, ↓reduceIte, true_and, and_true, Bool.true_eq_false, Bool.false_eq_true, not_false_eq_true, not_true_eq_false]
    rfl
end Q
