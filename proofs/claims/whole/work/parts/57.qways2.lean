section Q
variable {w : WD} {h : AH}
set_option maxRecDepth 100000 in
theorem q_ways217 (hS : QS w h) {x r s r2 r3 a b p c : Int} (k : Nat → Int32 → Int32 → Int32 → Int32 → Int64 → Int32 → Int32 → AH → Option (Int64 × AH)) (hx : 0 ≤ x ∧ x ≤ 47) (e2 : wG w x 2 = r2) (e3 : wG w x 3 = r3) (h0 : 0 ≤ r ∧ r ≤ 99) (h1 : 0 ≤ s ∧ s ≤ 99) (h2 : 0 ≤ r2 ∧ r2 ≤ 99) (h3 : 0 ≤ r3 ∧ r3 ≤ 99) (ha : -1000 ≤ a ∧ a ≤ 1000) (hb : -1000 ≤ b ∧ b ≤ 1000) (hc : c = r + s + r2 + r3 - a - b) (hp : 0 ≤ p ∧ p ≤ 1000) : ∀ (n N : Nat), n < N → ∀ (y j : Int), 0 ≤ j → j + n = max j (min (r + s - p) b + 1) → j ≤ 1000 → lp (b_X12_ways_217 k) (fun _ _ _ _ _ _ _ _ _ _ => none) N 91 (iv x) (iv a) (iv b) (iv r) (jv y) (iv s) (iv p) (iv j) h = k 91 (iv x) (iv a) (iv b) (iv r) (jv (y + Sr (fun q => on r p q (r + s - p - q) * cn [r2, r3] (a - p) (b - q) (c - (r + s - p - q))) j (min (r + s - p) b))) (iv s) (iv (p + 1)) h := by
  have hF := hS.F
  have hR := hS.R
  have G1 : gI h 95 (4 * x + 2).toNat = iv r2 := by rw [RR_G hR (x := x) (g := 2) (by omega), e2]
  have G2 : gI h 95 (4 * x + 3).toNat = iv r3 := by rw [RR_G hR (x := x) (g := 3) (by omega), e3]
  intro n
  induction n with
  | zero =>
    intro N hN; obtain ⟨N, rfl⟩ : ∃ N', N = N' + 1 := ⟨N - 1, (by omega)⟩
    intro y j j0 hj j1
    rw [Sr_none (by omega), Int.add_zero]
    by_cases z : b < j
    · simp -implicitDefEqProofs (disch := omega) only [lp_succ, F_b_X12_ways_217, iv_add, iv_sub, iv_mul, iv_neg, iv_zero, iv_ltT, iv_ltF, iv_leT, iv_leF, iv_eqT, iv_eqF, iv_div, rm_iv, tn_iv, ib_iv, some_cb, some_cbv, ↓nm_eq, ↓reduceIte, true_and, and_true, Bool.true_eq_false, Bool.false_eq_true, not_false_eq_true, not_true_eq_false]
    · simp -implicitDefEqProofs (disch := omega) only [lp_succ, F_b_X12_ways_217, iv_add, iv_sub, iv_mul, iv_neg, iv_zero, iv_ltT, iv_ltF, iv_leT, iv_leF, iv_eqT, iv_eqF, iv_div, rm_iv, tn_iv, ib_iv, some_cb, some_cbv, ↓nm_eq, ↓reduceIte, true_and, and_true, Bool.true_eq_false, Bool.false_eq_true, not_false_eq_true, not_true_eq_false]
  | succ n ih =>
    intro N hN; obtain ⟨N, rfl⟩ : ∃ N', N = N' + 1 := ⟨N - 1, (by omega)⟩
    intro y j j0 hj j1
    have hn := ih N (by omega) (y + on r p j (r + s - p - j) * cn [r2, r3] (a - p) (b - j) (c - (r + s - p - j))) (j + 1) (by omega) (by omega) (by omega)
    rw [Sr_first (by omega), ← Int.add_assoc, ← hn]
    have hq := q_pair (h := h) (r := r2) (s := r3) (by omega) (by omega) (a := a - p) (b := b - j) (by omega) (by omega)
    have hq2 := q_pair (h := h) (r := r) (s := s) (by omega) (by omega) (a := p) (b := j) (by omega) (by omega)
    rw [show r2 + r3 - (a - p) - (b - j) = c - (r + s - p - j) by omega] at hq
    rw [cn_two (show p + j + (r + s - p - j) = r + s by omega)] at hq2
    by_cases y1 : lg_cmp (jv (cn [r2, r3] (a - p) (b - j) (c - (r + s - p - j)))) (jv 0) = 0
    · have y0 : jv (cn [r2, r3] (a - p) (b - j) (c - (r + s - p - j))) = jv 0 := lg_cmp_zero y1
      have y' : lg_cmp (jv 0) (jv 0) = iv 0 := (by rw [y0] at y1; exact y1)
      have e2 : jv (y + on r p j (r + s - p - j) * cn [r2, r3] (a - p) (b - j) (c - (r + s - p - j))) = jv y + jv 0 := by
        rw [← jv_add, ← jv_mul, y0, jv_mul, Int.mul_zero]
      rw [e2]
      simp -implicitDefEqProofs (disch := omega) only [lp_succ, F_b_X12_ways_217, k_X12_ways_217_1, k_X12_ways_217_2, K91 hF, R91_4 hF, K95 hF, N95 hF, G1, G2, hq, y0, y', iv_add, iv_sub, iv_mul, iv_neg, iv_zero, iv_ltT, iv_ltF, iv_leT, iv_leF, iv_eqT, iv_eqF, iv_div, rm_iv, tn_iv, ib_iv, some_cb, some_cbv, ↓nm_eq, ↓reduceIte, true_and, and_true, Bool.true_eq_false, Bool.false_eq_true, not_false_eq_true, not_true_eq_false]
    · have y' : (lg_cmp (jv (cn [r2, r3] (a - p) (b - j) (c - (r + s - p - j)))) (jv 0) = iv 0) = False := eq_false y1
      have e2 : jv (y + on r p j (r + s - p - j) * cn [r2, r3] (a - p) (b - j) (c - (r + s - p - j))) = jv y + jv (cn [r2, r3] (a - p) (b - j) (c - (r + s - p - j))) * jv (on r p j (r + s - p - j)) := by
        rw [← jv_add, jv_mul, Int.mul_comm]
      rw [e2]
      simp -implicitDefEqProofs (disch := omega) only [lp_succ, F_b_X12_ways_217, k_X12_ways_217_1, k_X12_ways_217_2, K91 hF, R91_4 hF, K95 hF, N95 hF, G1, G2, hq, hq2, y', iv_add, iv_sub, iv_mul, iv_neg, iv_zero, iv_ltT, iv_ltF, iv_leT, iv_leF, iv_eqT, iv_eqF, iv_div, rm_iv, tn_iv, ib_iv, some_cb, some_cbv, ↓nm_eq, ↓reduceIte, true_and, and_true, Bool.true_eq_false, Bool.false_eq_true, not_false_eq_true, not_true_eq_false]
set_option maxRecDepth 100000 in
theorem q_ways198 (hS : QS w h) {x r s r2 r3 a b c : Int} (hx : 0 ≤ x ∧ x ≤ 47) (e2 : wG w x 2 = r2) (e3 : wG w x 3 = r3) (h0 : 0 ≤ r ∧ r ≤ 99) (h1 : 0 ≤ s ∧ s ≤ 99) (h2 : 0 ≤ r2 ∧ r2 ≤ 99) (h3 : 0 ≤ r3 ∧ r3 ≤ 99) (ha : -1000 ≤ a ∧ a ≤ 1000) (hb : -1000 ≤ b ∧ b ≤ 1000) (hc : c = r + s + r2 + r3 - a - b) : ∀ (n N : Nat), n < N → ∀ (y p : Int), 0 ≤ p → p + n = max p (min (r + s) a + 1) → p ≤ 1000 → lp b_X12_ways_198 (fun _ _ _ _ _ _ _ _ _ => none) N 91 (iv x) (iv a) (iv b) (iv r) (jv y) (iv s) (iv p) h = some (jv (y + Sr (fun p => Sr (fun q => on r p q (r + s - p - q) * cn [r2, r3] (a - p) (b - q) (c - (r + s - p - q))) 0 (min (r + s - p) b)) p (min (r + s) a)), h) := by
  intro n
  induction n with
  | zero =>
    intro N hN; obtain ⟨N, rfl⟩ : ∃ N', N = N' + 1 := ⟨N - 1, (by omega)⟩
    intro y p p0 hp p1
    rw [Sr_none (by omega), Int.add_zero]
    by_cases z : a < p
    · simp -implicitDefEqProofs (disch := omega) only [lp_succ, F_b_X12_ways_198, iv_add, iv_sub, iv_mul, iv_neg, iv_zero, iv_ltT, iv_ltF, iv_leT, iv_leF, iv_eqT, iv_eqF, iv_div, rm_iv, tn_iv, ib_iv, some_cb, some_cbv, ↓nm_eq, ↓reduceIte, true_and, and_true, Bool.true_eq_false, Bool.false_eq_true, not_false_eq_true, not_true_eq_false]
    · simp -implicitDefEqProofs (disch := omega) only [lp_succ, F_b_X12_ways_198, iv_add, iv_sub, iv_mul, iv_neg, iv_zero, iv_ltT, iv_ltF, iv_leT, iv_leF, iv_eqT, iv_eqF, iv_div, rm_iv, tn_iv, ib_iv, some_cb, some_cbv, ↓nm_eq, ↓reduceIte, true_and, and_true, Bool.true_eq_false, Bool.false_eq_true, not_false_eq_true, not_true_eq_false]
  | succ n ih =>
    intro N hN; obtain ⟨N, rfl⟩ : ∃ N', N = N' + 1 := ⟨N - 1, (by omega)⟩
    intro y p p0 hp p1
    have hj := q_ways217 hS (lp b_X12_ways_198 (fun _ _ _ _ _ _ _ _ _ => none) N) hx e2 e3 h0 h1 h2 h3 ha hb hc (p := p) (by omega) (min (r + s - p) b + 1).toNat FU (FU_gt (by omega)) y 0 (by omega) (by omega) (by omega)
    have hn := ih N (by omega) (y + Sr (fun q => on r p q (r + s - p - q) * cn [r2, r3] (a - p) (b - q) (c - (r + s - p - q))) 0 (min (r + s - p) b)) (p + 1) (by omega) (by omega) (by omega)
    rw [hn] at hj
    rw [Sr_first (by omega), ← Int.add_assoc, ← hj]
    simp -implicitDefEqProofs (disch := omega) only [lp_succ, F_b_X12_ways_198, f_X12_ways_217, iv_add, iv_sub, iv_mul, iv_neg, iv_zero, iv_ltT, iv_ltF, iv_leT, iv_leF, iv_eqT, iv_eqF, iv_div, rm_iv, tn_iv, ib_iv, some_cb, some_cbv, ↓nm_eq, ↓reduceIte, true_and, and_true, Bool.true_eq_false, Bool.false_eq_true, not_false_eq_true, not_true_eq_false]
theorem cn4_sum {r s r2 r3 a b c : Int} (h0 : 0 ≤ r) (h1 : 0 ≤ s) : Sr (fun p => Sr (fun q => on r p q (r + s - p - q) * cn [r2, r3] (a - p) (b - q) (c - (r + s - p - q))) 0 (min (r + s - p) b)) 0 (min (r + s) a) = cn [r, s, r2, r3] a b c := by
  rw [cn_merge [r2, r3] a b c h0 h1]
  refine (Sr_wide (by omega) (by omega) (fun p p0 p1 => ?_) (fun p p0 p1 p2 => ?_)).symm
  · exact Sr_wide (by omega) (by omega) (fun q q0 q1 => rfl) (fun q q0 q1 q2 => by rw [cn_neg _ _ _ _ (by omega), Int.mul_zero])
  · exact Sr_z (fun q q0 q1 => by rw [cn_neg _ _ _ _ (by omega), Int.mul_zero])
theorem sumL1 (r : Int) : sumL [r] = r := by show r + 0 = r; omega
theorem rw1 (w : WD) (x g : Int) : rwL w x g 1 = [wG w x g] := rfl
theorem rw2 (w : WD) (x g : Int) : rwL w x g 2 = [wG w x g, wG w x (g + 1)] := rfl
theorem rw3 (w : WD) (x g : Int) : rwL w x g 3 = [wG w x g, wG w x (g + 1), wG w x (g + 2)] := by
  show [wG w x g, wG w x (g + 1), wG w x (g + 1 + 1)] = _
  rw [show g + 1 + 1 = g + 2 by omega]
theorem rw4 (w : WD) (x : Int) : rwL w x 0 4 = [wG w x 0, wG w x 1, wG w x 2, wG w x 3] := rfl
set_option maxRecDepth 100000 in
theorem q_ways (hS : QS w h) {m b0 g a b : Int} {n : Nat} (hl : lvM w m) (b00 : 0 ≤ b0) (tb : b0 < wBx w m) (hg : 0 ≤ g) (hn : g + n = wGr w m) (n1 : 1 ≤ n) (ha : -1000 ≤ a ∧ a ≤ 1000) (hb : -1000 ≤ b ∧ b ≤ 1000) : f_X12_ways 91 (iv (12 * m + b0)) (iv g) (iv a) (iv b) h = some (jv (cn (rwL w (12 * m + b0) g n) a b (sumL (rwL w (12 * m + b0) g n) - a - b)), h) := by
  have hF := hS.F
  have hR := hS.R
  obtain ⟨⟨w1, w2⟩, -⟩ := hS.W; obtain ⟨⟨gg1, gg2⟩, ⟨gc1, gc2⟩, ⟨b2, b3⟩, ⟨hh1, hh2⟩, -⟩ := hS.W.mat hl; obtain ⟨l1, l2⟩ := id hl
  have hV := hS.W.box hl b00 tb
  obtain ⟨⟨x0, x1⟩, v0, v1⟩ := box_ran hS.W hl b00 tb
  have hx : iv (12 * m + b0) / iv 12 = iv m := (by rw [iv_div (by omega) (by omega) (by omega) (by omega)]; congr 1; omega)
  have hG := fun (i : Int) (i0 : 0 ≤ i) (i1 : i < wGr w m) => oB_g hV i0 i1 (by omega)
  clear hV b00 tb b2 b3 hh1 hh2 gc1 gc2 v0 v1
  generalize 12 * m + b0 = x at *
  have q0 := hG g hg (by omega)
  rcases (show n = 1 ∨ n = 2 ∨ n = 3 ∨ n = 4 by omega) with z | z | z | z
  · subst z
    rw [rw1, sumL1, cn_one]
    have hn : wGr w m = g + 1 := (by omega)
    by_cases z1 : a < 0
    · rw [if_neg (by omega)]
      simp -implicitDefEqProofs (disch := omega) only [k_X12_ways_110_1, F_b_X12_ways_110, f_X12_ways_110, F_b_X12_ways_94, f_X12_ways_94, k_X12_ways_217_1, k_X12_ways_217_2, F_b_X12_ways_217, f_X12_ways_217, F_b_X12_ways_198, f_X12_ways_198, k_X12_ways_1, F_f_X12_ways, K91 hF, R91_1 hF, K92 hF, N92 hF, RR_Gr hR, R91_4 hF, K95 hF, N95 hF, RR_G hR, hx, hn, iv_add, iv_sub, iv_mul, iv_neg, iv_zero, iv_ltT, iv_ltF, iv_leT, iv_leF, iv_eqT, iv_eqF, iv_div, rm_iv, tn_iv, ib_iv, some_cb, some_cbv, ↓nm_eq, ↓reduceIte, true_and, and_true, Bool.true_eq_false, Bool.false_eq_true, not_false_eq_true, not_true_eq_false]
    by_cases z2 : b < 0
    · rw [if_neg (by omega)]
      simp -implicitDefEqProofs (disch := omega) only [k_X12_ways_110_1, F_b_X12_ways_110, f_X12_ways_110, F_b_X12_ways_94, f_X12_ways_94, k_X12_ways_217_1, k_X12_ways_217_2, F_b_X12_ways_217, f_X12_ways_217, F_b_X12_ways_198, f_X12_ways_198, k_X12_ways_1, F_f_X12_ways, K91 hF, R91_1 hF, K92 hF, N92 hF, RR_Gr hR, R91_4 hF, K95 hF, N95 hF, RR_G hR, hx, hn, iv_add, iv_sub, iv_mul, iv_neg, iv_zero, iv_ltT, iv_ltF, iv_leT, iv_leF, iv_eqT, iv_eqF, iv_div, rm_iv, tn_iv, ib_iv, some_cb, some_cbv, ↓nm_eq, ↓reduceIte, true_and, and_true, Bool.true_eq_false, Bool.false_eq_true, not_false_eq_true, not_true_eq_false]
    by_cases z3 : wG w x g < a + b
    · rw [if_neg (by omega)]
      simp -implicitDefEqProofs (disch := omega) only [k_X12_ways_110_1, F_b_X12_ways_110, f_X12_ways_110, F_b_X12_ways_94, f_X12_ways_94, k_X12_ways_217_1, k_X12_ways_217_2, F_b_X12_ways_217, f_X12_ways_217, F_b_X12_ways_198, f_X12_ways_198, k_X12_ways_1, F_f_X12_ways, K91 hF, R91_1 hF, K92 hF, N92 hF, RR_Gr hR, R91_4 hF, K95 hF, N95 hF, RR_G hR, hx, hn, iv_add, iv_sub, iv_mul, iv_neg, iv_zero, iv_ltT, iv_ltF, iv_leT, iv_leF, iv_eqT, iv_eqF, iv_div, rm_iv, tn_iv, ib_iv, some_cb, some_cbv, ↓nm_eq, ↓reduceIte, true_and, and_true, Bool.true_eq_false, Bool.false_eq_true, not_false_eq_true, not_true_eq_false]
    · rw [if_pos (by omega)]
      simp -implicitDefEqProofs (disch := omega) only [k_X12_ways_110_1, F_b_X12_ways_110, f_X12_ways_110, F_b_X12_ways_94, f_X12_ways_94, k_X12_ways_217_1, k_X12_ways_217_2, F_b_X12_ways_217, f_X12_ways_217, F_b_X12_ways_198, f_X12_ways_198, k_X12_ways_1, F_f_X12_ways, K91 hF, R91_1 hF, K92 hF, N92 hF, RR_Gr hR, R91_4 hF, K95 hF, N95 hF, RR_G hR, hx, hn, iv_add, iv_sub, iv_mul, iv_neg, iv_zero, iv_ltT, iv_ltF, iv_leT, iv_leF, iv_eqT, iv_eqF, iv_div, rm_iv, tn_iv, ib_iv, some_cb, some_cbv, ↓nm_eq, ↓reduceIte, true_and, and_true, Bool.true_eq_false, Bool.false_eq_true, not_false_eq_true, not_true_eq_false]
  · subst z
    have hn : wGr w m = g + 2 := (by omega)
    have q1 := hG (g + 1) (by omega) (by omega)
    have G1 : gI h 95 (4 * x + g + 1).toNat = iv (wG w x (g + 1)) := by
      have := RR_G hR (x := x) (g := g + 1) (by omega)
      rwa [← Int.add_assoc] at this
    rw [rw2]
    show _ = some (jv (cn _ a b (wG w x g + (wG w x (g + 1) + 0) - a - b)), h)
    rw [Int.add_zero]
    simp -implicitDefEqProofs (disch := omega) only [k_X12_ways_110_1, F_b_X12_ways_110, f_X12_ways_110, F_b_X12_ways_94, f_X12_ways_94, k_X12_ways_217_1, k_X12_ways_217_2, F_b_X12_ways_217, f_X12_ways_217, F_b_X12_ways_198, f_X12_ways_198, k_X12_ways_1, F_f_X12_ways, K91 hF, R91_1 hF, K92 hF, N92 hF, RR_Gr hR, R91_4 hF, K95 hF, N95 hF, RR_G hR, G1, hx, hn, q_pair, iv_add, iv_sub, iv_mul, iv_neg, iv_zero, iv_ltT, iv_ltF, iv_leT, iv_leF, iv_eqT, iv_eqF, iv_div, rm_iv, tn_iv, ib_iv, some_cb, some_cbv, ↓nm_eq, ↓reduceIte, true_and, and_true, Bool.true_eq_false, Bool.false_eq_true, not_false_eq_true, not_true_eq_false]
  · subst z
    have hn : wGr w m = g + 3 := (by omega)
    have q1 := hG (g + 1) (by omega) (by omega)
    have q2 := hG (g + 2) (by omega) (by omega)
    have key := q_ways94 hS (x := x) (g := g) (r := wG w x g) (by omega) (by omega) rfl rfl q0 q1 q2 ha hb rfl (min (wG w x g) a + 1).toNat FU (FU_gt (by omega)) 0 0 (by omega) (by omega) (by omega)
    rw [cn3_sum, Int.zero_add] at key
    rw [rw3]
    show _ = some (jv (cn _ a b (wG w x g + (wG w x (g + 1) + (wG w x (g + 2) + 0)) - a - b)), h)
    rw [Int.add_zero, ← Int.add_assoc, ← key]
    simp -implicitDefEqProofs (disch := omega) only [k_X12_ways_110_1, k_X12_ways_217_1, k_X12_ways_217_2, F_b_X12_ways_217, f_X12_ways_217, F_b_X12_ways_198, f_X12_ways_198, k_X12_ways_1, F_f_X12_ways, K91 hF, R91_1 hF, K92 hF, N92 hF, RR_Gr hR, R91_4 hF, K95 hF, N95 hF, RR_G hR, hx, hn, iv_add, iv_sub, iv_mul, iv_neg, iv_zero, iv_ltT, iv_ltF, iv_leT, iv_leF, iv_eqT, iv_eqF, iv_div, rm_iv, tn_iv, ib_iv, some_cb, some_cbv, ↓nm_eq, ↓reduceIte, true_and, and_true, Bool.true_eq_false, Bool.false_eq_true, not_false_eq_true, not_true_eq_false]
    rfl
  · subst z
    have hg0 : g = 0 := (by omega)
    subst hg0
    have hn : wGr w m = 4 := (by omega)
    have q1 := hG 1 (by omega) (by omega)
    have q2 := hG 2 (by omega) (by omega)
    have q3 := hG 3 (by omega) (by omega)
    have key := q_ways198 hS (x := x) (r := wG w x 0) (s := wG w x 1) (by omega) rfl rfl q0 q1 q2 q3 ha hb rfl (min (wG w x 0 + wG w x 1) a + 1).toNat FU (FU_gt (by omega)) 0 0 (by omega) (by omega) (by omega)
    rw [cn4_sum q0.1 q1.1, Int.zero_add] at key
    rw [rw4]
    show _ = some (jv (cn _ a b (wG w x 0 + (wG w x 1 + (wG w x 2 + (wG w x 3 + 0))) - a - b)), h)
    rw [Int.add_zero, ← Int.add_assoc, ← Int.add_assoc, ← key]
    simp -implicitDefEqProofs (disch := omega) only [k_X12_ways_110_1, F_b_X12_ways_110, f_X12_ways_110, F_b_X12_ways_94, f_X12_ways_94, k_X12_ways_217_1, k_X12_ways_217_2, k_X12_ways_1, F_f_X12_ways, K91 hF, R91_1 hF, K92 hF, N92 hF, RR_Gr hR, R91_4 hF, K95 hF, N95 hF, RR_G hR, RR_G0 hR, hx, hn, iv_add, iv_sub, iv_mul, iv_neg, iv_zero, iv_ltT, iv_ltF, iv_leT, iv_leF, iv_eqT, iv_eqF, iv_div, rm_iv, tn_iv, ib_iv, some_cb, some_cbv, ↓nm_eq, ↓reduceIte, true_and, and_true, Bool.true_eq_false, Bool.false_eq_true, not_false_eq_true, not_true_eq_false, Int.add_zero]
    rfl
end Q
