/-! the reference counts the tables -/
def un (p q t : Int) : Int := Sr (fun x => Sr (fun y => if x + y ≤ t then 1 else 0) 0 q) 0 p
theorem un_neg {p q t : Int} (h : t < 0) : un p q t = 0 := Sr_z (fun x _ _ => Sr_z (fun y _ _ => if_neg (by omega)))
theorem un_cap {p q t : Int} : un p q (min t (p + q)) = un p q t := Sr_congr (fun x _ _ => Sr_congr (fun y _ _ => by
  by_cases e : x + y ≤ t
  · rw [if_pos e, if_pos (by omega)]
  · rw [if_neg e, if_neg (by omega)]))
theorem jth {z : Int} (h : 0 ≤ z ∧ z ≤ 1000000) : jv ((z + 1) * (z + 2)) / jv 2 = jv (th z) := by
  have b1 : 0 ≤ (z + 1) * (z + 2) := Int.mul_nonneg (by omega) (by omega)
  have b2 : (z + 1) * (z + 2) ≤ 1000001 * 1000002 := Int.mul_le_mul (by omega) (by omega) (by omega) (by omega)
  rw [jv_div b1 (by omega) (by omega) (by omega), th_nn h.1]
section Q
variable {w : WD} {h : AH}
set_option maxRecDepth 100000 in
theorem q_under113 {p q t s0 s1 : Int} (hp : 0 ≤ p ∧ p ≤ 10000) (hq : 0 ≤ q ∧ q ≤ 10000) (ht : 0 ≤ t ∧ t ≤ 10000) : f_X12_under_113 (jv p) (jv q) (jv t) (jv s0) (jv s1) h = some (jv (s0 - s1 + th (t - p - q - 2)), h) := by
  by_cases z : t - p - q - 2 < 0
  · rw [th_neg z]; simp -implicitDefEqProofs (disch := omega) only [F_f_X12_under_113, iv_add, iv_sub, iv_mul, iv_neg, iv_zero, iv_ltT, iv_ltF, iv_leT, iv_leF, iv_eqT, iv_eqF, iv_div, rm_iv, tn_iv, ib_iv, lc_lt, lc_le, lc_gt, lc_ge, lc_eq, iv_l, jv_add, jv_sub, jv_mul, jv_zero, if_pos, if_neg, some_cb, some_cbv, ↓nm_eq, ↓reduceIte, true_and, and_true, Bool.true_eq_false, Bool.false_eq_true, not_false_eq_true, not_true_eq_false]
  · simp -implicitDefEqProofs (disch := omega) only [F_f_X12_under_113, jth, jv_eq, iv_add, iv_sub, iv_mul, iv_neg, iv_zero, iv_ltT, iv_ltF, iv_leT, iv_leF, iv_eqT, iv_eqF, iv_div, rm_iv, tn_iv, ib_iv, lc_lt, lc_le, lc_gt, lc_ge, lc_eq, iv_l, jv_add, jv_sub, jv_mul, jv_zero, if_pos, if_neg, some_cb, some_cbv, ↓nm_eq, ↓reduceIte, true_and, and_true, Bool.true_eq_false, Bool.false_eq_true, not_false_eq_true, not_true_eq_false]
set_option maxRecDepth 100000 in
theorem q_under74 {p q t s0 s1 : Int} (hp : 0 ≤ p ∧ p ≤ 10000) (hq : 0 ≤ q ∧ q ≤ 10000) (ht : 0 ≤ t ∧ t ≤ 10000) : f_X12_under_74 (jv p) (jv q) (jv t) (jv s0) (jv s1) h = some (jv (s0 - s1 - th (t - q - 1) + th (t - p - q - 2)), h) := by
  by_cases z : t - q - 1 < 0
  · rw [th_neg z]; simp -implicitDefEqProofs (disch := omega) only [F_f_X12_under_74, q_under113, Int.sub_zero, iv_add, iv_sub, iv_mul, iv_neg, iv_zero, iv_ltT, iv_ltF, iv_leT, iv_leF, iv_eqT, iv_eqF, iv_div, rm_iv, tn_iv, ib_iv, lc_lt, lc_le, lc_gt, lc_ge, lc_eq, iv_l, jv_add, jv_sub, jv_mul, jv_zero, if_pos, if_neg, some_cb, some_cbv, ↓nm_eq, ↓reduceIte, true_and, and_true, Bool.true_eq_false, Bool.false_eq_true, not_false_eq_true, not_true_eq_false]
  · simp -implicitDefEqProofs (disch := omega) only [F_f_X12_under_74, q_under113, jth, jv_eq, iv_add, iv_sub, iv_mul, iv_neg, iv_zero, iv_ltT, iv_ltF, iv_leT, iv_leF, iv_eqT, iv_eqF, iv_div, rm_iv, tn_iv, ib_iv, lc_lt, lc_le, lc_gt, lc_ge, lc_eq, iv_l, jv_add, jv_sub, jv_mul, jv_zero, if_pos, if_neg, some_cb, some_cbv, ↓nm_eq, ↓reduceIte, true_and, and_true, Bool.true_eq_false, Bool.false_eq_true, not_false_eq_true, not_true_eq_false]
set_option maxRecDepth 100000 in
theorem q_under {p q t : Int} (hp : 0 ≤ p ∧ p ≤ 10000) (hq : 0 ≤ q ∧ q ≤ 10000) (ht : -10000 ≤ t ∧ t ≤ 10000) : f_X12_under (jv p) (jv q) (jv t) h = some (jv (un p q t), h) := by
  by_cases z : t < 0
  · rw [un_neg z]; simp -implicitDefEqProofs (disch := omega) only [F_f_X12_under, iv_add, iv_sub, iv_mul, iv_neg, iv_zero, iv_ltT, iv_ltF, iv_leT, iv_leF, iv_eqT, iv_eqF, iv_div, rm_iv, tn_iv, ib_iv, lc_lt, lc_le, lc_gt, lc_ge, lc_eq, iv_l, jv_add, jv_sub, jv_mul, jv_zero, if_pos, if_neg, some_cb, some_cbv, ↓nm_eq, ↓reduceIte, true_and, and_true, Bool.true_eq_false, Bool.false_eq_true, not_false_eq_true, not_true_eq_false]
  · have e : un p q t = th t - th (t - p - 1) - th (t - q - 1) + th (t - p - q - 2) := under_eq t (by omega) (by omega)
    rw [e]
    by_cases z : t - p - 1 < 0
    · rw [th_neg z]; simp -implicitDefEqProofs (disch := omega) only [F_f_X12_under, q_under74, jth, jv_eq, Int.sub_zero, iv_add, iv_sub, iv_mul, iv_neg, iv_zero, iv_ltT, iv_ltF, iv_leT, iv_leF, iv_eqT, iv_eqF, iv_div, rm_iv, tn_iv, ib_iv, lc_lt, lc_le, lc_gt, lc_ge, lc_eq, iv_l, jv_add, jv_sub, jv_mul, jv_zero, if_pos, if_neg, some_cb, some_cbv, ↓nm_eq, ↓reduceIte, true_and, and_true, Bool.true_eq_false, Bool.false_eq_true, not_false_eq_true, not_true_eq_false]
    · simp -implicitDefEqProofs (disch := omega) only [F_f_X12_under, q_under74, jth, jv_eq, iv_add, iv_sub, iv_mul, iv_neg, iv_zero, iv_ltT, iv_ltF, iv_leT, iv_leF, iv_eqT, iv_eqF, iv_div, rm_iv, tn_iv, ib_iv, lc_lt, lc_le, lc_gt, lc_ge, lc_eq, iv_l, jv_add, jv_sub, jv_mul, jv_zero, if_pos, if_neg, some_cb, some_cbv, ↓nm_eq, ↓reduceIte, true_and, and_true, Bool.true_eq_false, Bool.false_eq_true, not_false_eq_true, not_true_eq_false]
set_option maxRecDepth 100000 in
theorem q_pair {r s a b : Int} (hr : 0 ≤ r ∧ r ≤ 1000) (hs : 0 ≤ s ∧ s ≤ 1000) (ha : -3000 ≤ a ∧ a ≤ 3000) (hb : -3000 ≤ b ∧ b ≤ 3000) : f_X12_pair (iv r) (iv s) (iv a) (iv b) h = some (jv (cn [r, s] a b (r + s - a - b)), h) := by
  by_cases z1 : a < 0
  · rw [cn_neg _ _ _ _ (by omega)]; simp -implicitDefEqProofs (disch := omega) only [k_X12_pair_1, k_X12_pair_2, k_X12_pair_3, F_f_X12_pair, iv_add, iv_sub, iv_mul, iv_neg, iv_zero, iv_ltT, iv_ltF, iv_leT, iv_leF, iv_eqT, iv_eqF, iv_div, rm_iv, tn_iv, ib_iv, lc_lt, lc_le, lc_gt, lc_ge, lc_eq, iv_l, jv_add, jv_sub, jv_mul, jv_zero, if_pos, if_neg, some_cb, some_cbv, ↓nm_eq, ↓reduceIte, true_and, and_true, Bool.true_eq_false, Bool.false_eq_true, not_false_eq_true, not_true_eq_false]
  by_cases z2 : b < 0
  · rw [cn_neg _ _ _ _ (by omega)]; simp -implicitDefEqProofs (disch := omega) only [k_X12_pair_1, k_X12_pair_2, k_X12_pair_3, F_f_X12_pair, iv_add, iv_sub, iv_mul, iv_neg, iv_zero, iv_ltT, iv_ltF, iv_leT, iv_leF, iv_eqT, iv_eqF, iv_div, rm_iv, tn_iv, ib_iv, lc_lt, lc_le, lc_gt, lc_ge, lc_eq, iv_l, jv_add, jv_sub, jv_mul, jv_zero, if_pos, if_neg, some_cb, some_cbv, ↓nm_eq, ↓reduceIte, true_and, and_true, Bool.true_eq_false, Bool.false_eq_true, not_false_eq_true, not_true_eq_false]
  by_cases z3 : r + s < a + b
  · rw [cn_neg _ _ _ _ (by omega)]; simp -implicitDefEqProofs (disch := omega) only [k_X12_pair_1, k_X12_pair_2, k_X12_pair_3, F_f_X12_pair, iv_add, iv_sub, iv_mul, iv_neg, iv_zero, iv_ltT, iv_ltF, iv_leT, iv_leF, iv_eqT, iv_eqF, iv_div, rm_iv, tn_iv, ib_iv, lc_lt, lc_le, lc_gt, lc_ge, lc_eq, iv_l, jv_add, jv_sub, jv_mul, jv_zero, if_pos, if_neg, some_cb, some_cbv, ↓nm_eq, ↓reduceIte, true_and, and_true, Bool.true_eq_false, Bool.false_eq_true, not_false_eq_true, not_true_eq_false]
  have e : cn [r, s] a b (r + s - a - b) = un a b (min r (a + b)) - un a b (a + b - s - 1) := by
    rw [cn_two (by omega), on_under (by omega), un_cap, show r - (r + s - a - b) - 1 = a + b - s - 1 by omega]
    rfl
  rw [e]
  by_cases z4 : a + b - s ≤ 0
  · rw [un_neg (show a + b - s - 1 < 0 by omega)]
    simp -implicitDefEqProofs (disch := omega) only [k_X12_pair_1, k_X12_pair_2, k_X12_pair_3, F_f_X12_pair, q_lesser, q_under, iv_add, iv_sub, iv_mul, iv_neg, iv_zero, iv_ltT, iv_ltF, iv_leT, iv_leF, iv_eqT, iv_eqF, iv_div, rm_iv, tn_iv, ib_iv, lc_lt, lc_le, lc_gt, lc_ge, lc_eq, iv_l, jv_add, jv_sub, jv_mul, jv_zero, if_pos, if_neg, some_cb, some_cbv, ↓nm_eq, ↓reduceIte, true_and, and_true, Bool.true_eq_false, Bool.false_eq_true, not_false_eq_true, not_true_eq_false]
  · simp -implicitDefEqProofs (disch := omega) only [k_X12_pair_1, k_X12_pair_2, k_X12_pair_3, F_f_X12_pair, q_lesser, q_under, iv_add, iv_sub, iv_mul, iv_neg, iv_zero, iv_ltT, iv_ltF, iv_leT, iv_leF, iv_eqT, iv_eqF, iv_div, rm_iv, tn_iv, ib_iv, lc_lt, lc_le, lc_gt, lc_ge, lc_eq, iv_l, jv_add, jv_sub, jv_mul, jv_zero, if_pos, if_neg, some_cb, some_cbv, ↓nm_eq, ↓reduceIte, true_and, and_true, Bool.true_eq_false, Bool.false_eq_true, not_false_eq_true, not_true_eq_false]
/-- rows of groups from one on -/
def rwL (w : WD) (x : Int) : Int → Nat → List Int
  | _, 0 => []
  | g, n + 1 => wG w x g :: rwL w x (g + 1) n
set_option maxRecDepth 100000 in
theorem q_ways110 (hS : QS w h) {x g r r1 r2 a b p c : Int} (k : Nat → Int32 → Int32 → Int32 → Int32 → Int32 → Int64 → Int32 → AH → Option (Int64 × AH)) (hx : 0 ≤ x ∧ x ≤ 47) (hg : 0 ≤ g ∧ g ≤ 1) (e1 : wG w x (g + 1) = r1) (e2 : wG w x (g + 2) = r2) (h0 : 0 ≤ r ∧ r ≤ 99) (h1 : 0 ≤ r1 ∧ r1 ≤ 99) (h2 : 0 ≤ r2 ∧ r2 ≤ 99) (ha : -1000 ≤ a ∧ a ≤ 1000) (hb : -1000 ≤ b ∧ b ≤ 1000) (hc : c = r + r1 + r2 - a - b) (hp : 0 ≤ p ∧ p ≤ 1000) : ∀ (n N : Nat), n < N → ∀ (s j : Int), 0 ≤ j → j + n = max j (min (r - p) b + 1) → j ≤ 1000 → lp (b_X12_ways_110 k) (fun _ _ _ _ _ _ _ _ _ _ => none) N 91 (iv x) (iv g) (iv a) (iv b) (iv r) (jv s) (iv p) (iv j) h = k 91 (iv x) (iv g) (iv a) (iv b) (iv r) (jv (s + Sr (fun q => cn [r1, r2] (a - p) (b - q) (c - (r - p - q))) j (min (r - p) b))) (iv (p + 1)) h := by
  have hF := hS.F
  have hR := hS.R
  have G1 : gI h 95 (4 * x + g + 1).toNat = iv r1 := by
    have := RR_G hR (x := x) (g := g + 1) (by omega)
    rw [e1] at this
    rwa [← Int.add_assoc] at this
  have G2 : gI h 95 (4 * x + g + 2).toNat = iv r2 := by
    have := RR_G hR (x := x) (g := g + 2) (by omega)
    rw [e2] at this
    rwa [← Int.add_assoc] at this
  intro n
  induction n with
  | zero =>
    intro N hN; obtain ⟨N, rfl⟩ : ∃ N', N = N' + 1 := ⟨N - 1, (by omega)⟩
    intro s j j0 hj j1
    rw [Sr_none (by omega), Int.add_zero]
    by_cases z : r - p < j
    · simp -implicitDefEqProofs (disch := omega) only [lp_succ, F_b_X12_ways_110, iv_add, iv_sub, iv_mul, iv_neg, iv_zero, iv_ltT, iv_ltF, iv_leT, iv_leF, iv_eqT, iv_eqF, iv_div, rm_iv, tn_iv, ib_iv, some_cb, some_cbv, ↓nm_eq, ↓reduceIte, true_and, and_true, Bool.true_eq_false, Bool.false_eq_true, not_false_eq_true, not_true_eq_false]
    · simp -implicitDefEqProofs (disch := omega) only [lp_succ, F_b_X12_ways_110, iv_add, iv_sub, iv_mul, iv_neg, iv_zero, iv_ltT, iv_ltF, iv_leT, iv_leF, iv_eqT, iv_eqF, iv_div, rm_iv, tn_iv, ib_iv, some_cb, some_cbv, ↓nm_eq, ↓reduceIte, true_and, and_true, Bool.true_eq_false, Bool.false_eq_true, not_false_eq_true, not_true_eq_false]
  | succ n ih =>
    intro N hN; obtain ⟨N, rfl⟩ : ∃ N', N = N' + 1 := ⟨N - 1, (by omega)⟩
    intro s j j0 hj j1
    have hn := ih N (by omega) (s + cn [r1, r2] (a - p) (b - j) (c - (r - p - j))) (j + 1) (by omega) (by omega) (by omega)
    rw [Sr_first (by omega), ← Int.add_assoc, ← hn]
    have hq := q_pair (h := h) (r := r1) (s := r2) (by omega) (by omega) (a := a - p) (b := b - j) (by omega) (by omega)
    rw [show r1 + r2 - (a - p) - (b - j) = c - (r - p - j) by omega] at hq
    simp -implicitDefEqProofs (disch := omega) only [lp_succ, F_b_X12_ways_110, k_X12_ways_110_1, K91 hF, R91_4 hF, K95 hF, N95 hF, G1, G2, hq, iv_add, iv_sub, iv_mul, iv_neg, iv_zero, iv_ltT, iv_ltF, iv_leT, iv_leF, iv_eqT, iv_eqF, iv_div, rm_iv, tn_iv, ib_iv, lc_lt, lc_le, lc_gt, lc_ge, lc_eq, iv_l, jv_add, jv_sub, jv_mul, jv_zero, if_pos, if_neg, some_cb, some_cbv, ↓nm_eq, ↓reduceIte, true_and, and_true, Bool.true_eq_false, Bool.false_eq_true, not_false_eq_true, not_true_eq_false]
set_option maxRecDepth 100000 in
theorem q_ways94 (hS : QS w h) {x g r r1 r2 a b c : Int} (hx : 0 ≤ x ∧ x ≤ 47) (hg : 0 ≤ g ∧ g ≤ 1) (e1 : wG w x (g + 1) = r1) (e2 : wG w x (g + 2) = r2) (h0 : 0 ≤ r ∧ r ≤ 99) (h1 : 0 ≤ r1 ∧ r1 ≤ 99) (h2 : 0 ≤ r2 ∧ r2 ≤ 99) (ha : -1000 ≤ a ∧ a ≤ 1000) (hb : -1000 ≤ b ∧ b ≤ 1000) (hc : c = r + r1 + r2 - a - b) : ∀ (n N : Nat), n < N → ∀ (s p : Int), 0 ≤ p → p + n = max p (min r a + 1) → p ≤ 1000 → lp b_X12_ways_94 (fun _ _ _ _ _ _ _ _ _ => none) N 91 (iv x) (iv g) (iv a) (iv b) (iv r) (jv s) (iv p) h = some (jv (s + Sr (fun p => Sr (fun q => cn [r1, r2] (a - p) (b - q) (c - (r - p - q))) 0 (min (r - p) b)) p (min r a)), h) := by
  intro n
  induction n with
  | zero =>
    intro N hN; obtain ⟨N, rfl⟩ : ∃ N', N = N' + 1 := ⟨N - 1, (by omega)⟩
    intro s p p0 hp p1
    rw [Sr_none (by omega), Int.add_zero]
    by_cases z : r < p
    · simp -implicitDefEqProofs (disch := omega) only [lp_succ, F_b_X12_ways_94, iv_add, iv_sub, iv_mul, iv_neg, iv_zero, iv_ltT, iv_ltF, iv_leT, iv_leF, iv_eqT, iv_eqF, iv_div, rm_iv, tn_iv, ib_iv, some_cb, some_cbv, ↓nm_eq, ↓reduceIte, true_and, and_true, Bool.true_eq_false, Bool.false_eq_true, not_false_eq_true, not_true_eq_false]
    · simp -implicitDefEqProofs (disch := omega) only [lp_succ, F_b_X12_ways_94, iv_add, iv_sub, iv_mul, iv_neg, iv_zero, iv_ltT, iv_ltF, iv_leT, iv_leF, iv_eqT, iv_eqF, iv_div, rm_iv, tn_iv, ib_iv, some_cb, some_cbv, ↓nm_eq, ↓reduceIte, true_and, and_true, Bool.true_eq_false, Bool.false_eq_true, not_false_eq_true, not_true_eq_false]
  | succ n ih =>
    intro N hN; obtain ⟨N, rfl⟩ : ∃ N', N = N' + 1 := ⟨N - 1, (by omega)⟩
    intro s p p0 hp p1
    have hj := q_ways110 hS (lp b_X12_ways_94 (fun _ _ _ _ _ _ _ _ _ => none) N) hx hg e1 e2 h0 h1 h2 ha hb hc (p := p) (by omega) (min (r - p) b + 1).toNat FU (FU_gt (by omega)) s 0 (by omega) (by omega) (by omega)
    have hn := ih N (by omega) (s + Sr (fun q => cn [r1, r2] (a - p) (b - q) (c - (r - p - q))) 0 (min (r - p) b)) (p + 1) (by omega) (by omega) (by omega)
    rw [hn] at hj
    rw [Sr_first (by omega), ← Int.add_assoc, ← hj]
    simp -implicitDefEqProofs (disch := omega) only [lp_succ, F_b_X12_ways_94, f_X12_ways_110, iv_add, iv_sub, iv_mul, iv_neg, iv_zero, iv_ltT, iv_ltF, iv_leT, iv_leF, iv_eqT, iv_eqF, iv_div, rm_iv, tn_iv, ib_iv, some_cb, some_cbv, ↓nm_eq, ↓reduceIte, true_and, and_true, Bool.true_eq_false, Bool.false_eq_true, not_false_eq_true, not_true_eq_false]
/-- sums over what is not 0 -/
theorem cn3_sum {r r1 r2 a b c : Int} : Sr (fun p => Sr (fun q => cn [r1, r2] (a - p) (b - q) (c - (r - p - q))) 0 (min (r - p) b)) 0 (min r a) = cn [r, r1, r2] a b c := by
  rw [cn_cons]
  refine (Sr_wide (by omega) (by omega) (fun p p0 p1 => ?_) (fun p p0 p1 p2 => ?_)).symm
  · exact Sr_wide (by omega) (by omega) (fun q q0 q1 => rfl) (fun q q0 q1 q2 => cn_neg _ _ _ _ (by omega))
  · exact Sr_z (fun q q0 q1 => cn_neg _ _ _ _ (by omega))
end Q
