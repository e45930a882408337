/-! the class counts the tables -/
theorem lg_cmp_zero {x y : Int64} (h : lg_cmp x y = 0) : x = y := by
  unfold lg_cmp at h
  split at h
  · exact absurd h (by decide)
  · split at h
    · assumption
    · exact absurd h (by decide)
theorem cn_rneg : ∀ (rs : List Int) (a b c : Int), (∃ r, r ∈ rs ∧ r < 0) → cn rs a b c = 0 := by
  intro rs
  induction rs with
  | nil => intro a b c h; obtain ⟨r, h1, _⟩ := h; cases h1
  | cons r rs ih =>
    intro a b c h
    obtain ⟨x, h1, h2⟩ := h
    rw [cn_cons]
    rcases List.mem_cons.mp h1 with e | e
    · exact Sr_none (by omega)
    · exact Sr_z (fun p _ _ => Sr_z (fun q _ _ => ih _ _ _ ⟨x, e, h2⟩))
theorem lpFU5 {β : Type} (b : β → β) (bot : β) : lp b bot FU = b (b (b (b (b (lp b bot 4294967291))))) := rfl
section Q
variable {h : AH}
set_option maxRecDepth 100000 in
theorem c_threes {z : Int} (h1 : -1000000 ≤ z) (h2 : z ≤ 1000000) : f_X8_threes (jv z) h = some (jv (th z), h) := by
  by_cases e : 0 ≤ z
  · have b1 : 0 ≤ (z + 1) * (z + 2) := Int.mul_nonneg (by omega) (by omega)
    have b2 : (z + 1) * (z + 2) ≤ 1000001 * 1000002 := Int.mul_le_mul (by omega) (by omega) (by omega) (by omega)
    rw [th_nn e]
    simp -implicitDefEqProofs (disch := omega) only [F_f_X8_threes, iv_add, iv_sub, iv_mul, iv_neg, iv_zero, iv_ltT, iv_ltF, iv_leT, iv_leF, iv_eqT, iv_eqF, iv_div, rm_iv, tn_iv, ib_iv, lc_lt, lc_le, lc_gt, lc_ge, lc_eq, iv_l, jv_add, jv_sub, jv_mul, jv_zero, if_pos, if_neg, jv_eq, jv_div, some_cb, some_cbv, ↓nm_eq, ↓reduceIte, true_and, and_true, Bool.true_eq_false, Bool.false_eq_true, not_false_eq_true, not_true_eq_false]
  · rw [th_neg (by omega)]
    simp -implicitDefEqProofs (disch := omega) only [F_f_X8_threes, iv_add, iv_sub, iv_mul, iv_neg, iv_zero, iv_ltT, iv_ltF, iv_leT, iv_leF, iv_eqT, iv_eqF, iv_div, rm_iv, tn_iv, ib_iv, lc_lt, lc_le, lc_gt, lc_ge, lc_eq, iv_l, jv_add, jv_sub, jv_mul, jv_zero, if_pos, if_neg, some_cb, some_cbv, ↓nm_eq, ↓reduceIte, true_and, and_true, Bool.true_eq_false, Bool.false_eq_true, not_false_eq_true, not_true_eq_false]
set_option maxRecDepth 100000 in
theorem c_oneOfTwo {r a b c : Int} (h1 : 0 ≤ r) (h2 : r ≤ 2000) (a0 : -1 ≤ a) (a1 : a ≤ 2000) (b0 : -1 ≤ b) (b1 : b ≤ 2000) (c0 : -1 ≤ c) (c1 : c ≤ 2000) (hs : r ≤ a + b + c + 2) : f_X8_oneOfTwo (iv r) (iv a) (iv b) (iv c) h = some (jv (on r a b c), h) := by
  rw [on_closed a0 b0 c0 hs]
  simp -implicitDefEqProofs (disch := omega) only [k_X8_oneOfTwo_1, k_X8_oneOfTwo_2, k_X8_oneOfTwo_3, k_X8_oneOfTwo_4, k_X8_oneOfTwo_5, k_X8_oneOfTwo_6, k_X8_oneOfTwo_7, F_f_X8_oneOfTwo, c_threes, iv_add, iv_sub, iv_mul, iv_neg, iv_zero, iv_ltT, iv_ltF, iv_leT, iv_leF, iv_eqT, iv_eqF, iv_div, rm_iv, tn_iv, ib_iv, lc_lt, lc_le, lc_gt, lc_ge, lc_eq, iv_l, jv_add, jv_sub, jv_mul, jv_zero, if_pos, if_neg, some_cb, some_cbv, ↓nm_eq, ↓reduceIte, true_and, and_true, Bool.true_eq_false, Bool.false_eq_true, not_false_eq_true, not_true_eq_false]
/-- a row of groups and a row of choices -/
def GrC (h : AH) (x0 x1 : Nat) (r0 r1 r2 r3 a b c : Int) : Prop := gK h x0 = 1 ∧ gN h x0 = 4 ∧ gK h x1 = 1 ∧ gN h x1 = 3 ∧ gI h x0 0 = iv r0 ∧ gI h x0 1 = iv r1 ∧ gI h x0 2 = iv r2 ∧ gI h x0 3 = iv r3 ∧ gI h x1 0 = iv a ∧ gI h x1 1 = iv b ∧ gI h x1 2 = iv c
theorem tn0 : (0 : Int).toNat = 0 := rfl
theorem tn1 : (1 : Int).toNat = 1 := rfl
theorem tn2 : (2 : Int).toNat = 2 := rfl
theorem tn3 : (3 : Int).toNat = 3 := rfl
/-- one term of the class's sum -/
def wyT (r0 r1 r2 a b c i j : Int) : Int := if r0 + r1 - i - j ≤ c then on r2 (a - i) (b - j) (c - (r0 + r1 - i - j)) * on r0 i j (r0 + r1 - i - j) else 0
set_option maxRecDepth 100000 in
theorem c_ways78 {x0 x1 : Nat} {r0 r1 r2 r3 a b c : Int} (H : GrC h x0 x1 r0 r1 r2 r3 a b c) (p0 : 0 ≤ r0 ∧ r0 ≤ 1000) (p1 : 0 ≤ r1 ∧ r1 ≤ 1000) (p2 : 0 ≤ r2 ∧ r2 ≤ 1000) (p3 : 0 ≤ r3 ∧ r3 ≤ 1000) (ha : 0 ≤ a ∧ a ≤ 1000) (hb : 0 ≤ b ∧ b ≤ 1000) (hc : 0 ≤ c ∧ c ≤ 1000) (hs : r0 + r1 + r2 + r3 = a + b + c) (k : Nat → Nat → Int32 → Int64 → Int32 → AH → Option (Int64 × AH)) {i : Int} (i0 : 0 ≤ i) (i1 : i ≤ a) (i2 : i ≤ r0 + r1) : ∀ (n N : Nat), n < N → ∀ (s j : Int), j = n - 1 → j ≤ b → j ≤ r0 + r1 - i → lp (b_X8_ways_78 k) (fun _ _ _ _ _ _ _ => none) N x0 x1 (iv (r0 + r1)) (jv s) (iv i) (iv j) h = k x0 x1 (iv (r0 + r1)) (jv (s + Sr (fun j => wyT r0 r1 r2 a b c i j) 0 j)) (iv (i - 1)) h := by
  obtain ⟨k1, n1, k2, n2, g0, g1, g2, g3, c0, c1, c2⟩ := H
  intro n
  induction n with
  | zero =>
    intro N hN; obtain ⟨N, rfl⟩ : ∃ N', N = N' + 1 := ⟨N - 1, (by omega)⟩
    intro s j hj j1 j2
    have hj : j = -1 := (by omega)
    subst hj
    rw [Sr_none (by omega), Int.add_zero]
    simp -implicitDefEqProofs (disch := omega) only [lp_succ, F_b_X8_ways_78, iv_add, iv_sub, iv_mul, iv_neg, iv_zero, iv_ltT, iv_ltF, iv_leT, iv_leF, iv_eqT, iv_eqF, iv_div, rm_iv, tn_iv, ib_iv, some_cb, some_cbv, ↓nm_eq, ↓reduceIte, true_and, and_true, Bool.true_eq_false, Bool.false_eq_true, not_false_eq_true, not_true_eq_false]
    rfl
  | succ n ih =>
    intro N hN; obtain ⟨N, rfl⟩ : ∃ N', N = N' + 1 := ⟨N - 1, (by omega)⟩
    intro s j hj j1 j2
    have hn := ih N (by omega)
    by_cases z : r0 + r1 - i - j ≤ c
    · have o1 := c_oneOfTwo (h := h) (r := r2) (a := a - i) (b := b - j) (c := c - (r0 + r1 - i - j)) (by omega) (by omega) (by omega) (by omega) (by omega) (by omega) (by omega) (by omega) (by omega)
      have o2 := c_oneOfTwo (h := h) (r := r0) (a := i) (b := j) (c := r0 + r1 - i - j) (by omega) (by omega) (by omega) (by omega) (by omega) (by omega) (by omega) (by omega) (by omega)
      rw [Sr_last (by omega)]
      have ht : wyT r0 r1 r2 a b c i j = on r2 (a - i) (b - j) (c - (r0 + r1 - i - j)) * on r0 i j (r0 + r1 - i - j) := if_pos z
      have hn1 := hn (s + wyT r0 r1 r2 a b c i j) (j - 1) (by omega) (by omega) (by omega)
      have e1 : s + wyT r0 r1 r2 a b c i j + Sr (fun j => wyT r0 r1 r2 a b c i j) 0 (j - 1) = s + (Sr (fun j => wyT r0 r1 r2 a b c i j) 0 (j - 1) + wyT r0 r1 r2 a b c i j) := (by omega)
      rw [e1] at hn1
      rw [← hn1]
      by_cases y : lg_cmp (jv (on r2 (a - i) (b - j) (c - (r0 + r1 - i - j)))) (jv 0) = 0
      · have y0 : jv (on r2 (a - i) (b - j) (c - (r0 + r1 - i - j))) = jv 0 := lg_cmp_zero y
        have e2 : jv (s + wyT r0 r1 r2 a b c i j) = jv s + jv 0 := by
          rw [ht, ← jv_add, ← jv_mul, y0, jv_mul, Int.zero_mul]
        have y' : lg_cmp (jv 0) (jv 0) = iv 0 := (by rw [y0] at y; exact y)
        rw [e2]
        simp -implicitDefEqProofs (disch := omega) only [lp_succ, F_b_X8_ways_78, k_X8_ways_78_1, k_X8_ways_78_2, k1, n1, k2, n2, tn0, tn1, tn2, g0, g2, c0, c1, c2, o1, o2, y0, y', iv_add, iv_sub, iv_mul, iv_neg, iv_zero, iv_ltT, iv_ltF, iv_leT, iv_leF, iv_eqT, iv_eqF, iv_div, rm_iv, tn_iv, ib_iv, some_cb, some_cbv, ↓nm_eq, ↓reduceIte, true_and, and_true, Bool.true_eq_false, Bool.false_eq_true, not_false_eq_true, not_true_eq_false]
        rfl
      · have e2 : jv (s + wyT r0 r1 r2 a b c i j) = jv s + jv (on r2 (a - i) (b - j) (c - (r0 + r1 - i - j))) * jv (on r0 i j (r0 + r1 - i - j)) := by
          rw [ht, ← jv_add, ← jv_mul]
        have y' : (lg_cmp (jv (on r2 (a - i) (b - j) (c - (r0 + r1 - i - j)))) (jv 0) = iv 0) = False := eq_false y
        rw [e2]
        simp -implicitDefEqProofs (disch := omega) only [lp_succ, F_b_X8_ways_78, k_X8_ways_78_1, k_X8_ways_78_2, k1, n1, k2, n2, tn0, tn1, tn2, g0, g2, c0, c1, c2, o1, o2, y', iv_add, iv_sub, iv_mul, iv_neg, iv_zero, iv_ltT, iv_ltF, iv_leT, iv_leF, iv_eqT, iv_eqF, iv_div, rm_iv, tn_iv, ib_iv, some_cb, some_cbv, ↓nm_eq, ↓reduceIte, true_and, and_true, Bool.true_eq_false, Bool.false_eq_true, not_false_eq_true, not_true_eq_false]
        rfl
    · rw [Sr_z (f := fun j => wyT r0 r1 r2 a b c i j) (fun j' q1 q2 => if_neg (by omega)), Int.add_zero]
      simp -implicitDefEqProofs (disch := omega) only [lp_succ, F_b_X8_ways_78, k1, n1, k2, n2, tn2, c2, iv_add, iv_sub, iv_mul, iv_neg, iv_zero, iv_ltT, iv_ltF, iv_leT, iv_leF, iv_eqT, iv_eqF, iv_div, rm_iv, tn_iv, ib_iv, some_cb, some_cbv, ↓nm_eq, ↓reduceIte, true_and, and_true, Bool.true_eq_false, Bool.false_eq_true, not_false_eq_true, not_true_eq_false]
      rfl
set_option maxRecDepth 100000 in
theorem c_ways61 {x0 x1 : Nat} {r0 r1 r2 r3 a b c : Int} (H : GrC h x0 x1 r0 r1 r2 r3 a b c) (p0 : 0 ≤ r0 ∧ r0 ≤ 1000) (p1 : 0 ≤ r1 ∧ r1 ≤ 1000) (p2 : 0 ≤ r2 ∧ r2 ≤ 1000) (p3 : 0 ≤ r3 ∧ r3 ≤ 1000) (ha : 0 ≤ a ∧ a ≤ 1000) (hb : 0 ≤ b ∧ b ≤ 1000) (hc : 0 ≤ c ∧ c ≤ 1000) (hs : r0 + r1 + r2 + r3 = a + b + c) : ∀ (n N : Nat), n < N → ∀ (s i : Int), i = n - 1 → i ≤ a → i ≤ r0 + r1 → lp b_X8_ways_61 (fun _ _ _ _ _ _ => none) N x0 x1 (iv (r0 + r1)) (jv s) (iv i) h = some (jv (s + Sr (fun i => Sr (fun j => wyT r0 r1 r2 a b c i j) 0 (min (r0 + r1 - i) b)) 0 i), h) := by
  have H' := H
  obtain ⟨k1, n1, k2, n2, g0, g1, g2, g3, c0, c1, c2⟩ := H
  intro n
  induction n with
  | zero =>
    intro N hN; obtain ⟨N, rfl⟩ : ∃ N', N = N' + 1 := ⟨N - 1, (by omega)⟩
    intro s i hi i1 i2
    have hi : i = -1 := (by omega)
    subst hi
    rw [Sr_none (by omega), Int.add_zero]
    simp -implicitDefEqProofs (disch := omega) only [lp_succ, F_b_X8_ways_61, iv_add, iv_sub, iv_mul, iv_neg, iv_zero, iv_ltT, iv_ltF, iv_leT, iv_leF, iv_eqT, iv_eqF, iv_div, rm_iv, tn_iv, ib_iv, some_cb, some_cbv, ↓nm_eq, ↓reduceIte, true_and, and_true, Bool.true_eq_false, Bool.false_eq_true, not_false_eq_true, not_true_eq_false]
  | succ n ih =>
    intro N hN; obtain ⟨N, rfl⟩ : ∃ N', N = N' + 1 := ⟨N - 1, (by omega)⟩
    intro s i hi i1 i2
    have hn := ih N (by omega)
    have hj := c_ways78 H' p0 p1 p2 p3 ha hb hc hs (lp b_X8_ways_61 (fun _ _ _ _ _ _ => none) N) (i := i) (by omega) i1 i2 (min (r0 + r1 - i) b + 1).toNat FU (FU_gt (by omega)) s (min (r0 + r1 - i) b) (by omega) (by omega) (by omega)
    rw [Sr_last (by omega)]
    have hn1 := hn (s + Sr (fun j => wyT r0 r1 r2 a b c i j) 0 (min (r0 + r1 - i) b)) (i - 1) (by omega) (by omega) (by omega)
    rw [hn1] at hj
    rw [show s + (Sr (fun i => Sr (fun j => wyT r0 r1 r2 a b c i j) 0 (min (r0 + r1 - i) b)) 0 (i - 1) + Sr (fun j => wyT r0 r1 r2 a b c i j) 0 (min (r0 + r1 - i) b)) = s + Sr (fun j => wyT r0 r1 r2 a b c i j) 0 (min (r0 + r1 - i) b) + Sr (fun i => Sr (fun j => wyT r0 r1 r2 a b c i j) 0 (min (r0 + r1 - i) b)) 0 (i - 1) by omega, ← hj]
    simp -implicitDefEqProofs (disch := omega) only [lp_succ, F_b_X8_ways_61, k_X8_ways_61_1, f_X8_ways_78, k2, n2, tn1, c1, j_min, iv_add, iv_sub, iv_mul, iv_neg, iv_zero, iv_ltT, iv_ltF, iv_leT, iv_leF, iv_eqT, iv_eqF, iv_div, rm_iv, tn_iv, ib_iv, some_cb, some_cbv, ↓nm_eq, ↓reduceIte, true_and, and_true, Bool.true_eq_false, Bool.false_eq_true, not_false_eq_true, not_true_eq_false]
theorem wy_sum {r0 r1 r2 r3 a b c : Int} (p0 : 0 ≤ r0) (p1 : 0 ≤ r1) (hs : r0 + r1 + r2 + r3 = a + b + c) : Sr (fun i => Sr (fun j => wyT r0 r1 r2 a b c i j) 0 (min (r0 + r1 - i) b)) 0 (min (r0 + r1) a) = cn [r0, r1, r2, r3] a b c := by
  rw [cn_merge [r2, r3] a b c p0 p1]
  refine (Sr_wide (by omega) (by omega) (fun i i0 i1 => ?_) (fun i i0 i1 i2 => ?_)).symm
  · refine Sr_wide (by omega) (by omega) (fun j j0 j1 => ?_) (fun j j0 j1 j2 => ?_)
    · unfold wyT
      by_cases z : r0 + r1 - i - j ≤ c
      · rw [if_pos z, cn_two (by omega), Int.mul_comm]
      · rw [if_neg z, cn_neg _ _ _ _ (by omega), Int.mul_zero]
    · rw [cn_neg _ _ _ _ (by omega), Int.mul_zero]
  · exact Sr_z (fun j j0 j1 => by rw [cn_neg _ _ _ _ (by omega), Int.mul_zero])
set_option maxRecDepth 100000 in
theorem c_ways {x0 x1 : Nat} {r0 r1 r2 r3 a b c : Int} (H : GrC h x0 x1 r0 r1 r2 r3 a b c) (p0 : -2000 ≤ r0 ∧ r0 ≤ 1000) (p1 : -2000 ≤ r1 ∧ r1 ≤ 1000) (p2 : -2000 ≤ r2 ∧ r2 ≤ 1000) (p3 : -2000 ≤ r3 ∧ r3 ≤ 1000) (ha : -2000 ≤ a ∧ a ≤ 1000) (hb : -2000 ≤ b ∧ b ≤ 1000) (hc : -2000 ≤ c ∧ c ≤ 1000) (hs : r0 + r1 + r2 + r3 = a + b + c) : f_X8_ways x0 x1 h = some (jv (cn [r0, r1, r2, r3] a b c), h) := by
  have H' := H
  obtain ⟨k1, n1, k2, n2, g0, g1, g2, g3, c0, c1, c2⟩ := H
  by_cases z0 : r0 < 0
  · rw [cn_rneg _ _ _ _ ⟨r0, by simp, z0⟩]
    simp -implicitDefEqProofs (disch := omega) only [k_X8_ways_78_1, k_X8_ways_78_2, F_b_X8_ways_78, f_X8_ways_78, k_X8_ways_61_1, F_b_X8_ways_61, f_X8_ways_61, k_X8_ways_23_1, F_b_X8_ways_23, f_X8_ways_23, F_b_X8_ways_2, f_X8_ways_2, F_f_X8_ways, lpFU5, k1, n1, k2, n2, g0, g1, g2, g3, c0, c1, c2, tn0, tn1, tn2, tn3, Int.reduceAdd, Int.reduceMul, Int.reduceSub, Int.zero_add, Int.add_zero, iv_add, iv_sub, iv_mul, iv_neg, iv_zero, iv_ltT, iv_ltF, iv_leT, iv_leF, iv_eqT, iv_eqF, iv_div, rm_iv, tn_iv, ib_iv, some_cb, some_cbv, ↓nm_eq, ↓reduceIte, true_and, and_true, Bool.true_eq_false, Bool.false_eq_true, not_false_eq_true, not_true_eq_false]
  by_cases z1 : r1 < 0
  · rw [cn_rneg _ _ _ _ ⟨r1, by simp, z1⟩]
    simp -implicitDefEqProofs (disch := omega) only [k_X8_ways_78_1, k_X8_ways_78_2, F_b_X8_ways_78, f_X8_ways_78, k_X8_ways_61_1, F_b_X8_ways_61, f_X8_ways_61, k_X8_ways_23_1, F_b_X8_ways_23, f_X8_ways_23, F_b_X8_ways_2, f_X8_ways_2, F_f_X8_ways, lpFU5, k1, n1, k2, n2, g0, g1, g2, g3, c0, c1, c2, tn0, tn1, tn2, tn3, Int.reduceAdd, Int.reduceMul, Int.reduceSub, Int.zero_add, Int.add_zero, iv_add, iv_sub, iv_mul, iv_neg, iv_zero, iv_ltT, iv_ltF, iv_leT, iv_leF, iv_eqT, iv_eqF, iv_div, rm_iv, tn_iv, ib_iv, some_cb, some_cbv, ↓nm_eq, ↓reduceIte, true_and, and_true, Bool.true_eq_false, Bool.false_eq_true, not_false_eq_true, not_true_eq_false]
  by_cases z2 : r2 < 0
  · rw [cn_rneg _ _ _ _ ⟨r2, by simp, z2⟩]
    simp -implicitDefEqProofs (disch := omega) only [k_X8_ways_78_1, k_X8_ways_78_2, F_b_X8_ways_78, f_X8_ways_78, k_X8_ways_61_1, F_b_X8_ways_61, f_X8_ways_61, k_X8_ways_23_1, F_b_X8_ways_23, f_X8_ways_23, F_b_X8_ways_2, f_X8_ways_2, F_f_X8_ways, lpFU5, k1, n1, k2, n2, g0, g1, g2, g3, c0, c1, c2, tn0, tn1, tn2, tn3, Int.reduceAdd, Int.reduceMul, Int.reduceSub, Int.zero_add, Int.add_zero, iv_add, iv_sub, iv_mul, iv_neg, iv_zero, iv_ltT, iv_ltF, iv_leT, iv_leF, iv_eqT, iv_eqF, iv_div, rm_iv, tn_iv, ib_iv, some_cb, some_cbv, ↓nm_eq, ↓reduceIte, true_and, and_true, Bool.true_eq_false, Bool.false_eq_true, not_false_eq_true, not_true_eq_false]
  by_cases z3 : r3 < 0
  · rw [cn_rneg _ _ _ _ ⟨r3, by simp, z3⟩]
    simp -implicitDefEqProofs (disch := omega) only [k_X8_ways_78_1, k_X8_ways_78_2, F_b_X8_ways_78, f_X8_ways_78, k_X8_ways_61_1, F_b_X8_ways_61, f_X8_ways_61, k_X8_ways_23_1, F_b_X8_ways_23, f_X8_ways_23, F_b_X8_ways_2, f_X8_ways_2, F_f_X8_ways, lpFU5, k1, n1, k2, n2, g0, g1, g2, g3, c0, c1, c2, tn0, tn1, tn2, tn3, Int.reduceAdd, Int.reduceMul, Int.reduceSub, Int.zero_add, Int.add_zero, iv_add, iv_sub, iv_mul, iv_neg, iv_zero, iv_ltT, iv_ltF, iv_leT, iv_leF, iv_eqT, iv_eqF, iv_div, rm_iv, tn_iv, ib_iv, some_cb, some_cbv, ↓nm_eq, ↓reduceIte, true_and, and_true, Bool.true_eq_false, Bool.false_eq_true, not_false_eq_true, not_true_eq_false]
  by_cases z4 : a < 0
  · rw [cn_neg _ _ _ _ (by omega)]
    simp -implicitDefEqProofs (disch := omega) only [k_X8_ways_78_1, k_X8_ways_78_2, F_b_X8_ways_78, f_X8_ways_78, k_X8_ways_61_1, F_b_X8_ways_61, f_X8_ways_61, k_X8_ways_23_1, F_b_X8_ways_23, f_X8_ways_23, F_b_X8_ways_2, f_X8_ways_2, F_f_X8_ways, lpFU5, k1, n1, k2, n2, g0, g1, g2, g3, c0, c1, c2, tn0, tn1, tn2, tn3, Int.reduceAdd, Int.reduceMul, Int.reduceSub, Int.zero_add, Int.add_zero, iv_add, iv_sub, iv_mul, iv_neg, iv_zero, iv_ltT, iv_ltF, iv_leT, iv_leF, iv_eqT, iv_eqF, iv_div, rm_iv, tn_iv, ib_iv, some_cb, some_cbv, ↓nm_eq, ↓reduceIte, true_and, and_true, Bool.true_eq_false, Bool.false_eq_true, not_false_eq_true, not_true_eq_false]
  by_cases z5 : b < 0
  · rw [cn_neg _ _ _ _ (by omega)]
    simp -implicitDefEqProofs (disch := omega) only [k_X8_ways_78_1, k_X8_ways_78_2, F_b_X8_ways_78, f_X8_ways_78, k_X8_ways_61_1, F_b_X8_ways_61, f_X8_ways_61, k_X8_ways_23_1, F_b_X8_ways_23, f_X8_ways_23, F_b_X8_ways_2, f_X8_ways_2, F_f_X8_ways, lpFU5, k1, n1, k2, n2, g0, g1, g2, g3, c0, c1, c2, tn0, tn1, tn2, tn3, Int.reduceAdd, Int.reduceMul, Int.reduceSub, Int.zero_add, Int.add_zero, iv_add, iv_sub, iv_mul, iv_neg, iv_zero, iv_ltT, iv_ltF, iv_leT, iv_leF, iv_eqT, iv_eqF, iv_div, rm_iv, tn_iv, ib_iv, some_cb, some_cbv, ↓nm_eq, ↓reduceIte, true_and, and_true, Bool.true_eq_false, Bool.false_eq_true, not_false_eq_true, not_true_eq_false]
  by_cases z6 : c < 0
  · rw [cn_neg _ _ _ _ (by omega)]
    simp -implicitDefEqProofs (disch := omega) only [k_X8_ways_78_1, k_X8_ways_78_2, F_b_X8_ways_78, f_X8_ways_78, k_X8_ways_61_1, F_b_X8_ways_61, f_X8_ways_61, k_X8_ways_23_1, F_b_X8_ways_23, f_X8_ways_23, F_b_X8_ways_2, f_X8_ways_2, F_f_X8_ways, lpFU5, k1, n1, k2, n2, g0, g1, g2, g3, c0, c1, c2, tn0, tn1, tn2, tn3, Int.reduceAdd, Int.reduceMul, Int.reduceSub, Int.zero_add, Int.add_zero, iv_add, iv_sub, iv_mul, iv_neg, iv_zero, iv_ltT, iv_ltF, iv_leT, iv_leF, iv_eqT, iv_eqF, iv_div, rm_iv, tn_iv, ib_iv, some_cb, some_cbv, ↓nm_eq, ↓reduceIte, true_and, and_true, Bool.true_eq_false, Bool.false_eq_true, not_false_eq_true, not_true_eq_false]
  have hi := c_ways61 H' (by omega) (by omega) (by omega) (by omega) (by omega) (by omega) (by omega) hs (min (r0 + r1) a + 1).toNat FU (FU_gt (by omega)) 0 (min (r0 + r1) a) (by omega) (by omega) (by omega)
  rw [Int.zero_add, wy_sum (by omega) (by omega) hs] at hi
  rw [← hi]
  simp -implicitDefEqProofs (disch := omega) only [k_X8_ways_78_1, k_X8_ways_78_2, k_X8_ways_23_1, F_b_X8_ways_23, f_X8_ways_23, F_b_X8_ways_2, f_X8_ways_2, F_f_X8_ways, lpFU5, k1, n1, k2, n2, g0, g1, g2, g3, c0, c1, c2, tn0, tn1, tn2, tn3, j_min, Int.reduceAdd, Int.reduceMul, Int.reduceSub, Int.zero_add, Int.add_zero, iv_add, iv_sub, iv_mul, iv_neg, iv_zero, iv_ltT, iv_ltF, iv_leT, iv_leF, iv_eqT, iv_eqF, iv_div, rm_iv, tn_iv, ib_iv, some_cb, some_cbv, ↓nm_eq, ↓reduceIte, true_and, and_true, Bool.true_eq_false, Bool.false_eq_true, not_false_eq_true, not_true_eq_false]
  rfl
end Q
