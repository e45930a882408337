/-! rows laid and shifted; what is taken -/
theorem ibs_iv {i n : Int} {N : Nat} (h1 : 0 ≤ i) (h2 : i ≤ 2147483647) (h3 : 0 ≤ n) (h4 : n ≤ 2147483647) (h5 : i + n ≤ N) : ibs (iv i) (iv n) N = true := by
  unfold ibs
  rw [decide_eq_true_eq, iv_zero, iv_lt (by omega) (by omega) (by omega) (by omega), tn_iv (by omega) (by omega), tn_iv (by omega) (by omega)]
  omega
def undZ (f k : Int) : Int := if f = k ∨ k = 0 ∨ (k = 1 ∧ 2 ≤ f ∧ f ≤ 5) ∨ (k = 2 ∧ f = 3) then 1 else 0
theorem abv0 : abv (Int.toNat 0) = iv (-1) := rfl
theorem abv1 : abv (Int.toNat 1) = iv 0 := rfl
theorem abv2 : abv (Int.toNat 2) = iv 1 := rfl
theorem abv3 : abv (Int.toNat 3) = iv 2 := rfl
theorem abv4 : abv (Int.toNat 4) = iv 1 := rfl
theorem abv5 : abv (Int.toNat 5) = iv 1 := rfl
theorem abv6 : abv (Int.toNat 6) = iv 0 := rfl
def wR0 (w : WD) (s : Int) : WD := (w.1, fun j => if 60 * s ≤ j ∧ j < 60 * s + 60 then jv 0 else w.2 j)
def wCp (w : WD) (a b n : Int) : WD := (w.1, fun j => if b ≤ j ∧ j < b + n then w.2 (a + (j - b)) else w.2 j)
theorem cpJ_0 (h : AH) (a i b j : Nat) : cpJ h a i b j 0 = h := by
  obtain ⟨h1, h2, h3, h4, h5, h6, h7⟩ := h
  show (h1, h2, h3, _, h5, h6, h7) = (h1, h2, h3, h4, h5, h6, h7)
  congr 4
  funext x k
  exact if_neg (by omega)
theorem gJ_cpJi (h : AH) {a i b j n k : Nat} (e : j ≤ k ∧ k < j + n) : gJ (cpJ h a i b j n) b k = gJ h a (i + (k - j)) := if_pos ⟨rfl, e⟩
theorem gJ_cpJo (h : AH) {a i b j n x k : Nat} (e : x ≠ b ∨ k < j ∨ j + n ≤ k) : gJ (cpJ h a i b j n) x k = gJ h x k := if_neg (by omega)
theorem Blk.cpJ {h h1 : AH} {c m a i b j n : Nat} (B : Blk h h1 c m) (z : b < c ∨ c + m ≤ b) : Blk h (cpJ h1 a i b j n) c m := fun x y q => by
  obtain ⟨b1, b2, b3, b4, b5⟩ := B x y q
  exact ⟨b1, b2, b3, fun j => by rw [gJ_cpJo _ (by omega), b4], b5⟩
/-- upwards, one more -/
theorem cpJ_up (h : AH) (r a b n : Nat) (hab : b ≤ a) : sJ (cpJ h r a r b n) r (b + n) (gJ (cpJ h r a r b n) r (a + n)) = cpJ h r a r b (n + 1) := by
  rw [gJ_cpJo h (by omega)]
  unfold cpJ sJ
  show (h.1, h.2.1, h.2.2.1, _, h.2.2.2.2.1, h.2.2.2.2.2.1, h.2.2.2.2.2.2) = (h.1, h.2.1, h.2.2.1, _, h.2.2.2.2.1, h.2.2.2.2.2.1, h.2.2.2.2.2.2)
  congr 4
  funext x k
  show (if x = r ∧ k = b + n then _ else if x = r ∧ b ≤ k ∧ k < b + n then _ else _) = (if x = r ∧ b ≤ k ∧ k < b + (n + 1) then _ else _)
  by_cases e : x = r ∧ k = b + n
  · rw [if_pos e, if_pos (by omega), show a + (k - b) = a + n by omega]
  · rw [if_neg e]
    by_cases q : x = r ∧ b ≤ k ∧ k < b + n
    · rw [if_pos q, if_pos (by omega)]
    · rw [if_neg q, if_neg (by omega)]
/-- downwards, one more -/
theorem cpJ_dn (h : AH) (r a b n : Nat) (hab : a < b) : sJ (cpJ h r (a + 1) r (b + 1) n) r b (gJ (cpJ h r (a + 1) r (b + 1) n) r a) = cpJ h r a r b (n + 1) := by
  rw [gJ_cpJo h (by omega)]
  unfold cpJ sJ
  show (h.1, h.2.1, h.2.2.1, _, h.2.2.2.2.1, h.2.2.2.2.2.1, h.2.2.2.2.2.2) = (h.1, h.2.1, h.2.2.1, _, h.2.2.2.2.1, h.2.2.2.2.2.1, h.2.2.2.2.2.2)
  congr 4
  funext x k
  show (if x = r ∧ k = b then _ else if x = r ∧ b + 1 ≤ k ∧ k < b + 1 + n then _ else _) = (if x = r ∧ b ≤ k ∧ k < b + (n + 1) then _ else _)
  by_cases e : x = r ∧ k = b
  · rw [if_pos e, if_pos (by omega), show a + (k - b) = a by omega]
  · rw [if_neg e]
    by_cases q : x = r ∧ b + 1 ≤ k ∧ k < b + 1 + n
    · rw [if_pos q, if_pos (by omega), show a + 1 + (k - (b + 1)) = a + (k - b) by omega]
    · rw [if_neg q, if_neg (by omega)]
set_option maxRecDepth 100000 in
theorem c_zeros {a : Nat} (n : Nat) : ∀ N : Nat, n < N → ∀ (i : Int) (h1 : AH), gK h1 a = 107 → gR h1 a 0 = a + 1 → gK h1 (a + 1) = 2 → gN h1 (a + 1) = 60 → 0 ≤ i → i + n = 60 → lp b_X7_holdRow_17 (fun _ _ _ => none) N a (iv i) h1 = some (zJ h1 (a + 1) i.toNat n) := by
  induction n with
  | zero =>
    intro N hN; obtain ⟨N, rfl⟩ : ∃ N', N = N' + 1 := ⟨N - 1, (by omega)⟩
    intro i h1 k1 k2 k3 k4 i0 hi
    rw [zJ_0]
    simp -implicitDefEqProofs (disch := omega) only [lp_succ, F_b_X7_holdRow_17, iv_add, iv_sub, iv_mul, iv_neg, iv_zero, iv_ltT, iv_ltF, iv_leT, iv_leF, iv_eqT, iv_eqF, iv_div, rm_iv, tn_iv, ib_iv, some_cb, some_cbv, ↓nm_eq, ↓reduceIte, true_and, and_true, Bool.true_eq_false, Bool.false_eq_true, not_false_eq_true, not_true_eq_false]
  | succ n ih =>
    intro N hN; obtain ⟨N, rfl⟩ : ∃ N', N = N' + 1 := ⟨N - 1, (by omega)⟩
    intro i h1 k1 k2 k3 k4 i0 hi
    have q := ih N (by omega) (i + 1) (sJ h1 (a + 1) i.toNat (jv 0)) k1 k2 k3 k4 (by omega) (by omega)
    rw [show (i + 1).toNat = i.toNat + 1 by omega, zJ_step] at q
    rw [← q]
    simp -implicitDefEqProofs (disch := omega) only [lp_succ, F_b_X7_holdRow_17, k1, k2, k3, k4, iv_add, iv_sub, iv_mul, iv_neg, iv_zero, iv_ltT, iv_ltF, iv_leT, iv_leF, iv_eqT, iv_eqF, iv_div, rm_iv, tn_iv, ib_iv, some_cb, some_cbv, ↓nm_eq, ↓reduceIte, true_and, and_true, Bool.true_eq_false, Bool.false_eq_true, not_false_eq_true, not_true_eq_false]
set_option maxRecDepth 100000 in
theorem q_zeros {s : Int} (s0 : 0 ≤ s) (s1 : s < 6) (n : Nat) : ∀ N : Nat, n < N → ∀ (i : Int) (h1 : AH), Fix h1 → 0 ≤ i → i + n = 60 → lp b_X12_row_55 (fun _ _ _ _ => none) N 91 (iv s) (iv i) h1 = some (iv 1, zJ h1 115 (60 * s + i).toNat n) := by
  induction n with
  | zero =>
    intro N hN; obtain ⟨N, rfl⟩ : ∃ N', N = N' + 1 := ⟨N - 1, (by omega)⟩
    intro i h1 hF i0 hi
    rw [zJ_0]
    simp -implicitDefEqProofs (disch := omega) only [lp_succ, F_b_X12_row_55, iv_add, iv_sub, iv_mul, iv_neg, iv_zero, iv_ltT, iv_ltF, iv_leT, iv_leF, iv_eqT, iv_eqF, iv_div, rm_iv, tn_iv, ib_iv, some_cb, some_cbv, ↓nm_eq, ↓reduceIte, true_and, and_true, Bool.true_eq_false, Bool.false_eq_true, not_false_eq_true, not_true_eq_false]
  | succ n ih =>
    intro N hN; obtain ⟨N, rfl⟩ : ∃ N', N = N' + 1 := ⟨N - 1, (by omega)⟩
    intro i h1 hF i0 hi
    have q := ih N (by omega) (i + 1) (sJ h1 115 (60 * s + i).toNat (jv 0)) hF (by omega) (by omega)
    rw [show (60 * s + (i + 1)).toNat = (60 * s + i).toNat + 1 by omega, zJ_step] at q
    rw [← q]
    simp -implicitDefEqProofs (disch := omega) only [lp_succ, F_b_X12_row_55, K91 hF, R91_27 hF, K115 hF, N115 hF, iv_add, iv_sub, iv_mul, iv_neg, iv_zero, iv_ltT, iv_ltF, iv_leT, iv_leF, iv_eqT, iv_eqF, iv_div, rm_iv, tn_iv, ib_iv, some_cb, some_cbv, ↓nm_eq, ↓reduceIte, true_and, and_true, Bool.true_eq_false, Bool.false_eq_true, not_false_eq_true, not_true_eq_false]
section Q
variable {w w' : WD} {A A' : Int → Nat} {h h' h1 : AH}
set_option maxRecDepth 100000 in
theorem c_under {f k : Int} (f0 : 0 ≤ f) (f1 : f < 7) (k0 : 0 ≤ k) (k1 : k < 7) : f_X2_isUnder_ (iv f) (iv k) h = some (iv (undZ f k), h) := by
  obtain ⟨N, hN⟩ := FU_pos 5 (by decide)
  have e : f_X2_isUnder__2 = lp b_X2_isUnder__2 (fun _ _ _ => none) (N + 5 + 1) := by rw [← hN]; rfl
  rcases (show f = 0 ∨ f = 1 ∨ f = 2 ∨ f = 3 ∨ f = 4 ∨ f = 5 ∨ f = 6 by omega) with q | q | q | q | q | q | q <;> rcases (show k = 0 ∨ k = 1 ∨ k = 2 ∨ k = 3 ∨ k = 4 ∨ k = 5 ∨ k = 6 by omega) with p | p | p | p | p | p | p <;> subst q <;> subst p <;> simp -implicitDefEqProofs (disch := omega) only [F_f_X2_isUnder_, e, lp_succ, F_b_X2_isUnder__2, abv0, abv1, abv2, abv3, abv4, abv5, abv6, zret0, zret1, iv_add, iv_sub, iv_mul, iv_neg, iv_zero, iv_ltT, iv_ltF, iv_leT, iv_leF, iv_eqT, iv_eqF, iv_div, rm_iv, tn_iv, ib_iv, some_cb, some_cbv, ↓nm_eq, ↓reduceIte, true_and, and_true, Bool.true_eq_false, Bool.false_eq_true, not_false_eq_true, not_true_eq_false] <;> rfl
set_option maxRecDepth 100000 in
theorem q_taken {f k : Int} (f0 : 0 ≤ f) (f1 : f < 7) (k0 : 0 ≤ k) (k1 : k < 7) : f_X12_taken_67 (iv k) (iv f) (iv f) h = some (iv (if undZ f k = 1 then f else -12), h) := by
  obtain ⟨N, hN⟩ := FU_pos 5 (by decide)
  have e : f_X12_taken_67 = lp b_X12_taken_67 (fun _ _ _ _ => none) (N + 5 + 1) := by rw [← hN]; rfl
  rcases (show f = 0 ∨ f = 1 ∨ f = 2 ∨ f = 3 ∨ f = 4 ∨ f = 5 ∨ f = 6 by omega) with q | q | q | q | q | q | q <;> rcases (show k = 0 ∨ k = 1 ∨ k = 2 ∨ k = 3 ∨ k = 4 ∨ k = 5 ∨ k = 6 by omega) with p | p | p | p | p | p | p <;> subst q <;> subst p <;> simp -implicitDefEqProofs (disch := omega) only [e, lp_succ, F_b_X12_taken_67, k_X12_taken_67_1, F_f_X12_taken_88, F_f_X12_aboveOf, iv_add, iv_sub, iv_mul, iv_neg, iv_zero, iv_ltT, iv_ltF, iv_leT, iv_leF, iv_eqT, iv_eqF, iv_div, rm_iv, tn_iv, ib_iv, some_cb, some_cbv, ↓nm_eq, ↓reduceIte, true_and, and_true, Bool.true_eq_false, Bool.false_eq_true, not_false_eq_true, not_true_eq_false] <;> rfl
set_option maxRecDepth 100000 in
theorem c_empty1 (hS : Sim w A h) {s : Int} {a : Nat} (s0 : 0 ≤ s) (s1 : s < 6) (ha : a = 79 + 2 * s.toNat) (e : sIs w s < 0 ∧ sSo w s < 0) : f_X7_isEmpty a h = some (iv 1, h) := by
  have hs := And.intro s0 s1
  obtain ⟨a', ha', hsh, ha0, sk, sr, sk1, sn1, s2, s3, s1', sd⟩ := sh_facts hS s0 s1
  obtain rfl : a' = a := by omega
  obtain ⟨⟨y1, y2⟩, ⟨y3, y4⟩, ⟨y5, y6⟩, y7⟩ := hS.W.sh s0 s1
  rw [if_pos e.1] at s1'
  clear ha ha'
  simp -implicitDefEqProofs (disch := omega) only [F_f_X7_isEmpty, sk, s2, s1', zret0, zret1, iv_add, iv_sub, iv_mul, iv_neg, iv_zero, iv_ltT, iv_ltF, iv_leT, iv_leF, iv_eqT, iv_eqF, iv_div, rm_iv, tn_iv, ib_iv, some_cb, some_cbv, ↓nm_eq, ↓reduceIte, true_and, and_true, Bool.true_eq_false, Bool.false_eq_true, not_false_eq_true, not_true_eq_false]
set_option maxRecDepth 100000 in
theorem c_empty0 (hS : Sim w A h) {s : Int} {a : Nat} (s0 : 0 ≤ s) (s1 : s < 6) (ha : a = 79 + 2 * s.toNat) (e : ¬ (sIs w s < 0 ∧ sSo w s < 0)) : f_X7_isEmpty a h = some (iv 0, h) := by
  obtain ⟨a', ha', hsh, ha0, sk, sr, sk1, sn1, s2, s3, s1', sd⟩ := sh_facts hS s0 s1
  obtain rfl : a' = a := by omega
  obtain ⟨⟨y1, y2⟩, ⟨y3, y4⟩, ⟨y5, y6⟩, y7⟩ := hS.W.sh s0 s1
  by_cases z : sIs w s < 0
  · rw [if_pos z] at s1'
    clear ha ha'
    simp -implicitDefEqProofs (disch := omega) only [F_f_X7_isEmpty, sk, s2, s1', zret0, zret1, iv_add, iv_sub, iv_mul, iv_neg, iv_zero, iv_ltT, iv_ltF, iv_leT, iv_leF, iv_eqT, iv_eqF, iv_div, rm_iv, tn_iv, ib_iv, some_cb, some_cbv, ↓nm_eq, ↓reduceIte, true_and, and_true, Bool.true_eq_false, Bool.false_eq_true, not_false_eq_true, not_true_eq_false]
  · rw [if_neg z] at s1'
    have kA := eq_false (hS.kA (k := sIs w s) (by omega) (by omega))
    clear ha ha'
    simp -implicitDefEqProofs (disch := omega) only [F_f_X7_isEmpty, sk, s2, s1', kA, zret0, zret1, iv_add, iv_sub, iv_mul, iv_neg, iv_zero, iv_ltT, iv_ltF, iv_leT, iv_leF, iv_eqT, iv_eqF, iv_div, rm_iv, tn_iv, ib_iv, some_cb, some_cbv, ↓nm_eq, ↓reduceIte, true_and, and_true, Bool.true_eq_false, Bool.false_eq_true, not_false_eq_true, not_true_eq_false]
set_option maxRecDepth 100000 in
theorem c_has1 {a : Nat} {i n z : Int} (sk : gK h a = 107) (s3 : gI h a 3 = iv z) (i0 : 0 ≤ i) (n0 : 0 ≤ n) (z1 : z ≤ 60) (e : i + n ≤ z) : f_X7_has a (jv i) (iv n) h = some (iv 1, h) := by
  simp -implicitDefEqProofs (disch := omega) only [F_f_X7_has, sk, s3, zret0, zret1, iv_add, iv_sub, iv_mul, iv_neg, iv_zero, iv_ltT, iv_ltF, iv_leT, iv_leF, iv_eqT, iv_eqF, iv_div, rm_iv, tn_iv, ib_iv, lc_lt, lc_le, lc_gt, lc_ge, lc_eq, iv_l, jv_add, jv_sub, jv_mul, jv_zero, if_pos, if_neg, some_cb, some_cbv, ↓nm_eq, ↓reduceIte, true_and, and_true, Bool.true_eq_false, Bool.false_eq_true, not_false_eq_true, not_true_eq_false]
set_option maxRecDepth 100000 in
theorem c_has0 {a : Nat} {i n z : Int} (sk : gK h a = 107) (s3 : gI h a 3 = iv z) (i0 : -2147483648 ≤ i) (i1 : i ≤ 2147483647) (n0 : -2147483648 ≤ n) (n1 : n ≤ 2147483647) (z0 : 0 ≤ z) (z1 : z ≤ 60) (e : ¬ (0 ≤ i ∧ 0 ≤ n ∧ i + n ≤ z)) : f_X7_has a (jv i) (iv n) h = some (iv 0, h) := by
  by_cases q : i < 0
  · simp -implicitDefEqProofs (disch := omega) only [F_f_X7_has, sk, s3, zret0, zret1, iv_add, iv_sub, iv_mul, iv_neg, iv_zero, iv_ltT, iv_ltF, iv_leT, iv_leF, iv_eqT, iv_eqF, iv_div, rm_iv, tn_iv, ib_iv, lc_lt, lc_le, lc_gt, lc_ge, lc_eq, iv_l, jv_add, jv_sub, jv_mul, jv_zero, if_pos, if_neg, some_cb, some_cbv, ↓nm_eq, ↓reduceIte, true_and, and_true, Bool.true_eq_false, Bool.false_eq_true, not_false_eq_true, not_true_eq_false]
  · by_cases q2 : n < 0
    · simp -implicitDefEqProofs (disch := omega) only [F_f_X7_has, sk, s3, zret0, zret1, iv_add, iv_sub, iv_mul, iv_neg, iv_zero, iv_ltT, iv_ltF, iv_leT, iv_leF, iv_eqT, iv_eqF, iv_div, rm_iv, tn_iv, ib_iv, lc_lt, lc_le, lc_gt, lc_ge, lc_eq, iv_l, jv_add, jv_sub, jv_mul, jv_zero, if_pos, if_neg, some_cb, some_cbv, ↓nm_eq, ↓reduceIte, true_and, and_true, Bool.true_eq_false, Bool.false_eq_true, not_false_eq_true, not_true_eq_false]
    · simp -implicitDefEqProofs (disch := omega) only [F_f_X7_has, sk, s3, zret0, zret1, iv_add, iv_sub, iv_mul, iv_neg, iv_zero, iv_ltT, iv_ltF, iv_leT, iv_leF, iv_eqT, iv_eqF, iv_div, rm_iv, tn_iv, ib_iv, lc_lt, lc_le, lc_gt, lc_ge, lc_eq, iv_l, jv_add, jv_sub, jv_mul, jv_zero, if_pos, if_neg, some_cb, some_cbv, ↓nm_eq, ↓reduceIte, true_and, and_true, Bool.true_eq_false, Bool.false_eq_true, not_false_eq_true, not_true_eq_false]
set_option maxRecDepth 100000 in
theorem M_row (hS : Sim w A h) (x1 x2 x3 : Int32) : Both (f_X11_row 3 x1 x2 x3) (f_X12_row 91 x1 x2 x3) h := by
  obtain ⟨s, rfl, t1, t2⟩ := iv_ex x1
  obtain ⟨so, rfl, i1, i2⟩ := iv_ex x2
  obtain ⟨n, rfl, n1, n2⟩ := iv_ex x3
  have hF := hS.F
  have hR := hS.R
  by_cases hs : 0 ≤ s ∧ s < 6
  · obtain ⟨a, ha, hsh, ha0, sk, sr, sk1, sn1, s2, s3, s1, sd⟩ := sh_facts hS hs.1 hs.2; obtain ⟨⟨y1, y2⟩, ⟨y3, y4⟩, ⟨y5, y6⟩, y7⟩ := hS.W.sh hs.1 hs.2; obtain ⟨hs0, hs1⟩ := id hs; obtain ⟨kw1, kw2⟩ := hS.W.2.2.1
    by_cases hq : 0 ≤ so ∧ so ≤ 4
    · obtain ⟨so0, so1⟩ := id hq
      by_cases q60 : n ≤ 60
      · by_cases q0 : n < 0
        · clear ha
          exact Both.still hS (r := iv (-14)) (by simp -implicitDefEqProofs (disch := omega) only [k_X11_row_1, k_X11_row_2, F_f_X11_row, K3 hF, hsh, ha0, K3 hF, R3_0 hF, R3_1 hF, R3_2 hF, R3_3 hF, R3_4 hF, R3_5 hF, R3_6 hF, R3_7 hF, R3_8 hF, iv_add, iv_sub, iv_mul, iv_neg, iv_zero, iv_ltT, iv_ltF, iv_leT, iv_leF, iv_eqT, iv_eqF, iv_div, rm_iv, tn_iv, ib_iv, lc_lt, lc_le, lc_gt, lc_ge, lc_eq, iv_l, jv_add, jv_sub, jv_mul, jv_zero, if_pos, if_neg, some_cb, some_cbv, ↓nm_eq, ↓reduceIte, true_and, and_true, Bool.true_eq_false, Bool.false_eq_true, not_false_eq_true, not_true_eq_false]) (by simp -implicitDefEqProofs (disch := omega) only [F_b_X12_row_55, f_X12_row_55, k_X12_row_1, k_X12_row_2, F_f_X12_row, k_X12_isShelf_1, F_f_X12_isShelf, q_in1, zret1, K91 hF, K92 hF, N92 hF, K93 hF, N93 hF, K94 hF, N94 hF, K95 hF, N95 hF, K96 hF, N96 hF, K97 hF, N97 hF, K98 hF, N98 hF, K99 hF, N99 hF, K100 hF, N100 hF, K101 hF, N101 hF, K102 hF, N102 hF, K103 hF, N103 hF, K104 hF, N104 hF, K105 hF, N105 hF, K106 hF, N106 hF, K107 hF, N107 hF, K108 hF, N108 hF, K109 hF, N109 hF, K110 hF, N110 hF, K111 hF, N111 hF, K112 hF, N112 hF, K113 hF, N113 hF, K114 hF, N114 hF, K115 hF, N115 hF, K116 hF, N116 hF, K117 hF, N117 hF, K118 hF, N118 hF, K119 hF, N119 hF, K120 hF, N120 hF, R91_1 hF, R91_2 hF, R91_3 hF, R91_4 hF, R91_5 hF, R91_6 hF, R91_7 hF, R91_8 hF, R91_9 hF, R91_10 hF, R91_11 hF, R91_12 hF, R91_13 hF, R91_14 hF, R91_15 hF, R91_16 hF, R91_17 hF, R91_18 hF, R91_21 hF, R91_22 hF, R91_24 hF, R91_25 hF, R91_26 hF, R91_27 hF, R91_29 hF, R91_30 hF, R91_31 hF, R91_32 hF, R91_44 hF, RR_M hR, RR_T hR, RR_K hR, RR_Bo hR, RR_Gr hR, RR_Ch hR, RR_Bx hR, RR_G hR, RR_C hR, RR_G0 hR, RR_C0 hR, RR_V hR, RR_O hR, RR_Se hR, RR_S2 hR, RR_L hR, RR_W hR, RR_H hR, RR_hSo hR, RR_hCe hR, RR_hBo hR, RR_hOt hR, RR_hMu hR, RR_Ta hR, RR_Ki hR, RR_Tr hR, RR_Is hR, RR_So hR, RR_Sz hR, RR_El hR, iv_add, iv_sub, iv_mul, iv_neg, iv_zero, iv_ltT, iv_ltF, iv_leT, iv_leF, iv_eqT, iv_eqF, iv_div, rm_iv, tn_iv, ib_iv, lc_lt, lc_le, lc_gt, lc_ge, lc_eq, iv_l, jv_add, jv_sub, jv_mul, jv_zero, if_pos, if_neg, some_cb, some_cbv, ↓nm_eq, ↓reduceIte, true_and, and_true, Bool.true_eq_false, Bool.false_eq_true, not_false_eq_true, not_true_eq_false])
        · have n0 : 0 ≤ n := by omega
          have hg := hS.gc
          have hQ : QS w (sI (sI (sR h a 1 0) a 2 (iv so)) a 3 (iv n)) := ((hS.Q.sR (a := a) (i := 1) (v := 0) (by omega)).sI (a := a) (i := 2) (v := iv so) (by omega)).sI (a := a) (i := 3) (v := iv n) (by omega)
          have zz := c_zeros (a := a) 60 FU (FU_gt (by omega)) 0 (sI (sI (sR h a 1 0) a 2 (iv so)) a 3 (iv n)) sk (by show gR (sR h a 1 0) a 0 = _; rw [gR_sRo _ _ (by omega)]; exact sr) sk1 sn1 (by omega) (by omega)
          generalize eh1 : zJ (sI (sI (sR h a 1 0) a 2 (iv so)) a 3 (iv n)) (a + 1) (Int.toNat 0) 60 = h1 at zz
          have hQ1 : QS w h1 := by
            rw [← eh1]
            exact ⟨hQ.F, hQ.R.fr (fun _ _ _ => rfl) (fun i => gJ_zJo _ (by omega)), hQ.W⟩
          have hF1 := hQ1.F
          have qz := q_zeros hs0 hs1 60 FU (FU_gt (by omega)) 0 (sI (sI (sI h1 112 s.toNat (iv (-1))) 113 s.toNat (iv so)) 114 s.toNat (iv n)) hF1 (by omega) (by omega)
          refine ⟨iv 1, h1, zJ (sI (sI (sI h1 112 s.toNat (iv (-1))) 113 s.toNat (iv so)) 114 s.toNat (iv n)) 115 (60 * s + 0).toNat 60, wR0 (wZ (wZ (wZ w 112 s (-1)) 113 s so) 114 s n) s, A, ?_, ?_, ?_, ?_, by rw [← eh1]; rfl, ?_, K91 hF1⟩
          · clear ha
            exact (by simp -implicitDefEqProofs (disch := omega) only [k_X11_row_1, k_X11_row_2, F_f_X11_row, f_X7_holdRow_17, F_f_X7_holdRow, hsh, ha0, sk, gK_sI, gK_sR, zz, K3 hF, iv_add, iv_sub, iv_mul, iv_neg, iv_zero, iv_ltT, iv_ltF, iv_leT, iv_leF, iv_eqT, iv_eqF, iv_div, rm_iv, tn_iv, ib_iv, lc_lt, lc_le, lc_gt, lc_ge, lc_eq, iv_l, jv_add, jv_sub, jv_mul, jv_zero, if_pos, if_neg, some_cb, some_cbv, ↓nm_eq, ↓reduceIte, true_and, and_true, Bool.true_eq_false, Bool.false_eq_true, not_false_eq_true, not_true_eq_false])
          · have hF := hF1
            have hR := hQ1.R
            exact (by simp -implicitDefEqProofs (disch := omega) only [f_X12_row_55, k_X12_row_1, k_X12_row_2, F_f_X12_row, k_X12_isShelf_1, F_f_X12_isShelf, q_in1, zret1, qz, K91 hF, R91_24 hF, R91_25 hF, R91_26 hF, K112 hF, N112 hF, K113 hF, N113 hF, K114 hF, N114 hF, gK_sI, gR_sI, gN_sI, iv_add, iv_sub, iv_mul, iv_neg, iv_zero, iv_ltT, iv_ltF, iv_leT, iv_leF, iv_eqT, iv_eqF, iv_div, rm_iv, tn_iv, ib_iv, some_cb, some_cbv, ↓nm_eq, ↓reduceIte, true_and, and_true, Bool.true_eq_false, Bool.false_eq_true, not_false_eq_true, not_true_eq_false])
          · have a60 : (60 * s + 0).toNat = 60 * s.toNat := by omega
            have e112 : (wR0 (wZ (wZ (wZ w 112 s (-1)) 113 s so) 114 s n) s).1 112 s = -1 := by
              show (wZ (wZ (wZ w 112 s (-1)) 113 s so) 114 s n).1 112 s = -1
              rw [wZ_o _ (by omega), wZ_o _ (by omega), wZ_at]
            have e113 : (wR0 (wZ (wZ (wZ w 112 s (-1)) 113 s so) 114 s n) s).1 113 s = so := by
              show (wZ (wZ (wZ w 112 s (-1)) 113 s so) 114 s n).1 113 s = so
              rw [wZ_o _ (by omega), wZ_at]
            have e114 : (wR0 (wZ (wZ (wZ w 112 s (-1)) 113 s so) 114 s n) s).1 114 s = n := wZ_at _ _ _ _
            have el : ∀ (b : Nat) (i : Int), (b < 112 ∨ i ≠ s) → (wR0 (wZ (wZ (wZ w 112 s (-1)) 113 s so) 114 s n) s).1 b i = w.1 b i := fun b i z => by
              show (wZ (wZ (wZ w 112 s (-1)) 113 s so) 114 s n).1 b i = w.1 b i
              rw [wZ_o _ (by omega), wZ_o _ (by omega), wZ_o _ (by omega)]
            have Bh : ∀ c m : Nat, (a + 1 < c ∨ c + m ≤ a) → (114 < c ∨ c + m ≤ 112) → (115 < c ∨ c + m ≤ 115) → Blk h (zJ (sI (sI (sI h1 112 s.toNat (iv (-1))) 113 s.toNat (iv so)) 114 s.toNat (iv n)) 115 (60 * s + 0).toNat 60) c m := fun c m z1 z2 z3 => by
              rw [← eh1]
              exact ((((((((Blk.rf h c m).sR (by omega)).sI (by omega)).sI (by omega)).zJ (by omega)).sI (by omega)).sI (by omega)).sI (by omega)).zJ (by omega)
            refine hS.sh hs0 hs1 (fun b i z => el b i (by omega)) (el _ _ (by omega)) (el _ _ (by omega)) (fun i => el _ _ (by omega)) (fun i => el _ _ (by omega)) (fun b i z1 z2 z3 => el b i (Or.inr z3)) (fun j z => if_neg (by omega)) hF1 ?_ (Bh _ _ (by omega) (by omega) (by omega)) (fun t u1 u2 u3 => Bh _ _ (by omega) (by omega) (by omega)) (fun c m u1 u2 => Bh _ _ (by omega) (by omega) (by omega)) (by rw [← eh1]; exact Nat.le_refl _) ?_ ?_
            · have r1 : RR (wZ (wZ (wZ w 112 s (-1)) 113 s so) 114 s n) (sI (sI (sI h1 112 s.toNat (iv (-1))) 113 s.toNat (iv so)) 114 s.toNat (iv n)) := RR_wZ (RR_wZ (RR_wZ hQ1.R (by omega) (by omega) hs0) (by omega) (by omega) hs0) (by omega) (by omega) hs0
              obtain ⟨p1, p2, p3, p4, p5, p6⟩ := r1
              refine ⟨p1, p2, p3, p4, p5, fun z hz => ?_⟩
              show _ = if 60 * s ≤ z ∧ z < 60 * s + 60 then jv 0 else (wZ (wZ (wZ w 112 s (-1)) 113 s so) 114 s n).2 z
              by_cases q : 60 * s ≤ z ∧ z < 60 * s + 60
              · rw [if_pos q, gJ_zJi _ (by omega)]
              · rw [if_neg q, gJ_zJo _ (by omega)]; exact p6 z hz
            · unfold ObS sSo sIs sSz
              rw [e112, e113, e114, ← ha, show 80 + 2 * s.toNat = a + 1 by omega]
              refine ⟨?_, fun _ => ?_, ?_, fun i u1 u2 => ?_⟩
              · rw [← eh1]
                show gI (sI (sI (sI (sI (sI (sR h a 1 0) a 2 (iv so)) a 3 (iv n)) 112 s.toNat (iv (-1))) 113 s.toNat (iv so)) 114 s.toNat (iv n)) a 2 = iv so
                rw [gI_sIo _ _ (by omega), gI_sIo _ _ (by omega), gI_sIo _ _ (by omega), gI_sIo _ _ (by omega), gI_sIs]
              · rw [← eh1]
                show gI (sI (sI (sI (sI (sI (sR h a 1 0) a 2 (iv so)) a 3 (iv n)) 112 s.toNat (iv (-1))) 113 s.toNat (iv so)) 114 s.toNat (iv n)) a 3 = iv n
                rw [gI_sIo _ _ (by omega), gI_sIo _ _ (by omega), gI_sIo _ _ (by omega), gI_sIs]
              · rw [← eh1]
                show gR (sR h a 1 0) a 1 = _
                rw [gR_sRs, if_pos (by omega)]
              · have e0 : sEl (wR0 (wZ (wZ (wZ w 112 s (-1)) 113 s so) 114 s n) s) (60 * s + i) = jv 0 := if_pos (by omega)
                rw [e0, gJ_zJo _ (by omega), gJ_sI, gJ_sI, gJ_sI, ← eh1, gJ_zJi _ (by omega)]
                exact ⟨rfl, soR_0 _⟩
            · unfold shOK sSo sIs sSz wK
              rw [e112, e113, e114, el _ _ (by omega)]
              have := hS.W.2.2.1.1
              unfold wK at this
              omega
          · refine ⟨by rw [← eh1]; show gC h ≤ gC h + 100; omega, by rw [← eh1]; show gS h ≤ gS h + 500; omega, by rw [← eh1]; rfl, ?_⟩
            rw [← eh1]
            funext i
            show gI (sI (sI (sI (sI (sI (sR h a 1 0) a 2 (iv so)) a 3 (iv n)) 112 s.toNat (iv (-1))) 113 s.toNat (iv so)) 114 s.toNat (iv n)) 2 i = gI h 2 i
            rw [gI_sIo _ _ (by omega), gI_sIo _ _ (by omega), gI_sIo _ _ (by omega), gI_sIo _ _ (by omega), gI_sIo _ _ (by omega)]; rfl
          · rw [← eh1]
            funext i
            show gI (sI (sI (sR h a 1 0) a 2 (iv so)) a 3 (iv n)) 2 i = gI h 2 i
            rw [gI_sIo _ _ (by omega), gI_sIo _ _ (by omega)]; rfl
      · clear ha
        exact Both.still hS (r := iv (-1)) (by simp -implicitDefEqProofs (disch := omega) only [k_X11_row_1, k_X11_row_2, F_f_X11_row, K3 hF, hsh, ha0, K3 hF, R3_0 hF, R3_1 hF, R3_2 hF, R3_3 hF, R3_4 hF, R3_5 hF, R3_6 hF, R3_7 hF, R3_8 hF, iv_add, iv_sub, iv_mul, iv_neg, iv_zero, iv_ltT, iv_ltF, iv_leT, iv_leF, iv_eqT, iv_eqF, iv_div, rm_iv, tn_iv, ib_iv, lc_lt, lc_le, lc_gt, lc_ge, lc_eq, iv_l, jv_add, jv_sub, jv_mul, jv_zero, if_pos, if_neg, some_cb, some_cbv, ↓nm_eq, ↓reduceIte, true_and, and_true, Bool.true_eq_false, Bool.false_eq_true, not_false_eq_true, not_true_eq_false]) (by simp -implicitDefEqProofs (disch := omega) only [F_b_X12_row_55, f_X12_row_55, k_X12_row_1, k_X12_row_2, F_f_X12_row, k_X12_isShelf_1, F_f_X12_isShelf, q_in1, zret1, K91 hF, K92 hF, N92 hF, K93 hF, N93 hF, K94 hF, N94 hF, K95 hF, N95 hF, K96 hF, N96 hF, K97 hF, N97 hF, K98 hF, N98 hF, K99 hF, N99 hF, K100 hF, N100 hF, K101 hF, N101 hF, K102 hF, N102 hF, K103 hF, N103 hF, K104 hF, N104 hF, K105 hF, N105 hF, K106 hF, N106 hF, K107 hF, N107 hF, K108 hF, N108 hF, K109 hF, N109 hF, K110 hF, N110 hF, K111 hF, N111 hF, K112 hF, N112 hF, K113 hF, N113 hF, K114 hF, N114 hF, K115 hF, N115 hF, K116 hF, N116 hF, K117 hF, N117 hF, K118 hF, N118 hF, K119 hF, N119 hF, K120 hF, N120 hF, R91_1 hF, R91_2 hF, R91_3 hF, R91_4 hF, R91_5 hF, R91_6 hF, R91_7 hF, R91_8 hF, R91_9 hF, R91_10 hF, R91_11 hF, R91_12 hF, R91_13 hF, R91_14 hF, R91_15 hF, R91_16 hF, R91_17 hF, R91_18 hF, R91_21 hF, R91_22 hF, R91_24 hF, R91_25 hF, R91_26 hF, R91_27 hF, R91_29 hF, R91_30 hF, R91_31 hF, R91_32 hF, R91_44 hF, RR_M hR, RR_T hR, RR_K hR, RR_Bo hR, RR_Gr hR, RR_Ch hR, RR_Bx hR, RR_G hR, RR_C hR, RR_G0 hR, RR_C0 hR, RR_V hR, RR_O hR, RR_Se hR, RR_S2 hR, RR_L hR, RR_W hR, RR_H hR, RR_hSo hR, RR_hCe hR, RR_hBo hR, RR_hOt hR, RR_hMu hR, RR_Ta hR, RR_Ki hR, RR_Tr hR, RR_Is hR, RR_So hR, RR_Sz hR, RR_El hR, iv_add, iv_sub, iv_mul, iv_neg, iv_zero, iv_ltT, iv_ltF, iv_leT, iv_leF, iv_eqT, iv_eqF, iv_div, rm_iv, tn_iv, ib_iv, lc_lt, lc_le, lc_gt, lc_ge, lc_eq, iv_l, jv_add, jv_sub, jv_mul, jv_zero, if_pos, if_neg, some_cb, some_cbv, ↓nm_eq, ↓reduceIte, true_and, and_true, Bool.true_eq_false, Bool.false_eq_true, not_false_eq_true, not_true_eq_false])
    · clear ha
      refine Both.still hS (r := iv (-1)) ?_ (by simp -implicitDefEqProofs (disch := omega) only [F_b_X12_row_55, f_X12_row_55, k_X12_row_1, k_X12_row_2, F_f_X12_row, k_X12_isShelf_1, F_f_X12_isShelf, q_in1, q_in0, zret1, K91 hF, K92 hF, N92 hF, K93 hF, N93 hF, K94 hF, N94 hF, K95 hF, N95 hF, K96 hF, N96 hF, K97 hF, N97 hF, K98 hF, N98 hF, K99 hF, N99 hF, K100 hF, N100 hF, K101 hF, N101 hF, K102 hF, N102 hF, K103 hF, N103 hF, K104 hF, N104 hF, K105 hF, N105 hF, K106 hF, N106 hF, K107 hF, N107 hF, K108 hF, N108 hF, K109 hF, N109 hF, K110 hF, N110 hF, K111 hF, N111 hF, K112 hF, N112 hF, K113 hF, N113 hF, K114 hF, N114 hF, K115 hF, N115 hF, K116 hF, N116 hF, K117 hF, N117 hF, K118 hF, N118 hF, K119 hF, N119 hF, K120 hF, N120 hF, R91_1 hF, R91_2 hF, R91_3 hF, R91_4 hF, R91_5 hF, R91_6 hF, R91_7 hF, R91_8 hF, R91_9 hF, R91_10 hF, R91_11 hF, R91_12 hF, R91_13 hF, R91_14 hF, R91_15 hF, R91_16 hF, R91_17 hF, R91_18 hF, R91_21 hF, R91_22 hF, R91_24 hF, R91_25 hF, R91_26 hF, R91_27 hF, R91_29 hF, R91_30 hF, R91_31 hF, R91_32 hF, R91_44 hF, RR_M hR, RR_T hR, RR_K hR, RR_Bo hR, RR_Gr hR, RR_Ch hR, RR_Bx hR, RR_G hR, RR_C hR, RR_G0 hR, RR_C0 hR, RR_V hR, RR_O hR, RR_Se hR, RR_S2 hR, RR_L hR, RR_W hR, RR_H hR, RR_hSo hR, RR_hCe hR, RR_hBo hR, RR_hOt hR, RR_hMu hR, RR_Ta hR, RR_Ki hR, RR_Tr hR, RR_Is hR, RR_So hR, RR_Sz hR, RR_El hR, iv_add, iv_sub, iv_mul, iv_neg, iv_zero, iv_ltT, iv_ltF, iv_leT, iv_leF, iv_eqT, iv_eqF, iv_div, rm_iv, tn_iv, ib_iv, lc_lt, lc_le, lc_gt, lc_ge, lc_eq, iv_l, jv_add, jv_sub, jv_mul, jv_zero, if_pos, if_neg, some_cb, some_cbv, ↓nm_eq, ↓reduceIte, true_and, and_true, Bool.true_eq_false, Bool.false_eq_true, not_false_eq_true, not_true_eq_false])
      by_cases z : so < 0
      · exact (by simp -implicitDefEqProofs (disch := omega) only [k_X11_row_1, k_X11_row_2, F_f_X11_row, K3 hF, hsh, ha0, K3 hF, R3_0 hF, R3_1 hF, R3_2 hF, R3_3 hF, R3_4 hF, R3_5 hF, R3_6 hF, R3_7 hF, R3_8 hF, iv_add, iv_sub, iv_mul, iv_neg, iv_zero, iv_ltT, iv_ltF, iv_leT, iv_leF, iv_eqT, iv_eqF, iv_div, rm_iv, tn_iv, ib_iv, lc_lt, lc_le, lc_gt, lc_ge, lc_eq, iv_l, jv_add, jv_sub, jv_mul, jv_zero, if_pos, if_neg, some_cb, some_cbv, ↓nm_eq, ↓reduceIte, true_and, and_true, Bool.true_eq_false, Bool.false_eq_true, not_false_eq_true, not_true_eq_false])
      · exact (by simp -implicitDefEqProofs (disch := omega) only [k_X11_row_1, k_X11_row_2, F_f_X11_row, K3 hF, hsh, ha0, K3 hF, R3_0 hF, R3_1 hF, R3_2 hF, R3_3 hF, R3_4 hF, R3_5 hF, R3_6 hF, R3_7 hF, R3_8 hF, iv_add, iv_sub, iv_mul, iv_neg, iv_zero, iv_ltT, iv_ltF, iv_leT, iv_leF, iv_eqT, iv_eqF, iv_div, rm_iv, tn_iv, ib_iv, lc_lt, lc_le, lc_gt, lc_ge, lc_eq, iv_l, jv_add, jv_sub, jv_mul, jv_zero, if_pos, if_neg, some_cb, some_cbv, ↓nm_eq, ↓reduceIte, true_and, and_true, Bool.true_eq_false, Bool.false_eq_true, not_false_eq_true, not_true_eq_false])
  · exact Both.still hS (r := iv (-1)) (by simp -implicitDefEqProofs (disch := omega) only [k_X11_row_1, k_X11_row_2, F_f_X11_row, K3 hF, c_shelfAt0 t1 t2 hs, K3 hF, R3_0 hF, R3_1 hF, R3_2 hF, R3_3 hF, R3_4 hF, R3_5 hF, R3_6 hF, R3_7 hF, R3_8 hF, iv_add, iv_sub, iv_mul, iv_neg, iv_zero, iv_ltT, iv_ltF, iv_leT, iv_leF, iv_eqT, iv_eqF, iv_div, rm_iv, tn_iv, ib_iv, lc_lt, lc_le, lc_gt, lc_ge, lc_eq, iv_l, jv_add, jv_sub, jv_mul, jv_zero, if_pos, if_neg, some_cb, some_cbv, ↓nm_eq, ↓reduceIte, true_and, and_true, Bool.true_eq_false, Bool.false_eq_true, not_false_eq_true, not_true_eq_false]) (by simp -implicitDefEqProofs (disch := omega) only [F_b_X12_row_55, f_X12_row_55, k_X12_row_1, k_X12_row_2, F_f_X12_row, k_X12_isShelf_1, F_f_X12_isShelf, q_in0, zret0, K91 hF, K92 hF, N92 hF, K93 hF, N93 hF, K94 hF, N94 hF, K95 hF, N95 hF, K96 hF, N96 hF, K97 hF, N97 hF, K98 hF, N98 hF, K99 hF, N99 hF, K100 hF, N100 hF, K101 hF, N101 hF, K102 hF, N102 hF, K103 hF, N103 hF, K104 hF, N104 hF, K105 hF, N105 hF, K106 hF, N106 hF, K107 hF, N107 hF, K108 hF, N108 hF, K109 hF, N109 hF, K110 hF, N110 hF, K111 hF, N111 hF, K112 hF, N112 hF, K113 hF, N113 hF, K114 hF, N114 hF, K115 hF, N115 hF, K116 hF, N116 hF, K117 hF, N117 hF, K118 hF, N118 hF, K119 hF, N119 hF, K120 hF, N120 hF, R91_1 hF, R91_2 hF, R91_3 hF, R91_4 hF, R91_5 hF, R91_6 hF, R91_7 hF, R91_8 hF, R91_9 hF, R91_10 hF, R91_11 hF, R91_12 hF, R91_13 hF, R91_14 hF, R91_15 hF, R91_16 hF, R91_17 hF, R91_18 hF, R91_21 hF, R91_22 hF, R91_24 hF, R91_25 hF, R91_26 hF, R91_27 hF, R91_29 hF, R91_30 hF, R91_31 hF, R91_32 hF, R91_44 hF, RR_M hR, RR_T hR, RR_K hR, RR_Bo hR, RR_Gr hR, RR_Ch hR, RR_Bx hR, RR_G hR, RR_C hR, RR_G0 hR, RR_C0 hR, RR_V hR, RR_O hR, RR_Se hR, RR_S2 hR, RR_L hR, RR_W hR, RR_H hR, RR_hSo hR, RR_hCe hR, RR_hBo hR, RR_hOt hR, RR_hMu hR, RR_Ta hR, RR_Ki hR, RR_Tr hR, RR_Is hR, RR_So hR, RR_Sz hR, RR_El hR, iv_add, iv_sub, iv_mul, iv_neg, iv_zero, iv_ltT, iv_ltF, iv_leT, iv_leF, iv_eqT, iv_eqF, iv_div, rm_iv, tn_iv, ib_iv, lc_lt, lc_le, lc_gt, lc_ge, lc_eq, iv_l, jv_add, jv_sub, jv_mul, jv_zero, if_pos, if_neg, some_cb, some_cbv, ↓nm_eq, ↓reduceIte, true_and, and_true, Bool.true_eq_false, Bool.false_eq_true, not_false_eq_true, not_true_eq_false])
set_option maxRecDepth 100000 in
theorem M_taken (hS : Sim w A h) (x1 x2 : Int32) : Both (f_X11_taken 3 x1 x2) (f_X12_taken 91 x1 x2) h := by
  obtain ⟨s, rfl, t1, t2⟩ := iv_ex x1
  obtain ⟨k, rfl, k1, k2⟩ := iv_ex x2
  have hF := hS.F
  have hR := hS.R
  by_cases hs : 0 ≤ s ∧ s < 6
  · obtain ⟨a, ha, hsh, ha0, sk, sr, sk1, sn1, s2, s3, s1, sd⟩ := sh_facts hS hs.1 hs.2; obtain ⟨⟨y1, y2⟩, ⟨y3, y4⟩, ⟨y5, y6⟩, y7⟩ := hS.W.sh hs.1 hs.2; obtain ⟨hs0, hs1⟩ := id hs; obtain ⟨kw1, kw2⟩ := hS.W.2.2.1
    by_cases hk : 0 ≤ k ∧ k < 7
    · obtain ⟨k3, k4⟩ := id hk
      by_cases he : sIs w s < 0 ∧ sSo w s < 0
      · obtain ⟨he1, he2⟩ := id he
        have ce := c_empty1 hS hs0 hs1 ha he
        clear ha
        exact Both.still hS (r := iv (-11)) (by simp -implicitDefEqProofs (disch := omega) only [k_X11_taken_1, k_X11_taken_2, k_X11_taken_3, F_f_X11_taken, K3 hF, hsh, ha0, sk, ce, K3 hF, R3_0 hF, R3_1 hF, R3_2 hF, R3_3 hF, R3_4 hF, R3_5 hF, R3_6 hF, R3_7 hF, R3_8 hF, iv_add, iv_sub, iv_mul, iv_neg, iv_zero, iv_ltT, iv_ltF, iv_leT, iv_leF, iv_eqT, iv_eqF, iv_div, rm_iv, tn_iv, ib_iv, lc_lt, lc_le, lc_gt, lc_ge, lc_eq, iv_l, jv_add, jv_sub, jv_mul, jv_zero, if_pos, if_neg, some_cb, some_cbv, ↓nm_eq, ↓reduceIte, true_and, and_true, Bool.true_eq_false, Bool.false_eq_true, not_false_eq_true, not_true_eq_false]) (by simp -implicitDefEqProofs (disch := omega) only [F_f_X12_taken_88, k_X12_taken_67_1, F_b_X12_taken_67, f_X12_taken_67, F_f_X12_taken_40, k_X12_taken_1, k_X12_taken_2, F_f_X12_taken, k_X12_isShelf_1, F_f_X12_isShelf, q_in1, zret1, K91 hF, K92 hF, N92 hF, K93 hF, N93 hF, K94 hF, N94 hF, K95 hF, N95 hF, K96 hF, N96 hF, K97 hF, N97 hF, K98 hF, N98 hF, K99 hF, N99 hF, K100 hF, N100 hF, K101 hF, N101 hF, K102 hF, N102 hF, K103 hF, N103 hF, K104 hF, N104 hF, K105 hF, N105 hF, K106 hF, N106 hF, K107 hF, N107 hF, K108 hF, N108 hF, K109 hF, N109 hF, K110 hF, N110 hF, K111 hF, N111 hF, K112 hF, N112 hF, K113 hF, N113 hF, K114 hF, N114 hF, K115 hF, N115 hF, K116 hF, N116 hF, K117 hF, N117 hF, K118 hF, N118 hF, K119 hF, N119 hF, K120 hF, N120 hF, R91_1 hF, R91_2 hF, R91_3 hF, R91_4 hF, R91_5 hF, R91_6 hF, R91_7 hF, R91_8 hF, R91_9 hF, R91_10 hF, R91_11 hF, R91_12 hF, R91_13 hF, R91_14 hF, R91_15 hF, R91_16 hF, R91_17 hF, R91_18 hF, R91_21 hF, R91_22 hF, R91_24 hF, R91_25 hF, R91_26 hF, R91_27 hF, R91_29 hF, R91_30 hF, R91_31 hF, R91_32 hF, R91_44 hF, RR_M hR, RR_T hR, RR_K hR, RR_Bo hR, RR_Gr hR, RR_Ch hR, RR_Bx hR, RR_G hR, RR_C hR, RR_G0 hR, RR_C0 hR, RR_V hR, RR_O hR, RR_Se hR, RR_S2 hR, RR_L hR, RR_W hR, RR_H hR, RR_hSo hR, RR_hCe hR, RR_hBo hR, RR_hOt hR, RR_hMu hR, RR_Ta hR, RR_Ki hR, RR_Tr hR, RR_Is hR, RR_So hR, RR_Sz hR, RR_El hR, iv_add, iv_sub, iv_mul, iv_neg, iv_zero, iv_ltT, iv_ltF, iv_leT, iv_leF, iv_eqT, iv_eqF, iv_div, rm_iv, tn_iv, ib_iv, lc_lt, lc_le, lc_gt, lc_ge, lc_eq, iv_l, jv_add, jv_sub, jv_mul, jv_zero, if_pos, if_neg, some_cb, some_cbv, ↓nm_eq, ↓reduceIte, true_and, and_true, Bool.true_eq_false, Bool.false_eq_true, not_false_eq_true, not_true_eq_false])
      · have ce := c_empty0 hS hs0 hs1 ha he
        clear ha
        by_cases z : sIs w s < 0
        · rw [if_pos z] at s1
          exact Both.still hS (r := iv (-12)) (by simp -implicitDefEqProofs (disch := omega) only [k_X11_taken_1, k_X11_taken_2, k_X11_taken_3, F_f_X11_taken, K3 hF, hsh, ha0, sk, ce, s1, K3 hF, R3_0 hF, R3_1 hF, R3_2 hF, R3_3 hF, R3_4 hF, R3_5 hF, R3_6 hF, R3_7 hF, R3_8 hF, iv_add, iv_sub, iv_mul, iv_neg, iv_zero, iv_ltT, iv_ltF, iv_leT, iv_leF, iv_eqT, iv_eqF, iv_div, rm_iv, tn_iv, ib_iv, lc_lt, lc_le, lc_gt, lc_ge, lc_eq, iv_l, jv_add, jv_sub, jv_mul, jv_zero, if_pos, if_neg, some_cb, some_cbv, ↓nm_eq, ↓reduceIte, true_and, and_true, Bool.true_eq_false, Bool.false_eq_true, not_false_eq_true, not_true_eq_false]) (by simp -implicitDefEqProofs (disch := omega) only [F_f_X12_taken_88, k_X12_taken_67_1, F_b_X12_taken_67, f_X12_taken_67, F_f_X12_taken_40, k_X12_taken_1, k_X12_taken_2, F_f_X12_taken, k_X12_isShelf_1, F_f_X12_isShelf, q_in1, zret1, K91 hF, K92 hF, N92 hF, K93 hF, N93 hF, K94 hF, N94 hF, K95 hF, N95 hF, K96 hF, N96 hF, K97 hF, N97 hF, K98 hF, N98 hF, K99 hF, N99 hF, K100 hF, N100 hF, K101 hF, N101 hF, K102 hF, N102 hF, K103 hF, N103 hF, K104 hF, N104 hF, K105 hF, N105 hF, K106 hF, N106 hF, K107 hF, N107 hF, K108 hF, N108 hF, K109 hF, N109 hF, K110 hF, N110 hF, K111 hF, N111 hF, K112 hF, N112 hF, K113 hF, N113 hF, K114 hF, N114 hF, K115 hF, N115 hF, K116 hF, N116 hF, K117 hF, N117 hF, K118 hF, N118 hF, K119 hF, N119 hF, K120 hF, N120 hF, R91_1 hF, R91_2 hF, R91_3 hF, R91_4 hF, R91_5 hF, R91_6 hF, R91_7 hF, R91_8 hF, R91_9 hF, R91_10 hF, R91_11 hF, R91_12 hF, R91_13 hF, R91_14 hF, R91_15 hF, R91_16 hF, R91_17 hF, R91_18 hF, R91_21 hF, R91_22 hF, R91_24 hF, R91_25 hF, R91_26 hF, R91_27 hF, R91_29 hF, R91_30 hF, R91_31 hF, R91_32 hF, R91_44 hF, RR_M hR, RR_T hR, RR_K hR, RR_Bo hR, RR_Gr hR, RR_Ch hR, RR_Bx hR, RR_G hR, RR_C hR, RR_G0 hR, RR_C0 hR, RR_V hR, RR_O hR, RR_Se hR, RR_S2 hR, RR_L hR, RR_W hR, RR_H hR, RR_hSo hR, RR_hCe hR, RR_hBo hR, RR_hOt hR, RR_hMu hR, RR_Ta hR, RR_Ki hR, RR_Tr hR, RR_Is hR, RR_So hR, RR_Sz hR, RR_El hR, iv_add, iv_sub, iv_mul, iv_neg, iv_zero, iv_ltT, iv_ltF, iv_leT, iv_leF, iv_eqT, iv_eqF, iv_div, rm_iv, tn_iv, ib_iv, lc_lt, lc_le, lc_gt, lc_ge, lc_eq, iv_l, jv_add, jv_sub, jv_mul, jv_zero, if_pos, if_neg, some_cb, some_cbv, ↓nm_eq, ↓reduceIte, true_and, and_true, Bool.true_eq_false, Bool.false_eq_true, not_false_eq_true, not_true_eq_false])
        · rw [if_neg z] at s1
          have kA := eq_false (hS.kA (k := sIs w s) (by omega) (by omega))
          obtain ⟨o1, o2, o3, o4⟩ := hS.K (k := sIs w s) (by omega) (by omega)
          obtain ⟨r1, r2⟩ := hS.W.2.2.2.2.1 (sIs w s) (by omega) (by omega)
          have cu := c_under (h := h) r1 (by omega) k3 k4
          have qt := q_taken (h := h) r1 (by omega) k3 k4
          have zso : sSo w s < 0 := by omega
          by_cases u : undZ (wKi w (sIs w s)) k = 1
          · rw [u] at cu
            rw [if_pos u] at qt
            exact Both.still hS (r := iv (wKi w (sIs w s))) (by simp -implicitDefEqProofs (disch := omega) only [k_X11_taken_1, k_X11_taken_2, k_X11_taken_3, F_f_X11_taken, K3 hF, hsh, ha0, sk, ce, s1, kA, o1, o3, k_X2_isUnder_1, F_f_X2_isUnder, cu, zret1, K3 hF, R3_0 hF, R3_1 hF, R3_2 hF, R3_3 hF, R3_4 hF, R3_5 hF, R3_6 hF, R3_7 hF, R3_8 hF, iv_add, iv_sub, iv_mul, iv_neg, iv_zero, iv_ltT, iv_ltF, iv_leT, iv_leF, iv_eqT, iv_eqF, iv_div, rm_iv, tn_iv, ib_iv, lc_lt, lc_le, lc_gt, lc_ge, lc_eq, iv_l, jv_add, jv_sub, jv_mul, jv_zero, if_pos, if_neg, some_cb, some_cbv, ↓nm_eq, ↓reduceIte, true_and, and_true, Bool.true_eq_false, Bool.false_eq_true, not_false_eq_true, not_true_eq_false]) (by simp -implicitDefEqProofs (disch := omega) only [F_f_X12_taken_40, k_X12_taken_1, k_X12_taken_2, F_f_X12_taken, k_X12_isShelf_1, F_f_X12_isShelf, q_in1, zret1, qt, K91 hF, K92 hF, N92 hF, K93 hF, N93 hF, K94 hF, N94 hF, K95 hF, N95 hF, K96 hF, N96 hF, K97 hF, N97 hF, K98 hF, N98 hF, K99 hF, N99 hF, K100 hF, N100 hF, K101 hF, N101 hF, K102 hF, N102 hF, K103 hF, N103 hF, K104 hF, N104 hF, K105 hF, N105 hF, K106 hF, N106 hF, K107 hF, N107 hF, K108 hF, N108 hF, K109 hF, N109 hF, K110 hF, N110 hF, K111 hF, N111 hF, K112 hF, N112 hF, K113 hF, N113 hF, K114 hF, N114 hF, K115 hF, N115 hF, K116 hF, N116 hF, K117 hF, N117 hF, K118 hF, N118 hF, K119 hF, N119 hF, K120 hF, N120 hF, R91_1 hF, R91_2 hF, R91_3 hF, R91_4 hF, R91_5 hF, R91_6 hF, R91_7 hF, R91_8 hF, R91_9 hF, R91_10 hF, R91_11 hF, R91_12 hF, R91_13 hF, R91_14 hF, R91_15 hF, R91_16 hF, R91_17 hF, R91_18 hF, R91_21 hF, R91_22 hF, R91_24 hF, R91_25 hF, R91_26 hF, R91_27 hF, R91_29 hF, R91_30 hF, R91_31 hF, R91_32 hF, R91_44 hF, RR_M hR, RR_T hR, RR_K hR, RR_Bo hR, RR_Gr hR, RR_Ch hR, RR_Bx hR, RR_G hR, RR_C hR, RR_G0 hR, RR_C0 hR, RR_V hR, RR_O hR, RR_Se hR, RR_S2 hR, RR_L hR, RR_W hR, RR_H hR, RR_hSo hR, RR_hCe hR, RR_hBo hR, RR_hOt hR, RR_hMu hR, RR_Ta hR, RR_Ki hR, RR_Tr hR, RR_Is hR, RR_So hR, RR_Sz hR, RR_El hR, iv_add, iv_sub, iv_mul, iv_neg, iv_zero, iv_ltT, iv_ltF, iv_leT, iv_leF, iv_eqT, iv_eqF, iv_div, rm_iv, tn_iv, ib_iv, lc_lt, lc_le, lc_gt, lc_ge, lc_eq, iv_l, jv_add, jv_sub, jv_mul, jv_zero, if_pos, if_neg, some_cb, some_cbv, ↓nm_eq, ↓reduceIte, true_and, and_true, Bool.true_eq_false, Bool.false_eq_true, not_false_eq_true, not_true_eq_false])
          · have u0 : undZ (wKi w (sIs w s)) k = 0 := by
              unfold undZ at u ⊢
              by_cases c : wKi w (sIs w s) = k ∨ k = 0 ∨ (k = 1 ∧ 2 ≤ wKi w (sIs w s) ∧ wKi w (sIs w s) ≤ 5) ∨ (k = 2 ∧ wKi w (sIs w s) = 3)
              · rw [if_pos c] at u; exact absurd rfl u
              · rw [if_neg c]
            rw [u0] at cu
            rw [if_neg u] at qt
            exact Both.still hS (r := iv (-12)) (by simp -implicitDefEqProofs (disch := omega) only [k_X11_taken_1, k_X11_taken_2, k_X11_taken_3, F_f_X11_taken, K3 hF, hsh, ha0, sk, ce, s1, kA, o1, o3, k_X2_isUnder_1, F_f_X2_isUnder, cu, zret0, K3 hF, R3_0 hF, R3_1 hF, R3_2 hF, R3_3 hF, R3_4 hF, R3_5 hF, R3_6 hF, R3_7 hF, R3_8 hF, iv_add, iv_sub, iv_mul, iv_neg, iv_zero, iv_ltT, iv_ltF, iv_leT, iv_leF, iv_eqT, iv_eqF, iv_div, rm_iv, tn_iv, ib_iv, lc_lt, lc_le, lc_gt, lc_ge, lc_eq, iv_l, jv_add, jv_sub, jv_mul, jv_zero, if_pos, if_neg, some_cb, some_cbv, ↓nm_eq, ↓reduceIte, true_and, and_true, Bool.true_eq_false, Bool.false_eq_true, not_false_eq_true, not_true_eq_false]) (by simp -implicitDefEqProofs (disch := omega) only [F_f_X12_taken_40, k_X12_taken_1, k_X12_taken_2, F_f_X12_taken, k_X12_isShelf_1, F_f_X12_isShelf, q_in1, zret1, qt, K91 hF, K92 hF, N92 hF, K93 hF, N93 hF, K94 hF, N94 hF, K95 hF, N95 hF, K96 hF, N96 hF, K97 hF, N97 hF, K98 hF, N98 hF, K99 hF, N99 hF, K100 hF, N100 hF, K101 hF, N101 hF, K102 hF, N102 hF, K103 hF, N103 hF, K104 hF, N104 hF, K105 hF, N105 hF, K106 hF, N106 hF, K107 hF, N107 hF, K108 hF, N108 hF, K109 hF, N109 hF, K110 hF, N110 hF, K111 hF, N111 hF, K112 hF, N112 hF, K113 hF, N113 hF, K114 hF, N114 hF, K115 hF, N115 hF, K116 hF, N116 hF, K117 hF, N117 hF, K118 hF, N118 hF, K119 hF, N119 hF, K120 hF, N120 hF, R91_1 hF, R91_2 hF, R91_3 hF, R91_4 hF, R91_5 hF, R91_6 hF, R91_7 hF, R91_8 hF, R91_9 hF, R91_10 hF, R91_11 hF, R91_12 hF, R91_13 hF, R91_14 hF, R91_15 hF, R91_16 hF, R91_17 hF, R91_18 hF, R91_21 hF, R91_22 hF, R91_24 hF, R91_25 hF, R91_26 hF, R91_27 hF, R91_29 hF, R91_30 hF, R91_31 hF, R91_32 hF, R91_44 hF, RR_M hR, RR_T hR, RR_K hR, RR_Bo hR, RR_Gr hR, RR_Ch hR, RR_Bx hR, RR_G hR, RR_C hR, RR_G0 hR, RR_C0 hR, RR_V hR, RR_O hR, RR_Se hR, RR_S2 hR, RR_L hR, RR_W hR, RR_H hR, RR_hSo hR, RR_hCe hR, RR_hBo hR, RR_hOt hR, RR_hMu hR, RR_Ta hR, RR_Ki hR, RR_Tr hR, RR_Is hR, RR_So hR, RR_Sz hR, RR_El hR, iv_add, iv_sub, iv_mul, iv_neg, iv_zero, iv_ltT, iv_ltF, iv_leT, iv_leF, iv_eqT, iv_eqF, iv_div, rm_iv, tn_iv, ib_iv, lc_lt, lc_le, lc_gt, lc_ge, lc_eq, iv_l, jv_add, jv_sub, jv_mul, jv_zero, if_pos, if_neg, some_cb, some_cbv, ↓nm_eq, ↓reduceIte, true_and, and_true, Bool.true_eq_false, Bool.false_eq_true, not_false_eq_true, not_true_eq_false])
    · clear ha
      refine Both.still hS (r := iv (-1)) ?_ (by simp -implicitDefEqProofs (disch := omega) only [F_f_X12_taken_88, k_X12_taken_67_1, F_b_X12_taken_67, f_X12_taken_67, F_f_X12_taken_40, k_X12_taken_1, k_X12_taken_2, F_f_X12_taken, k_X12_isShelf_1, F_f_X12_isShelf, q_in1, q_in0, zret1, K91 hF, K92 hF, N92 hF, K93 hF, N93 hF, K94 hF, N94 hF, K95 hF, N95 hF, K96 hF, N96 hF, K97 hF, N97 hF, K98 hF, N98 hF, K99 hF, N99 hF, K100 hF, N100 hF, K101 hF, N101 hF, K102 hF, N102 hF, K103 hF, N103 hF, K104 hF, N104 hF, K105 hF, N105 hF, K106 hF, N106 hF, K107 hF, N107 hF, K108 hF, N108 hF, K109 hF, N109 hF, K110 hF, N110 hF, K111 hF, N111 hF, K112 hF, N112 hF, K113 hF, N113 hF, K114 hF, N114 hF, K115 hF, N115 hF, K116 hF, N116 hF, K117 hF, N117 hF, K118 hF, N118 hF, K119 hF, N119 hF, K120 hF, N120 hF, R91_1 hF, R91_2 hF, R91_3 hF, R91_4 hF, R91_5 hF, R91_6 hF, R91_7 hF, R91_8 hF, R91_9 hF, R91_10 hF, R91_11 hF, R91_12 hF, R91_13 hF, R91_14 hF, R91_15 hF, R91_16 hF, R91_17 hF, R91_18 hF, R91_21 hF, R91_22 hF, R91_24 hF, R91_25 hF, R91_26 hF, R91_27 hF, R91_29 hF, R91_30 hF, R91_31 hF, R91_32 hF, R91_44 hF, RR_M hR, RR_T hR, RR_K hR, RR_Bo hR, RR_Gr hR, RR_Ch hR, RR_Bx hR, RR_G hR, RR_C hR, RR_G0 hR, RR_C0 hR, RR_V hR, RR_O hR, RR_Se hR, RR_S2 hR, RR_L hR, RR_W hR, RR_H hR, RR_hSo hR, RR_hCe hR, RR_hBo hR, RR_hOt hR, RR_hMu hR, RR_Ta hR, RR_Ki hR, RR_Tr hR, RR_Is hR, RR_So hR, RR_Sz hR, RR_El hR, iv_add, iv_sub, iv_mul, iv_neg, iv_zero, iv_ltT, iv_ltF, iv_leT, iv_leF, iv_eqT, iv_eqF, iv_div, rm_iv, tn_iv, ib_iv, lc_lt, lc_le, lc_gt, lc_ge, lc_eq, iv_l, jv_add, jv_sub, jv_mul, jv_zero, if_pos, if_neg, some_cb, some_cbv, ↓nm_eq, ↓reduceIte, true_and, and_true, Bool.true_eq_false, Bool.false_eq_true, not_false_eq_true, not_true_eq_false])
      by_cases z : k < 0
      · exact (by simp -implicitDefEqProofs (disch := omega) only [k_X11_taken_1, k_X11_taken_2, k_X11_taken_3, F_f_X11_taken, K3 hF, hsh, ha0, K3 hF, R3_0 hF, R3_1 hF, R3_2 hF, R3_3 hF, R3_4 hF, R3_5 hF, R3_6 hF, R3_7 hF, R3_8 hF, iv_add, iv_sub, iv_mul, iv_neg, iv_zero, iv_ltT, iv_ltF, iv_leT, iv_leF, iv_eqT, iv_eqF, iv_div, rm_iv, tn_iv, ib_iv, lc_lt, lc_le, lc_gt, lc_ge, lc_eq, iv_l, jv_add, jv_sub, jv_mul, jv_zero, if_pos, if_neg, some_cb, some_cbv, ↓nm_eq, ↓reduceIte, true_and, and_true, Bool.true_eq_false, Bool.false_eq_true, not_false_eq_true, not_true_eq_false])
      · exact (by simp -implicitDefEqProofs (disch := omega) only [k_X11_taken_1, k_X11_taken_2, k_X11_taken_3, F_f_X11_taken, K3 hF, hsh, ha0, K3 hF, R3_0 hF, R3_1 hF, R3_2 hF, R3_3 hF, R3_4 hF, R3_5 hF, R3_6 hF, R3_7 hF, R3_8 hF, iv_add, iv_sub, iv_mul, iv_neg, iv_zero, iv_ltT, iv_ltF, iv_leT, iv_leF, iv_eqT, iv_eqF, iv_div, rm_iv, tn_iv, ib_iv, lc_lt, lc_le, lc_gt, lc_ge, lc_eq, iv_l, jv_add, jv_sub, jv_mul, jv_zero, if_pos, if_neg, some_cb, some_cbv, ↓nm_eq, ↓reduceIte, true_and, and_true, Bool.true_eq_false, Bool.false_eq_true, not_false_eq_true, not_true_eq_false])
  · exact Both.still hS (r := iv (-1)) (by simp -implicitDefEqProofs (disch := omega) only [k_X11_taken_1, k_X11_taken_2, k_X11_taken_3, F_f_X11_taken, K3 hF, c_shelfAt0 t1 t2 hs, K3 hF, R3_0 hF, R3_1 hF, R3_2 hF, R3_3 hF, R3_4 hF, R3_5 hF, R3_6 hF, R3_7 hF, R3_8 hF, iv_add, iv_sub, iv_mul, iv_neg, iv_zero, iv_ltT, iv_ltF, iv_leT, iv_leF, iv_eqT, iv_eqF, iv_div, rm_iv, tn_iv, ib_iv, lc_lt, lc_le, lc_gt, lc_ge, lc_eq, iv_l, jv_add, jv_sub, jv_mul, jv_zero, if_pos, if_neg, some_cb, some_cbv, ↓nm_eq, ↓reduceIte, true_and, and_true, Bool.true_eq_false, Bool.false_eq_true, not_false_eq_true, not_true_eq_false]) (by simp -implicitDefEqProofs (disch := omega) only [F_f_X12_taken_88, k_X12_taken_67_1, F_b_X12_taken_67, f_X12_taken_67, F_f_X12_taken_40, k_X12_taken_1, k_X12_taken_2, F_f_X12_taken, k_X12_isShelf_1, F_f_X12_isShelf, q_in0, zret0, K91 hF, K92 hF, N92 hF, K93 hF, N93 hF, K94 hF, N94 hF, K95 hF, N95 hF, K96 hF, N96 hF, K97 hF, N97 hF, K98 hF, N98 hF, K99 hF, N99 hF, K100 hF, N100 hF, K101 hF, N101 hF, K102 hF, N102 hF, K103 hF, N103 hF, K104 hF, N104 hF, K105 hF, N105 hF, K106 hF, N106 hF, K107 hF, N107 hF, K108 hF, N108 hF, K109 hF, N109 hF, K110 hF, N110 hF, K111 hF, N111 hF, K112 hF, N112 hF, K113 hF, N113 hF, K114 hF, N114 hF, K115 hF, N115 hF, K116 hF, N116 hF, K117 hF, N117 hF, K118 hF, N118 hF, K119 hF, N119 hF, K120 hF, N120 hF, R91_1 hF, R91_2 hF, R91_3 hF, R91_4 hF, R91_5 hF, R91_6 hF, R91_7 hF, R91_8 hF, R91_9 hF, R91_10 hF, R91_11 hF, R91_12 hF, R91_13 hF, R91_14 hF, R91_15 hF, R91_16 hF, R91_17 hF, R91_18 hF, R91_21 hF, R91_22 hF, R91_24 hF, R91_25 hF, R91_26 hF, R91_27 hF, R91_29 hF, R91_30 hF, R91_31 hF, R91_32 hF, R91_44 hF, RR_M hR, RR_T hR, RR_K hR, RR_Bo hR, RR_Gr hR, RR_Ch hR, RR_Bx hR, RR_G hR, RR_C hR, RR_G0 hR, RR_C0 hR, RR_V hR, RR_O hR, RR_Se hR, RR_S2 hR, RR_L hR, RR_W hR, RR_H hR, RR_hSo hR, RR_hCe hR, RR_hBo hR, RR_hOt hR, RR_hMu hR, RR_Ta hR, RR_Ki hR, RR_Tr hR, RR_Is hR, RR_So hR, RR_Sz hR, RR_El hR, iv_add, iv_sub, iv_mul, iv_neg, iv_zero, iv_ltT, iv_ltF, iv_leT, iv_leF, iv_eqT, iv_eqF, iv_div, rm_iv, tn_iv, ib_iv, lc_lt, lc_le, lc_gt, lc_ge, lc_eq, iv_l, jv_add, jv_sub, jv_mul, jv_zero, if_pos, if_neg, some_cb, some_cbv, ↓nm_eq, ↓reduceIte, true_and, and_true, Bool.true_eq_false, Bool.false_eq_true, not_false_eq_true, not_true_eq_false])
end Q
