/-! a line through dots: sums of steps, and halves that no step passes -/
def liT (v : Int → Int) (f : Int → Int) : Nat → Int
  | 0 => 0
  | j + 1 => if 1 ≤ v j then liT v f j + f j else liT v f j
theorem mul_rng {a b A B : Int} (a0 : -A ≤ a) (a1 : a ≤ A) (b0 : -B ≤ b) (b1 : b ≤ B) : -(A * B) ≤ a * b ∧ a * b ≤ A * B := by
  have h1 : 0 ≤ (A - a) * (B + b) := Int.mul_nonneg (by omega) (by omega)
  have h2 : 0 ≤ (A + a) * (B - b) := Int.mul_nonneg (by omega) (by omega)
  have h3 : 0 ≤ (A - a) * (B - b) := Int.mul_nonneg (by omega) (by omega)
  have h4 : 0 ≤ (A + a) * (B + b) := Int.mul_nonneg (by omega) (by omega)
  constructor
  · grind
  · grind
section L
variable {v f g : Int → Int}
theorem liT_rng {B : Int} (hB : 0 ≤ B) (j : Nat) : (∀ x : Nat, x < j → 0 ≤ f x ∧ f x ≤ B) → 0 ≤ liT v f j ∧ liT v f j ≤ B * j := by
  induction j with
  | zero => exact fun _ => ⟨Int.le_refl _, by show (0 : Int) ≤ B * ((0 : Nat) : Int); simp⟩
  | succ j ih =>
    intro hf
    have ih := ih (fun x hx => hf x (by omega))
    have e : B * ((j + 1 : Nat) : Int) = B * j + B := by rw [show ((j + 1 : Nat) : Int) = (j : Int) + 1 by omega, Int.mul_add, Int.mul_one]
    have := hf j (by omega)
    rw [e]
    show 0 ≤ (if 1 ≤ v j then liT v f j + f j else liT v f j) ∧ (if 1 ≤ v j then liT v f j + f j else liT v f j) ≤ B * j + B
    by_cases q : 1 ≤ v j
    · rw [if_pos q]; omega
    · rw [if_neg q]; omega
theorem liT_sq (y : Int) (j : Nat) : 0 ≤ liT v (fun x => f x * f x) j - 2 * y * liT v f j + y * y * liT v (fun _ => 1) j := by
  induction j with
  | zero => show 0 ≤ 0 - 2 * y * 0 + y * y * 0; simp
  | succ j ih =>
    show 0 ≤ (if 1 ≤ v j then liT v (fun x => f x * f x) j + f j * f j else liT v (fun x => f x * f x) j) - 2 * y * (if 1 ≤ v j then liT v f j + f j else liT v f j) + y * y * (if 1 ≤ v j then liT v (fun _ => 1) j + 1 else liT v (fun _ => 1) j)
    by_cases q : 1 ≤ v j
    · rw [if_pos q, if_pos q, if_pos q]
      have h : 0 ≤ (f j - y) * (f j - y) := by
        by_cases z : 0 ≤ f j - y
        · exact Int.mul_nonneg z z
        · rw [← Int.neg_mul_neg]; exact Int.mul_nonneg (by omega) (by omega)
      grind
    · rw [if_neg q, if_neg q, if_neg q]; exact ih
theorem liT_cs0 (j : Nat) : 0 ≤ liT v (fun _ => 1) j * liT v (fun x => f x * f x) j - liT v f j * liT v f j := by
  induction j with
  | zero => show 0 ≤ (0 : Int) * 0 - 0 * 0; simp
  | succ j ih =>
    show 0 ≤ (if 1 ≤ v j then liT v (fun _ => 1) j + 1 else liT v (fun _ => 1) j) * (if 1 ≤ v j then liT v (fun x => f x * f x) j + f j * f j else liT v (fun x => f x * f x) j) - (if 1 ≤ v j then liT v f j + f j else liT v f j) * (if 1 ≤ v j then liT v f j + f j else liT v f j)
    by_cases q : 1 ≤ v j
    · rw [if_pos q, if_pos q, if_pos q]
      have h := liT_sq (v := v) (f := f) (f j) j
      grind
    · rw [if_neg q, if_neg q, if_neg q]; exact ih
theorem liT_lin (p q : Int) (j : Nat) : liT v (fun x => p * f x + q * g x) j = p * liT v f j + q * liT v g j := by
  induction j with
  | zero => show (0 : Int) = p * 0 + q * 0; simp
  | succ j ih =>
    show (if 1 ≤ v j then liT v (fun x => p * f x + q * g x) j + (p * f j + q * g j) else liT v (fun x => p * f x + q * g x) j) = p * (if 1 ≤ v j then liT v f j + f j else liT v f j) + q * (if 1 ≤ v j then liT v g j + g j else liT v g j)
    by_cases z : 1 ≤ v j
    · rw [if_pos z, if_pos z, if_pos z, ih]; grind
    · rw [if_neg z, if_neg z, if_neg z, ih]
theorem liT_lin2 (p q : Int) (j : Nat) : liT v (fun x => (p * f x + q * g x) * (p * f x + q * g x)) j = p * p * liT v (fun x => f x * f x) j + 2 * p * q * liT v (fun x => f x * g x) j + q * q * liT v (fun x => g x * g x) j := by
  induction j with
  | zero => show (0 : Int) = p * p * 0 + 2 * p * q * 0 + q * q * 0; simp
  | succ j ih =>
    show (if 1 ≤ v j then liT v (fun x => (p * f x + q * g x) * (p * f x + q * g x)) j + (p * f j + q * g j) * (p * f j + q * g j) else liT v (fun x => (p * f x + q * g x) * (p * f x + q * g x)) j) = p * p * (if 1 ≤ v j then liT v (fun x => f x * f x) j + f j * f j else liT v (fun x => f x * f x) j) + 2 * p * q * (if 1 ≤ v j then liT v (fun x => f x * g x) j + f j * g j else liT v (fun x => f x * g x) j) + q * q * (if 1 ≤ v j then liT v (fun x => g x * g x) j + g j * g j else liT v (fun x => g x * g x) j)
    by_cases z : 1 ≤ v j
    · rw [if_pos z, if_pos z, if_pos z, if_pos z, ih]; grind
    · rw [if_neg z, if_neg z, if_neg z, if_neg z, ih]
theorem liT_cs (j : Nat) (hp : 0 < liT v (fun _ => 1) j * liT v (fun x => f x * f x) j - liT v f j * liT v f j) : (liT v (fun _ => 1) j * liT v (fun x => f x * g x) j - liT v f j * liT v g j) * (liT v (fun _ => 1) j * liT v (fun x => f x * g x) j - liT v f j * liT v g j) ≤ (liT v (fun _ => 1) j * liT v (fun x => f x * f x) j - liT v f j * liT v f j) * (liT v (fun _ => 1) j * liT v (fun x => g x * g x) j - liT v g j * liT v g j) := by
  have h := liT_cs0 (v := v) (f := fun x => (liT v (fun _ => 1) j * liT v (fun x => f x * g x) j - liT v f j * liT v g j) * f x + (-(liT v (fun _ => 1) j * liT v (fun x => f x * f x) j - liT v f j * liT v f j)) * g x) j
  rw [liT_lin2, liT_lin] at h
  generalize liT v (fun _ => 1) j = n at *
  generalize liT v (fun x => f x * f x) j = a at *
  generalize liT v (fun x => f x * g x) j = b at *
  generalize liT v (fun x => g x * g x) j = c at *
  generalize liT v f j = s at *
  generalize liT v g j = t at *
  have e : n * ((n * b - s * t) * (n * b - s * t) * a + 2 * (n * b - s * t) * (-(n * a - s * s)) * b + (-(n * a - s * s)) * (-(n * a - s * s)) * c) - ((n * b - s * t) * s + (-(n * a - s * s)) * t) * ((n * b - s * t) * s + (-(n * a - s * s)) * t) = (n * a - s * s) * ((n * a - s * s) * (n * c - t * t) - (n * b - s * t) * (n * b - s * t)) := by
    grind
  rw [e] at h
  have := Int.nonneg_of_mul_nonneg_right h hp
  omega
end L
theorem jv_divn {c b : Int} (h1 : 0 ≤ c) (h2 : c ≤ 9223372036854775807) (h3 : 0 < b) (h4 : b ≤ 9223372036854775807) : jv (-c) / jv b = jv (-(c / b)) := by
  apply Int64.toInt_inj.mp
  have hq : c / b ≤ c := Int.ediv_le_self _ h1
  have h0 : 0 ≤ c / b := Int.ediv_nonneg h1 (by omega)
  rw [Int64.toInt_div_of_ne_right _ _ (by intro e; have := congrArg Int64.toInt e; rw [jv_int (by omega) h4] at this; simp at this; omega), jv_int (by omega) (by omega), jv_int (by omega) h4, jv_int (by omega) (by omega), Int.neg_tdiv, Int.tdiv_eq_ediv_of_nonneg h1]
theorem neg_fl {c b : Int} (h1 : 0 ≤ c) (h3 : 0 < b) : (-c) / b = if c % b = 0 then -(c / b) else -(c / b) - 1 := by
  have e := Int.mul_ediv_add_emod c b
  have r0 := Int.emod_nonneg c (show b ≠ 0 by omega)
  have r1 := Int.emod_lt_of_pos c h3
  by_cases q : c % b = 0
  · rw [if_pos q]
    rw [q, Int.add_zero] at e
    rw [show -c = b * (-(c / b)) by rw [Int.mul_neg, e]]
    exact Int.mul_ediv_cancel_left _ (by omega)
  · rw [if_neg q]
    have : -c = (b - c % b) + b * (-(c / b) - 1) := by
      have : b * (-(c / b) - 1) = -(b * (c / b)) - b := by rw [Int.mul_sub, Int.mul_neg, Int.mul_one]
      omega
    rw [this, Int.add_mul_ediv_left _ _ (show b ≠ 0 by omega), Int.ediv_eq_zero_of_lt (by omega) (by omega)]
    omega
theorem rm_jvn {c b : Int} (h1 : 0 ≤ c) (h2 : c ≤ 9223372036854775807) (h3 : 0 < b) (h4 : b ≤ 9223372036854775807) : rmJ (jv (-c)) (jv b) = jv (-(c % b)) := by
  unfold rmJ
  rw [jv_divn h1 h2 h3 h4, jv_mul, jv_sub]
  congr 1
  have e := Int.mul_ediv_add_emod c b
  rw [Int.neg_mul, Int.mul_comm]
  omega
theorem xor_sign (x y : Int64) : (x ^^^ y < 0) = ((x < 0) ≠ (y < 0)) := by
  have key : ∀ z : Int64, (z < 0) = (z.toBitVec.msb = true) := fun z => by
    rw [Int64.lt_iff_toBitVec_slt]
    show (z.toBitVec.slt 0#64 = true) = _
    rw [BitVec.slt_zero_eq_msb]
  rw [key, key, key, Int64.toBitVec_xor, BitVec.msb_xor]
  cases x.toBitVec.msb <;> cases y.toBitVec.msb <;> simp
set_option maxRecDepth 100000 in
theorem c_floor {h : AH} {a b : Int} (a0 : -1000000000000000000 ≤ a) (a1 : a ≤ 1000000000000000000) (b0 : 0 < b) (b1 : b ≤ 1000000000000000000) : f_J9_floorDiv_f86c9 (jv a) (jv b) h = some (jv (a / b), h) := by
  obtain ⟨z, ez, z0, z1⟩ := jv_ex (jv a ^^^ jv b)
  have xs := xor_sign (jv a) (jv b)
  rw [ez, jv_zero, jv_lt (by omega) (by omega) (by omega) (by omega), jv_lt (by omega) (by omega) (by omega) (by omega), jv_lt (by omega) (by omega) (by omega) (by omega)] at xs
  have xs' : z < 0 ↔ ((a < 0) ≠ (b < 0)) := Iff.of_eq xs
  by_cases q : 0 ≤ a
  · have hz : 0 ≤ z := by
      by_cases y : z < 0
      · exact absurd ((eq_false (show ¬ a < 0 by omega)).trans (eq_false (show ¬ b < 0 by omega)).symm) (xs'.1 y)
      · omega
    have d := jv_div q (by omega) b0 (by omega)
    simp -implicitDefEqProofs (disch := omega) only [F_f_J9_floorDiv_f86c9, ez, d, jv_eqF, lc_lt, lc_le, lc_gt, lc_ge, lc_eq, iv_l, jv_add, jv_sub, jv_mul, jv_zero, if_pos, if_neg, iv_add, iv_sub, iv_mul, iv_neg, iv_zero, iv_ltT, iv_ltF, iv_leT, iv_leF, iv_eqT, iv_eqF, iv_div, rm_iv, tn_iv, ib_iv, some_cb, some_cbv, ↓nm_eq, ↓reduceIte, true_and, and_true, Bool.true_eq_false, Bool.false_eq_true, not_false_eq_true, not_true_eq_false]
  · obtain ⟨c, rfl⟩ : ∃ c, a = -c := ⟨-a, by omega⟩
    have hz : z < 0 := xs'.2 (by
      rw [eq_true (show -c < 0 by omega), eq_false (show ¬ b < 0 by omega)]
      exact true_ne_false)
    have d := jv_divn (c := c) (by omega) (by omega) b0 (by omega)
    have f := neg_fl (c := c) (by omega) b0
    have e := Int.mul_ediv_add_emod c b
    have r0 := Int.emod_nonneg c (show b ≠ 0 by omega)
    have r1 := Int.emod_lt_of_pos c b0
    have hm : -(c / b) * b = -(b * (c / b)) := by rw [Int.neg_mul, Int.mul_comm]
    rw [f]
    by_cases p : c % b = 0
    · rw [if_pos p]
      have e2 : -(c / b) * b = -c := by omega
      simp -implicitDefEqProofs (disch := omega) only [F_f_J9_floorDiv_f86c9, ez, d, e2, jv_eqF, lc_lt, lc_le, lc_gt, lc_ge, lc_eq, iv_l, jv_add, jv_sub, jv_mul, jv_zero, if_pos, if_neg, iv_add, iv_sub, iv_mul, iv_neg, iv_zero, iv_ltT, iv_ltF, iv_leT, iv_leF, iv_eqT, iv_eqF, iv_div, rm_iv, tn_iv, ib_iv, some_cb, some_cbv, ↓nm_eq, ↓reduceIte, true_and, and_true, Bool.true_eq_false, Bool.false_eq_true, not_false_eq_true, not_true_eq_false]
    · rw [if_neg p]
      have e2 : -(c / b) * b ≠ -c := by omega
      have e3 : -1000000000000000000 ≤ -(c / b) * b ∧ -(c / b) * b ≤ 1000000000000000000 := by omega
      simp -implicitDefEqProofs (disch := omega) only [F_f_J9_floorDiv_f86c9, ez, d, e2, jv_eqF, lc_lt, lc_le, lc_gt, lc_ge, lc_eq, iv_l, jv_add, jv_sub, jv_mul, jv_zero, if_pos, if_neg, iv_add, iv_sub, iv_mul, iv_neg, iv_zero, iv_ltT, iv_ltF, iv_leT, iv_leF, iv_eqT, iv_eqF, iv_div, rm_iv, tn_iv, ib_iv, some_cb, some_cbv, ↓nm_eq, ↓reduceIte, true_and, and_true, Bool.true_eq_false, Bool.false_eq_true, not_false_eq_true, not_true_eq_false]
def lV (w : WD) (m : Int) : Int → Int := fun j => wV w (12 * m + j)
def lX (w : WD) (m : Int) : Int → Int := fun j => wP w m (12 * m + j) 0 * 1000 / wV w (12 * m + j)
def lY (w : WD) (m : Int) : Int → Int := fun j => wC w (12 * m + j) 0 * 1000 / wV w (12 * m + j)
abbrev lnN (w : WD) (m : Int) (j : Nat) : Int := liT (lV w m) (fun _ => 1) j
abbrev lSx (w : WD) (m : Int) (j : Nat) : Int := liT (lV w m) (lX w m) j
abbrev lSy (w : WD) (m : Int) (j : Nat) : Int := liT (lV w m) (lY w m) j
abbrev lXX (w : WD) (m : Int) (j : Nat) : Int := liT (lV w m) (fun x => lX w m x * lX w m x) j
abbrev lXY (w : WD) (m : Int) (j : Nat) : Int := liT (lV w m) (fun x => lX w m x * lY w m x) j
theorem liT_p {v f : Int → Int} {j : Nat} (e : 1 ≤ v j) : liT v f (j + 1) = liT v f j + f j := if_pos e
theorem liT_n {v f : Int → Int} {j : Nat} (e : ¬ 1 ≤ v j) : liT v f (j + 1) = liT v f j := if_neg e
theorem th_rng {p v : Int} (p0 : 0 ≤ p) (p1 : p ≤ v) : 0 ≤ p * 1000 / v ∧ p * 1000 / v ≤ 1000 := by
  by_cases q : v = 0
  · rw [q, Int.ediv_zero]; omega
  · refine ⟨Int.ediv_nonneg (by omega) (by omega), Int.ediv_le_of_le_mul (by omega) ?_⟩
    omega
section Q
variable {w : WD} {A : Int → Nat} {h h1 : AH} {m : Int}
/-- ranges of a line's sums -/
theorem lin_rng (hW : WI w) (hl : lvM w m) {j : Nat} (hj : (j : Int) ≤ wBx w m) : (0 ≤ lnN w m j ∧ lnN w m j ≤ j) ∧ (0 ≤ lSx w m j ∧ lSx w m j ≤ 1000 * j) ∧ (0 ≤ lSy w m j ∧ lSy w m j ≤ 1000 * j) ∧ (0 ≤ lXX w m j ∧ lXX w m j ≤ 1000000 * j) ∧ (0 ≤ lXY w m j ∧ lXY w m j ≤ 1000000 * j) ∧ (0 ≤ liT (lV w m) (fun x => lY w m x * lY w m x) j ∧ liT (lV w m) (fun x => lY w m x * lY w m x) j ≤ 1000000 * j) := by
  have bx : ∀ x : Nat, x < j → (0 ≤ lX w m x ∧ lX w m x ≤ 1000) ∧ (0 ≤ lY w m x ∧ lY w m x ≤ 1000) := fun x hx => by
    obtain ⟨q1, q2, q3, q4, q5, -⟩ := hW.box hl (b := x) (by omega) (by omega)
    have p0 := q1 0 (by omega) (by omega)
    have p1 := q1 1 (by omega) (by omega)
    have p2 := q1 2 (by omega) (by omega)
    have p3 := q1 3 (by omega) (by omega)
    have c0 := q2 0 (by omega) (by omega)
    have c1 := q2 1 (by omega) (by omega)
    have c2 := q2 2 (by omega) (by omega)
    exact ⟨th_rng p0.1 (by omega), th_rng c0.1 (by omega)⟩
  have pr : ∀ a b : Int, (0 ≤ a ∧ a ≤ 1000) → (0 ≤ b ∧ b ≤ 1000) → 0 ≤ a * b ∧ a * b ≤ 1000000 := fun a b ha hb => by
    have := mul_rng (a := a) (b := b) (A := 1000) (B := 1000) (by omega) (by omega) (by omega) (by omega)
    have := Int.mul_nonneg ha.1 hb.1
    omega
  have r1 := liT_rng (v := lV w m) (f := fun _ => 1) (B := 1) (by omega) j (fun x hx => by omega)
  have r2 := liT_rng (v := lV w m) (f := lX w m) (B := 1000) (by omega) j (fun x hx => (bx x hx).1)
  have r3 := liT_rng (v := lV w m) (f := lY w m) (B := 1000) (by omega) j (fun x hx => (bx x hx).2)
  have r4 := liT_rng (v := lV w m) (f := fun x => lX w m x * lX w m x) (B := 1000000) (by omega) j (fun x hx => pr _ _ (bx x hx).1 (bx x hx).1)
  have r5 := liT_rng (v := lV w m) (f := fun x => lX w m x * lY w m x) (B := 1000000) (by omega) j (fun x hx => pr _ _ (bx x hx).1 (bx x hx).2)
  have r6 := liT_rng (v := lV w m) (f := fun x => lY w m x * lY w m x) (B := 1000000) (by omega) j (fun x hx => pr _ _ (bx x hx).2 (bx x hx).2)
  rw [Int.one_mul] at r1
  exact ⟨r1, r2, r3, r4, r5, r6⟩
/-- what is set aside for a line, over so many boxes -/
def LiC (w : WD) (m : Int) (h : AH) (j : Nat) (h1 : AH) : Prop := Lw h h1 ∧ gC h1 = gC h + 1 ∧ gS h1 = gS h + 5 ∧ gK h1 (gC h) = 105 ∧ gJ h1 (gC h) 0 = jv (lnN w m j) ∧ gJ h1 (gC h) 1 = jv (lSx w m j) ∧ gJ h1 (gC h) 2 = jv (lSy w m j) ∧ gJ h1 (gC h) 3 = jv (lXX w m j) ∧ gJ h1 (gC h) 4 = jv (lXY w m j)
set_option maxRecDepth 100000 in
theorem c_dots (hS : Sim w A h) (hl : lvM w m) (k : Nat) : ∀ (N j : Nat) (h1 : AH), k < N → ((j + k : Nat) : Int) = wBx w m → LiC w m h j h1 → ∃ h2, lp b_X5_init_6 (fun _ _ _ _ => none) N (gC h) (A m) (iv j) h1 = some h2 ∧ LiC w m h (j + k) h2 := by
  induction k with
  | zero =>
    intro N j h1 hN hj L
    obtain ⟨N, rfl⟩ : ∃ N', N = N' + 1 := ⟨N - 1, by omega⟩
    have hM := (hS.low L.1).M hl
    have bb := (hS.W.mat hl).2.2.1
    exact ⟨h1, by simp -implicitDefEqProofs (disch := omega) only [lp_succ, F_b_X5_init_6, oM_k hM, oM_0 hM, oM_1 hM, oM_5 hM, oM_6 hM, oM_2 hM, oM_3 hM, oM_4 hM, oM_k1 hM, oM_n1 hM, oM_k2 hM, oM_n2 hM, oM_k3 hM, oM_n3 hM, oM_w hM, oM_b hM, oM_h hM, iv_add, iv_sub, iv_mul, iv_neg, iv_zero, iv_ltT, iv_ltF, iv_leT, iv_leF, iv_eqT, iv_eqF, iv_div, rm_iv, tn_iv, ib_iv, some_cb, some_cbv, ↓nm_eq, ↓reduceIte, true_and, and_true, Bool.true_eq_false, Bool.false_eq_true, not_false_eq_true, not_true_eq_false], L⟩
  | succ k ih =>
    intro N j h1 hN hj L
    obtain ⟨N, rfl⟩ : ∃ N', N = N' + 1 := ⟨N - 1, by omega⟩
    have sim1 := hS.low L.1
    have hM := sim1.M hl
    have bb := (hS.W.mat hl).2.2.1
    have j0 : (0 : Int) ≤ j := by omega
    have j1 : (j : Int) < wBx w m := by omega
    have hB := sim1.B hl j0 j1
    obtain ⟨q1, q2, q3, q4, q5, -⟩ := hS.W.box hl j0 j1
    have p0 := q1 0 (by omega) (by omega)
    have p1 := q1 1 (by omega) (by omega)
    have p2 := q1 2 (by omega) (by omega)
    have p3 := q1 3 (by omega) (by omega)
    have c0 := q2 0 (by omega) (by omega)
    have c1 := q2 1 (by omega) (by omega)
    have c2 := q2 2 (by omega) (by omega)
    have ex := th_rng p0.1 (show wP w m (12 * m + j) 0 ≤ wV w (12 * m + j) by omega)
    have ey := th_rng c0.1 (show wC w (12 * m + j) 0 ≤ wV w (12 * m + j) by omega)
    obtain ⟨a1, a2, a3, a4, a5, a6, a7, a8, a9⟩ := id L
    by_cases q : 1 ≤ wV w (12 * m + j)
    · have ih' := ih N (j + 1) (sJ (sJ (sJ (sJ (sJ h1 (gC h) 0 (jv (lnN w m j + 1))) (gC h) 1 (jv (lSx w m j + wP w m (12 * m + j) 0 * 1000 / wV w (12 * m + j)))) (gC h) 2 (jv (lSy w m j + wC w (12 * m + j) 0 * 1000 / wV w (12 * m + j)))) (gC h) 3 (jv (lXX w m j + wP w m (12 * m + j) 0 * 1000 / wV w (12 * m + j) * (wP w m (12 * m + j) 0 * 1000 / wV w (12 * m + j))))) (gC h) 4 (jv (lXY w m j + wP w m (12 * m + j) 0 * 1000 / wV w (12 * m + j) * (wC w (12 * m + j) 0 * 1000 / wV w (12 * m + j))))) (by omega) (by omega) ?_
      · obtain ⟨h2, e2, L2⟩ := ih'
        refine ⟨h2, ?_, by rw [show j + (k + 1) = j + 1 + k by omega]; exact L2⟩
        rw [← e2, show ((j + 1 : Nat) : Int) = (j : Int) + 1 by omega]
        clear e2 L2
        simp -implicitDefEqProofs (disch := omega) only [lp_succ, F_b_X5_init_6, oM_k hM, oM_0 hM, oM_1 hM, oM_5 hM, oM_6 hM, oM_2 hM, oM_3 hM, oM_4 hM, oM_k1 hM, oM_n1 hM, oM_k2 hM, oM_n2 hM, oM_k3 hM, oM_n3 hM, oM_w hM, oM_b hM, oM_h hM, oB_k hB, oB_0 hB, oB_1 hB, oB_2 hB, oB_3 hB, oB_4 hB, oB_k1 hB, oB_n1 hB, oB_k2 hB, oB_n2 hB, oB_k3 hB, oB_n3 hB, oB_k4 hB, oB_n4 hB, oB_5 hB, oB_6 hB, oB_7 hB, oB_d1 hB, oB_d2 hB, wP_lt, a4, a5, a6, a7, a8, a9, gK_sJ, gR_sJ, gI_sJ, gJ_sJo, iv_add, iv_sub, iv_mul, iv_neg, iv_zero, iv_ltT, iv_ltF, iv_leT, iv_leF, iv_eqT, iv_eqF, iv_div, rm_iv, tn_iv, ib_iv, lc_lt, lc_le, lc_gt, lc_ge, lc_eq, iv_l, jv_add, jv_sub, jv_mul, jv_zero, if_pos, if_neg, some_cb, some_cbv, ↓nm_eq, ↓reduceIte, true_and, and_true, Bool.true_eq_false, Bool.false_eq_true, not_false_eq_true, not_true_eq_false]
      · refine ⟨((((a1.sJ (Nat.le_refl _)).sJ (Nat.le_refl _)).sJ (Nat.le_refl _)).sJ (Nat.le_refl _)).sJ (Nat.le_refl _), a2, a3, a4, ?_, ?_, ?_, ?_, ?_⟩
        · rw [gJ_sJo _ _ (by omega), gJ_sJo _ _ (by omega), gJ_sJo _ _ (by omega), gJ_sJo _ _ (by omega), gJ_sJs]
          exact congrArg jv (liT_p q).symm
        · rw [gJ_sJo _ _ (by omega), gJ_sJo _ _ (by omega), gJ_sJo _ _ (by omega), gJ_sJs]
          exact congrArg jv (liT_p q).symm
        · rw [gJ_sJo _ _ (by omega), gJ_sJo _ _ (by omega), gJ_sJs]
          exact congrArg jv (liT_p q).symm
        · rw [gJ_sJo _ _ (by omega), gJ_sJs]
          exact congrArg jv (liT_p q).symm
        · rw [gJ_sJs]
          exact congrArg jv (liT_p q).symm
    · have ih' := ih N (j + 1) h1 (by omega) (by omega) ?_
      · obtain ⟨h2, e2, L2⟩ := ih'
        refine ⟨h2, ?_, by rw [show j + (k + 1) = j + 1 + k by omega]; exact L2⟩
        rw [← e2, show ((j + 1 : Nat) : Int) = (j : Int) + 1 by omega]
        clear e2 L2
        simp -implicitDefEqProofs (disch := omega) only [lp_succ, F_b_X5_init_6, oM_k hM, oM_0 hM, oM_1 hM, oM_5 hM, oM_6 hM, oM_2 hM, oM_3 hM, oM_4 hM, oM_k1 hM, oM_n1 hM, oM_k2 hM, oM_n2 hM, oM_k3 hM, oM_n3 hM, oM_w hM, oM_b hM, oM_h hM, oB_k hB, oB_0 hB, oB_1 hB, oB_2 hB, oB_3 hB, oB_4 hB, oB_k1 hB, oB_n1 hB, oB_k2 hB, oB_n2 hB, oB_k3 hB, oB_n3 hB, oB_k4 hB, oB_n4 hB, oB_5 hB, oB_6 hB, oB_7 hB, oB_d1 hB, oB_d2 hB, wP_lt, iv_add, iv_sub, iv_mul, iv_neg, iv_zero, iv_ltT, iv_ltF, iv_leT, iv_leF, iv_eqT, iv_eqF, iv_div, rm_iv, tn_iv, ib_iv, some_cb, some_cbv, ↓nm_eq, ↓reduceIte, true_and, and_true, Bool.true_eq_false, Bool.false_eq_true, not_false_eq_true, not_true_eq_false]
      · refine ⟨a1, a2, a3, a4, ?_, ?_, ?_, ?_, ?_⟩
        · exact a5.trans (congrArg jv (liT_n q).symm)
        · exact a6.trans (congrArg jv (liT_n q).symm)
        · exact a7.trans (congrArg jv (liT_n q).symm)
        · exact a8.trans (congrArg jv (liT_n q).symm)
        · exact a9.trans (congrArg jv (liT_n q).symm)
/-- spread and slope, once all dots are in -/
abbrev lSp (w : WD) (m : Int) (j : Nat) : Int := lnN w m j * lXX w m j - lSx w m j * lSx w m j
abbrev lCo (w : WD) (m : Int) (j : Nat) : Int := lnN w m j * lXY w m j - lSx w m j * lSy w m j
def LiQ (w : WD) (m : Int) (j : Nat) (h1 : AH) : Prop := gJ h1 91 36 = jv (lCo w m j) ∧ gJ h1 91 37 = jv (lSp w m j) ∧ gJ h1 91 38 = jv (lnN w m j) ∧ gJ h1 91 39 = jv (lSx w m j) ∧ gJ h1 91 40 = jv (lSy w m j)
set_option maxRecDepth 100000 in
theorem q_dots (hS : Sim w A h) (hl : lvM w m) (k : Nat) : ∀ (N j : Nat) (h1 : AH), k < N → ((j + k : Nat) : Int) = wBx w m → Sc w A h h1 → gJ h1 91 38 = jv (lnN w m j) → gJ h1 91 39 = jv (lSx w m j) → gJ h1 91 40 = jv (lSy w m j) → ∃ h2, lp b_X12_draws_23 (fun _ _ _ _ _ _ => none) N 91 (iv m) (jv (lXY w m j)) (jv (lXX w m j)) (iv j) h1 = some h2 ∧ Sc w A h h2 ∧ LiQ w m (j + k) h2 := by
  have l0 := hl.1
  have l4 : m < 4 := by have := hl.2; have := hS.W.1.2; omega
  have n91 : ∀ m b : Int, lvM w m → 0 ≤ b → b < wBx w m → A (10 + (12 * m + b)) ≠ 91 := fun m b hm b0 b1 => by have := hS.aB hm b0 b1; omega
  induction k with
  | zero =>
    intro N j h1 hN hj s g1 g2 g3
    obtain ⟨N, rfl⟩ : ∃ N', N = N' + 1 := ⟨N - 1, by omega⟩
    have Q := (hS.sc s).Q
    have hF := Q.F
    have hR := Q.R
    have bb := (hS.W.mat hl).2.2.1
    refine ⟨sJ (sJ h1 91 36 (jv (lCo w m j))) 91 37 (jv (lSp w m j)), ?_, (s.sJ91 n91).sJ91 n91, ?_, ?_, ?_, ?_, ?_⟩
    · simp -implicitDefEqProofs (disch := omega) only [lp_succ, F_b_X12_draws_23, K91 hF, R91_3 hF, K94 hF, N94 hF, RR_Bx hR, g1, g2, g3, gK_sJ, gR_sJ, gI_sJ, gJ_sJo, iv_add, iv_sub, iv_mul, iv_neg, iv_zero, iv_ltT, iv_ltF, iv_leT, iv_leF, iv_eqT, iv_eqF, iv_div, rm_iv, tn_iv, ib_iv, lc_lt, lc_le, lc_gt, lc_ge, lc_eq, iv_l, jv_add, jv_sub, jv_mul, jv_zero, if_pos, if_neg, some_cb, some_cbv, ↓nm_eq, ↓reduceIte, true_and, and_true, Bool.true_eq_false, Bool.false_eq_true, not_false_eq_true, not_true_eq_false]
    · rw [gJ_sJo _ _ (by omega), gJ_sJs]; rfl
    · rw [gJ_sJs]; rfl
    · rw [gJ_sJo _ _ (by omega), gJ_sJo _ _ (by omega)]; exact g1
    · rw [gJ_sJo _ _ (by omega), gJ_sJo _ _ (by omega)]; exact g2
    · rw [gJ_sJo _ _ (by omega), gJ_sJo _ _ (by omega)]; exact g3
  | succ k ih =>
    intro N j h1 hN hj s g1 g2 g3
    obtain ⟨N, rfl⟩ : ∃ N', N = N' + 1 := ⟨N - 1, by omega⟩
    have Q := (hS.sc s).Q
    have hF := Q.F
    have hR := Q.R
    have bb := (hS.W.mat hl).2.2.1
    have gg := (hS.W.mat hl).1
    have j0 : (0 : Int) ≤ j := by omega
    have j1 : (j : Int) < wBx w m := by omega
    obtain ⟨q1, q2, q3, q4, q5, -⟩ := hS.W.box hl j0 j1
    have p0 := q1 0 (by omega) (by omega)
    have p1 := q1 1 (by omega) (by omega)
    have p2 := q1 2 (by omega) (by omega)
    have p3 := q1 3 (by omega) (by omega)
    have c0 := q2 0 (by omega) (by omega)
    have c1 := q2 1 (by omega) (by omega)
    have c2 := q2 2 (by omega) (by omega)
    have eP : wP w m (12 * m + j) 0 = wG w (12 * m + j) 0 := if_pos (by omega)
    have ex := th_rng p0.1 (show wP w m (12 * m + j) 0 ≤ wV w (12 * m + j) by omega)
    have ey := th_rng c0.1 (show wC w (12 * m + j) 0 ≤ wV w (12 * m + j) by omega)
    by_cases q : 1 ≤ wV w (12 * m + j)
    · have e39 : lSx w m (j + 1) = lSx w m j + wP w m (12 * m + j) 0 * 1000 / wV w (12 * m + j) := liT_p q
      have e40 : lSy w m (j + 1) = lSy w m j + wC w (12 * m + j) 0 * 1000 / wV w (12 * m + j) := liT_p q
      have e38 : lnN w m (j + 1) = lnN w m j + 1 := liT_p q
      have eXY : lXY w m (j + 1) = lXY w m j + wP w m (12 * m + j) 0 * 1000 / wV w (12 * m + j) * (wC w (12 * m + j) 0 * 1000 / wV w (12 * m + j)) := liT_p q
      have eXX : lXX w m (j + 1) = lXX w m j + wP w m (12 * m + j) 0 * 1000 / wV w (12 * m + j) * (wP w m (12 * m + j) 0 * 1000 / wV w (12 * m + j)) := liT_p q
      obtain ⟨h2, e2, s2, L2⟩ := ih N (j + 1) (sJ (sJ (sJ h1 91 38 (jv (lnN w m (j + 1)))) 91 39 (jv (lSx w m (j + 1)))) 91 40 (jv (lSy w m (j + 1)))) (by omega) (by omega) (((s.sJ91 n91).sJ91 n91).sJ91 n91) (by rw [gJ_sJo _ _ (by omega), gJ_sJo _ _ (by omega), gJ_sJs]) (by rw [gJ_sJo _ _ (by omega), gJ_sJs]) (by rw [gJ_sJs])
      refine ⟨h2, ?_, s2, by rw [show j + (k + 1) = j + 1 + k by omega]; exact L2⟩
      rw [← e2, show ((j + 1 : Nat) : Int) = (j : Int) + 1 by omega, e38, e39, e40, eXX, eXY]
      clear e2 L2
      have dx : jv (wG w (12 * m + j) 0 * 1000) / jv (wV w (12 * m + j)) = jv (wP w m (12 * m + j) 0 * 1000 / wV w (12 * m + j)) := by rw [← eP]; exact jv_div (by omega) (by omega) (by omega) (by omega)
      have dy : jv (wC w (12 * m + j) 0 * 1000) / jv (wV w (12 * m + j)) = jv (wC w (12 * m + j) 0 * 1000 / wV w (12 * m + j)) := jv_div (by omega) (by omega) (by omega) (by omega)
      simp -implicitDefEqProofs (disch := omega) only [lp_succ, F_b_X12_draws_23, g1, g2, g3, gK_sJ, gR_sJ, gI_sJ, gJ_sJo, K91 hF, K92 hF, N92 hF, K93 hF, N93 hF, K94 hF, N94 hF, K95 hF, N95 hF, K96 hF, N96 hF, K97 hF, N97 hF, K98 hF, N98 hF, K99 hF, N99 hF, K100 hF, N100 hF, K101 hF, N101 hF, K102 hF, N102 hF, K103 hF, N103 hF, K104 hF, N104 hF, K105 hF, N105 hF, K106 hF, N106 hF, K107 hF, N107 hF, K108 hF, N108 hF, K109 hF, N109 hF, K110 hF, N110 hF, K111 hF, N111 hF, K112 hF, N112 hF, K113 hF, N113 hF, K114 hF, N114 hF, K115 hF, N115 hF, K116 hF, N116 hF, K117 hF, N117 hF, K118 hF, N118 hF, K119 hF, N119 hF, K120 hF, N120 hF, R91_1 hF, R91_2 hF, R91_3 hF, R91_4 hF, R91_5 hF, R91_6 hF, R91_7 hF, R91_8 hF, R91_9 hF, R91_10 hF, R91_11 hF, R91_12 hF, R91_13 hF, R91_14 hF, R91_15 hF, R91_16 hF, R91_17 hF, R91_18 hF, R91_21 hF, R91_22 hF, R91_24 hF, R91_25 hF, R91_26 hF, R91_27 hF, R91_29 hF, R91_30 hF, R91_31 hF, R91_32 hF, R91_44 hF, RR_M hR, RR_T hR, RR_K hR, RR_Bo hR, RR_Gr hR, RR_Ch hR, RR_Bx hR, RR_G hR, RR_C hR, RR_G0 hR, RR_C0 hR, RR_V hR, RR_O hR, RR_Se hR, RR_S2 hR, RR_L hR, RR_W hR, RR_H hR, RR_hSo hR, RR_hCe hR, RR_hBo hR, RR_hOt hR, RR_hMu hR, RR_Ta hR, RR_Ki hR, RR_Tr hR, RR_Is hR, RR_So hR, RR_Sz hR, RR_El hR, Int.mul_comm (1000 : Int), dx, dy, jv_eqF, iv_add, iv_sub, iv_mul, iv_neg, iv_zero, iv_ltT, iv_ltF, iv_leT, iv_leF, iv_eqT, iv_eqF, iv_div, rm_iv, tn_iv, ib_iv, lc_lt, lc_le, lc_gt, lc_ge, lc_eq, iv_l, jv_add, jv_sub, jv_mul, jv_zero, if_pos, if_neg, some_cb, some_cbv, ↓nm_eq, ↓reduceIte, true_and, and_true, Bool.true_eq_false, Bool.false_eq_true, not_false_eq_true, not_true_eq_false]
    · have e39 : lSx w m (j + 1) = lSx w m j := liT_n q
      have e40 : lSy w m (j + 1) = lSy w m j := liT_n q
      have e38 : lnN w m (j + 1) = lnN w m j := liT_n q
      have eXY : lXY w m (j + 1) = lXY w m j := liT_n q
      have eXX : lXX w m (j + 1) = lXX w m j := liT_n q
      obtain ⟨h2, e2, s2, L2⟩ := ih N (j + 1) h1 (by omega) (by omega) s (by rw [e38]; exact g1) (by rw [e39]; exact g2) (by rw [e40]; exact g3)
      refine ⟨h2, ?_, s2, by rw [show j + (k + 1) = j + 1 + k by omega]; exact L2⟩
      rw [← e2, show ((j + 1 : Nat) : Int) = (j : Int) + 1 by omega, eXX, eXY]
      clear e2 L2
      simp -implicitDefEqProofs (disch := omega) only [lp_succ, F_b_X12_draws_23, K91 hF, K92 hF, N92 hF, K93 hF, N93 hF, K94 hF, N94 hF, K95 hF, N95 hF, K96 hF, N96 hF, K97 hF, N97 hF, K98 hF, N98 hF, K99 hF, N99 hF, K100 hF, N100 hF, K101 hF, N101 hF, K102 hF, N102 hF, K103 hF, N103 hF, K104 hF, N104 hF, K105 hF, N105 hF, K106 hF, N106 hF, K107 hF, N107 hF, K108 hF, N108 hF, K109 hF, N109 hF, K110 hF, N110 hF, K111 hF, N111 hF, K112 hF, N112 hF, K113 hF, N113 hF, K114 hF, N114 hF, K115 hF, N115 hF, K116 hF, N116 hF, K117 hF, N117 hF, K118 hF, N118 hF, K119 hF, N119 hF, K120 hF, N120 hF, R91_1 hF, R91_2 hF, R91_3 hF, R91_4 hF, R91_5 hF, R91_6 hF, R91_7 hF, R91_8 hF, R91_9 hF, R91_10 hF, R91_11 hF, R91_12 hF, R91_13 hF, R91_14 hF, R91_15 hF, R91_16 hF, R91_17 hF, R91_18 hF, R91_21 hF, R91_22 hF, R91_24 hF, R91_25 hF, R91_26 hF, R91_27 hF, R91_29 hF, R91_30 hF, R91_31 hF, R91_32 hF, R91_44 hF, RR_M hR, RR_T hR, RR_K hR, RR_Bo hR, RR_Gr hR, RR_Ch hR, RR_Bx hR, RR_G hR, RR_C hR, RR_G0 hR, RR_C0 hR, RR_V hR, RR_O hR, RR_Se hR, RR_S2 hR, RR_L hR, RR_W hR, RR_H hR, RR_hSo hR, RR_hCe hR, RR_hBo hR, RR_hOt hR, RR_hMu hR, RR_Ta hR, RR_Ki hR, RR_Tr hR, RR_Is hR, RR_So hR, RR_Sz hR, RR_El hR, iv_add, iv_sub, iv_mul, iv_neg, iv_zero, iv_ltT, iv_ltF, iv_leT, iv_leF, iv_eqT, iv_eqF, iv_div, rm_iv, tn_iv, ib_iv, lc_lt, lc_le, lc_gt, lc_ge, lc_eq, iv_l, jv_add, jv_sub, jv_mul, jv_zero, if_pos, if_neg, some_cb, some_cbv, ↓nm_eq, ↓reduceIte, true_and, and_true, Bool.true_eq_false, Bool.false_eq_true, not_false_eq_true, not_true_eq_false]
end Q
