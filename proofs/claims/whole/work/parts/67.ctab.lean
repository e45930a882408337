/-! the class's tables: their object at t, three rows behind it -/
def Tt (t : Nat) : Prop := t = 12 ∨ t = 74 ∨ ∃ i : Nat, i < 12 ∧ t = 24 + 4 * i
theorem Tt.ok {h : AH} {t : Nat} (hF : Fix h) (ht : Tt t) : TabOK h t := by
  obtain ⟨-, -, f1, f2, f3, -⟩ := hF
  rcases ht with e | e | ⟨i, hi, e⟩
  · rw [e]; exact f1
  · rw [e]; exact f2
  · rw [e]; exact (f3 i hi).2
theorem Tt.kp {t : Nat} (ht : Tt t) {a : Nat} (h1 : t ≤ a) (h2 : a ≤ t + 3) (i : Nat) : ¬ kpI a i := by
  unfold kpI
  rcases ht with e | e | ⟨j, hj, e⟩ <;> omega
def Fr (t : Nat) (h0 hh : AH) : Prop := (∀ a i : Nat, (a < t ∨ t + 3 < a) → gI hh a i = gI h0 a i) ∧ (∀ a i : Nat, gR hh a i = gR h0 a i) ∧ ∀ a i : Nat, gJ hh a i = gJ h0 a i
theorem Fr.rf (t : Nat) (h : AH) : Fr t h h := ⟨fun _ _ _ => rfl, fun _ _ => rfl, fun _ _ => rfl⟩
theorem Fr.tr {t : Nat} {h0 h1 h2 : AH} (a : Fr t h0 h1) (b : Fr t h1 h2) : Fr t h0 h2 := ⟨fun x i z => (b.1 x i z).trans (a.1 x i z), fun x i => (b.2.1 x i).trans (a.2.1 x i), fun x i => (b.2.2 x i).trans (a.2.2 x i)⟩
theorem Fr.sI {t : Nat} {h0 h1 : AH} (a : Fr t h0 h1) {b i : Nat} {v : Int32} (hb : t ≤ b ∧ b ≤ t + 3) : Fr t h0 (sI h1 b i v) := ⟨fun x j z => by rw [gI_sIo _ _ (Or.inl (by omega))]; exact a.1 x j z, a.2.1, a.2.2⟩
/-- a row of ints -/
def Rw (h : AH) (a : Nat) (n : Int) (c : Int → Int) : Prop := ∀ z : Int, 0 ≤ z → z < n → gI h a z.toNat = iv (c z)
theorem Rw.up {h : AH} {a : Nat} {n : Int} {c : Int → Int} (H : Rw h a n c) {y v : Int} (hy : 0 ≤ y) : Rw (sI h a y.toNat (iv v)) a n (uZ c y v) := by
  intro z z0 z1
  by_cases e : z = y
  · subst e; rw [gI_sIs, uZ_same]
  · rw [gI_sIo _ _ (Or.inr (by omega)), uZ_ne _ e, H z z0 z1]
theorem Rw.oth {h : AH} {a : Nat} {n : Int} {c : Int → Int} (H : Rw h a n c) {b i : Nat} {v : Int32} (hb : a ≠ b) : Rw (sI h b i v) a n c := by
  intro z z0 z1
  rw [gI_sIo _ _ (Or.inl hb), H z z0 z1]
def TS (w : WD) (A : Int → Nat) (h hh : AH) (t : Nat) (pl : Int) (c gl cl : Int → Int) : Prop := Sc w A h hh ∧ Sim w A hh ∧ gI hh t 3 = iv pl ∧ Rw hh (t + 1) 12 c ∧ Rw hh (t + 2) 4 gl ∧ Rw hh (t + 3) 3 cl
section Q
variable {w : WD} {A : Int → Nat} {h hh : AH} {t : Nat} {pl : Int} {c gl cl : Int → Int}
theorem Sim.scI (hS : Sim w A hh) {a i : Nat} {v : Int32} (k : ¬ kpI a i) : Sim w A (sI hh a i v) := hS.sc ((Sc.rf hS).sI k)
theorem TS.s1 (ht : Tt t) (T : TS w A h hh t pl c gl cl) {y : Int} (v : Int) (hy : 0 ≤ y) : TS w A h (sI hh (t + 1) y.toNat (iv v)) t pl (uZ c y v) gl cl := by
  obtain ⟨t1, t2, t3, t4, t5, t6⟩ := T
  have k := ht.kp (a := t + 1) (by omega) (by omega)
  exact ⟨t1.sI (k _), t2.scI (k _), by rw [gI_sIo _ _ (Or.inl (by omega)), t3], t4.up hy, t5.oth (by omega), t6.oth (by omega)⟩
theorem TS.s2 (ht : Tt t) (T : TS w A h hh t pl c gl cl) {y : Int} (v : Int) (hy : 0 ≤ y) : TS w A h (sI hh (t + 2) y.toNat (iv v)) t pl c (uZ gl y v) cl := by
  obtain ⟨t1, t2, t3, t4, t5, t6⟩ := T
  have k := ht.kp (a := t + 2) (by omega) (by omega)
  exact ⟨t1.sI (k _), t2.scI (k _), by rw [gI_sIo _ _ (Or.inl (by omega)), t3], t4.oth (by omega), t5.up hy, t6.oth (by omega)⟩
theorem TS.s3 (ht : Tt t) (T : TS w A h hh t pl c gl cl) {y : Int} (v : Int) (hy : 0 ≤ y) : TS w A h (sI hh (t + 3) y.toNat (iv v)) t pl c gl (uZ cl y v) := by
  obtain ⟨t1, t2, t3, t4, t5, t6⟩ := T
  have k := ht.kp (a := t + 3) (by omega) (by omega)
  exact ⟨t1.sI (k _), t2.scI (k _), by rw [gI_sIo _ _ (Or.inl (by omega)), t3], t4.oth (by omega), t5.oth (by omega), t6.up hy⟩
set_option maxRecDepth 100000 in
theorem c_set (ht : Tt t) (T : TS w A h hh t pl c gl cl) {p g k : Int} (v : Int) (p0 : 0 ≤ p) (p1 : p < 12) (hg : p / 3 = g) (hk : p % 3 = k) : ∃ h' : AH, f_X8_set t (iv p) (iv v) hh = some h' ∧ TS w A h h' t pl c (uZ gl g (gl g - v)) (uZ cl k (cl k - v)) ∧ Fr t hh h' := by
  obtain ⟨q1, q2, q3, q4, ⟨q5, q6⟩, ⟨q7, q8⟩, q9, q10⟩ := ht.ok T.2.1.F
  have g0 := T.2.2.2.2.1 g (by omega) (by omega)
  have k0 := T.2.2.2.2.2 k (by omega) (by omega)
  refine ⟨sI (sI hh (t + 2) g.toNat (iv (gl g - v))) (t + 3) k.toNat (iv (cl k - v)), ?_, (T.s2 ht _ (by omega)).s3 ht _ (by omega), ((Fr.rf t hh).sI (by omega)).sI (by omega)⟩
  have o1 : gI (sI hh (t + 2) g.toNat (iv (gl g - v))) (t + 3) k.toNat = iv (cl k) := by rw [gI_sIo _ _ (Or.inl (by omega)), k0]
  simp -implicitDefEqProofs (disch := omega) only [F_f_X8_set, gK_sI, gN_sI, gR_sI, q1, q2, q3, q4, q5, q6, q7, q8, q9, q10, hg, hk, g0, k0, o1, iv_add, iv_sub, iv_mul, iv_neg, iv_zero, iv_ltT, iv_ltF, iv_leT, iv_leF, iv_eqT, iv_eqF, iv_div, rm_iv, tn_iv, ib_iv, some_cb, some_cbv, ↓nm_eq, ↓reduceIte, true_and, and_true, Bool.true_eq_false, Bool.false_eq_true, not_false_eq_true, not_true_eq_false]
/-- the least of a cell with which the later choices can take the rest -/
def fvZ (gl cl : Int → Int) (g k : Int) : Int := max 0 (gl g - if k = 0 then cl 1 + cl 2 else if k = 1 then cl 2 else 0)
set_option maxRecDepth 100000 in
theorem c_fillStep (ht : Tt t) (T : TS w A h hh t pl c gl cl) (k2 : Nat → Int32 → AH → Option AH) {p g k : Int} (p0 : 0 ≤ p) (p1 : p < 12) (hg : p / 3 = g) (hk : p % 3 = k) (hpl : p < pl ∧ pl ≤ 12) (b1 : -1000 ≤ gl g ∧ gl g ≤ 1000) (b2 : -1000 ≤ cl 1 ∧ cl 1 ≤ 1000) (b3 : -1000 ≤ cl 2 ∧ cl 2 ≤ 1000) : ∃ h' : AH, b_X8_fillFrom_2 k2 t (iv p) hh = k2 t (iv (p + 1)) h' ∧ TS w A h h' t pl (uZ c p (fvZ gl cl g k)) (uZ gl g (gl g - fvZ gl cl g k)) (uZ cl k (cl k - fvZ gl cl g k)) ∧ Fr t hh h' := by
  obtain ⟨q1, q2, q3, q4, ⟨q5, q6⟩, ⟨q7, q8⟩, q9, q10⟩ := ht.ok T.2.1.F
  have g0 := T.2.2.2.2.1 g (by omega) (by omega)
  have c1 := T.2.2.2.2.2 1 (by omega) (by omega)
  have c2 := T.2.2.2.2.2 2 (by omega) (by omega)
  rw [tn1] at c1
  rw [tn2] at c2
  have pl0 := T.2.2.1
  have T1 := T.s1 ht (y := p) (fvZ gl cl g k) p0
  obtain ⟨h', f1, f2, f3⟩ := c_set ht T1 (fvZ gl cl g k) p0 p1 hg hk
  refine ⟨h', ?_, f2, ((Fr.rf t hh).sI (by omega)).tr f3⟩
  have hv : gI (sI hh (t + 1) p.toNat (iv (fvZ gl cl g k))) (t + 1) p.toNat = iv (fvZ gl cl g k) := gI_sIs _ _ _ _
  rcases (show k = 0 ∨ k = 1 ∨ k = 2 by omega) with z | z | z
  · have e : fvZ gl cl g k = max 0 (gl g - cl 1 - cl 2) := by unfold fvZ; rw [if_pos z]; congr 1; omega
    rw [e] at f1 hv
    simp -implicitDefEqProofs (disch := omega) only [F_b_X8_fillFrom_2, f_X8_fillFrom_26, lpFU4, F_b_X8_fillFrom_26, k_X8_fillFrom_26_1, k_X8_fillFrom_26_2, gK_sI, gN_sI, gR_sI, q1, q2, q3, q4, q5, q6, q7, q8, q9, q10, pl0, hg, hk, z, g0, c1, c2, tn1, tn2, j_max, hv, f1, Int.reduceAdd, Int.reduceMul, Int.reduceSub, Int.zero_add, Int.add_zero, iv_add, iv_sub, iv_mul, iv_neg, iv_zero, iv_ltT, iv_ltF, iv_leT, iv_leF, iv_eqT, iv_eqF, iv_div, rm_iv, tn_iv, ib_iv, some_cb, some_cbv, ↓nm_eq, ↓reduceIte, true_and, and_true, Bool.true_eq_false, Bool.false_eq_true, not_false_eq_true, not_true_eq_false]
  · have e : fvZ gl cl g k = max 0 (gl g - cl 2) := by unfold fvZ; rw [if_neg (by omega), if_pos z]
    rw [e] at f1 hv
    simp -implicitDefEqProofs (disch := omega) only [F_b_X8_fillFrom_2, f_X8_fillFrom_26, lpFU4, F_b_X8_fillFrom_26, k_X8_fillFrom_26_1, k_X8_fillFrom_26_2, gK_sI, gN_sI, gR_sI, q1, q2, q3, q4, q5, q6, q7, q8, q9, q10, pl0, hg, hk, z, g0, c1, c2, tn1, tn2, j_max, hv, f1, Int.reduceAdd, Int.reduceMul, Int.reduceSub, Int.zero_add, Int.add_zero, iv_add, iv_sub, iv_mul, iv_neg, iv_zero, iv_ltT, iv_ltF, iv_leT, iv_leF, iv_eqT, iv_eqF, iv_div, rm_iv, tn_iv, ib_iv, some_cb, some_cbv, ↓nm_eq, ↓reduceIte, true_and, and_true, Bool.true_eq_false, Bool.false_eq_true, not_false_eq_true, not_true_eq_false]
  · have e : fvZ gl cl g k = max 0 (gl g) := by unfold fvZ; rw [if_neg (by omega), if_neg (by omega), Int.sub_zero]
    rw [e] at f1 hv
    simp -implicitDefEqProofs (disch := omega) only [F_b_X8_fillFrom_2, f_X8_fillFrom_26, lpFU4, F_b_X8_fillFrom_26, k_X8_fillFrom_26_1, k_X8_fillFrom_26_2, gK_sI, gN_sI, gR_sI, q1, q2, q3, q4, q5, q6, q7, q8, q9, q10, pl0, hg, hk, z, g0, c1, c2, tn1, tn2, j_max, hv, f1, Int.reduceAdd, Int.reduceMul, Int.reduceSub, Int.zero_add, Int.add_zero, iv_add, iv_sub, iv_mul, iv_neg, iv_zero, iv_ltT, iv_ltF, iv_leT, iv_leF, iv_eqT, iv_eqF, iv_div, rm_iv, tn_iv, ib_iv, some_cb, some_cbv, ↓nm_eq, ↓reduceIte, true_and, and_true, Bool.true_eq_false, Bool.false_eq_true, not_false_eq_true, not_true_eq_false]
end Q
