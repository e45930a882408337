/-! TOOLS: machine ints as images of integers, rows of a heap laid over -/
theorem iv_add (a b : Int) : iv a + iv b = iv (a + b) := (Int32.ofInt_add a b).symm
theorem iv_sub (a b : Int) : iv a - iv b = iv (a - b) := (Int32.ofInt_sub a b).symm
theorem iv_mul (a b : Int) : iv a * iv b = iv (a * b) := (Int32.ofInt_mul a b).symm
theorem iv_neg (a : Int) : -iv a = iv (-a) := (Int32.ofInt_neg a).symm
theorem jv_add (a b : Int) : jv a + jv b = jv (a + b) := (Int64.ofInt_add a b).symm
theorem jv_sub (a b : Int) : jv a - jv b = jv (a - b) := (Int64.ofInt_sub a b).symm
theorem jv_mul (a b : Int) : jv a * jv b = jv (a * b) := (Int64.ofInt_mul a b).symm
theorem iv_zero : (0 : Int32) = iv 0 := rfl
theorem iv_one : (1 : Int32) = iv 1 := rfl
theorem iv_m1 : (-1 : Int32) = iv (-1) := rfl
theorem jv_zero : (0 : Int64) = jv 0 := rfl
theorem iv_self (x : Int32) : iv x.toInt = x := Int32.ofInt_toInt x
theorem jv_self (x : Int64) : jv x.toInt = x := Int64.ofInt_toInt x
theorem iv_ex (x : Int32) : ∃ z : Int, x = iv z ∧ -2147483648 ≤ z ∧ z ≤ 2147483647 := ⟨x.toInt, (iv_self x).symm, by have := x.le_toInt; omega, by have := x.toInt_lt; omega⟩
theorem jv_ex (x : Int64) : ∃ z : Int, x = jv z ∧ -9223372036854775808 ≤ z ∧ z ≤ 9223372036854775807 := ⟨x.toInt, (jv_self x).symm, by have := x.le_toInt; omega, by have := x.toInt_lt; omega⟩
theorem iv_int {z : Int} (h1 : -2147483648 ≤ z) (h2 : z ≤ 2147483647) : (iv z).toInt = z := Int32.toInt_ofInt_of_le (by omega) (by omega)
theorem jv_int {z : Int} (h1 : -9223372036854775808 ≤ z) (h2 : z ≤ 9223372036854775807) : (jv z).toInt = z := Int64.toInt_ofInt_of_le (by omega) (by omega)
theorem iv_lt {a b : Int} (h1 : -2147483648 ≤ a) (h2 : a ≤ 2147483647) (h3 : -2147483648 ≤ b) (h4 : b ≤ 2147483647) : (iv a < iv b) = (a < b) := by
  rw [Int32.lt_iff_toInt_lt, iv_int h1 h2, iv_int h3 h4]
theorem iv_le {a b : Int} (h1 : -2147483648 ≤ a) (h2 : a ≤ 2147483647) (h3 : -2147483648 ≤ b) (h4 : b ≤ 2147483647) : (iv a ≤ iv b) = (a ≤ b) := by
  rw [Int32.le_iff_toInt_le, iv_int h1 h2, iv_int h3 h4]
theorem iv_eq {a b : Int} (h1 : -2147483648 ≤ a) (h2 : a ≤ 2147483647) (h3 : -2147483648 ≤ b) (h4 : b ≤ 2147483647) : (iv a = iv b) = (a = b) := by
  rw [← Int32.toInt_inj, iv_int h1 h2, iv_int h3 h4]
theorem jv_lt {a b : Int} (h1 : -9223372036854775808 ≤ a) (h2 : a ≤ 9223372036854775807) (h3 : -9223372036854775808 ≤ b) (h4 : b ≤ 9223372036854775807) : (jv a < jv b) = (a < b) := by
  rw [Int64.lt_iff_toInt_lt, jv_int h1 h2, jv_int h3 h4]
theorem jv_le {a b : Int} (h1 : -9223372036854775808 ≤ a) (h2 : a ≤ 9223372036854775807) (h3 : -9223372036854775808 ≤ b) (h4 : b ≤ 9223372036854775807) : (jv a ≤ jv b) = (a ≤ b) := by
  rw [Int64.le_iff_toInt_le, jv_int h1 h2, jv_int h3 h4]
theorem jv_eq {a b : Int} (h1 : -9223372036854775808 ≤ a) (h2 : a ≤ 9223372036854775807) (h3 : -9223372036854775808 ≤ b) (h4 : b ≤ 9223372036854775807) : (jv a = jv b) = (a = b) := by
  rw [← Int64.toInt_inj, jv_int h1 h2, jv_int h3 h4]
theorem iv_ltT {a b : Int} (h1 : -2147483648 ≤ a) (h2 : a ≤ 2147483647) (h3 : -2147483648 ≤ b) (h4 : b ≤ 2147483647) (h : a < b) : (iv a < iv b) = True := by rw [iv_lt h1 h2 h3 h4]; exact eq_true h
theorem iv_ltF {a b : Int} (h1 : -2147483648 ≤ a) (h2 : a ≤ 2147483647) (h3 : -2147483648 ≤ b) (h4 : b ≤ 2147483647) (h : b ≤ a) : (iv a < iv b) = False := by rw [iv_lt h1 h2 h3 h4]; exact eq_false (by omega)
theorem iv_leT {a b : Int} (h1 : -2147483648 ≤ a) (h2 : a ≤ 2147483647) (h3 : -2147483648 ≤ b) (h4 : b ≤ 2147483647) (h : a ≤ b) : (iv a ≤ iv b) = True := by rw [iv_le h1 h2 h3 h4]; exact eq_true h
theorem iv_leF {a b : Int} (h1 : -2147483648 ≤ a) (h2 : a ≤ 2147483647) (h3 : -2147483648 ≤ b) (h4 : b ≤ 2147483647) (h : b < a) : (iv a ≤ iv b) = False := by rw [iv_le h1 h2 h3 h4]; exact eq_false (by omega)
theorem iv_eqT {a b : Int} (h : a = b) : (iv a = iv b) = True := eq_true (by rw [h])
theorem iv_eqF {a b : Int} (h1 : -2147483648 ≤ a) (h2 : a ≤ 2147483647) (h3 : -2147483648 ≤ b) (h4 : b ≤ 2147483647) (h : a ≠ b) : (iv a = iv b) = False := by rw [iv_eq h1 h2 h3 h4]; exact eq_false h
theorem jv_ltT {a b : Int} (h1 : -9223372036854775808 ≤ a) (h2 : a ≤ 9223372036854775807) (h3 : -9223372036854775808 ≤ b) (h4 : b ≤ 9223372036854775807) (h : a < b) : (jv a < jv b) = True := by rw [jv_lt h1 h2 h3 h4]; exact eq_true h
theorem jv_ltF {a b : Int} (h1 : -9223372036854775808 ≤ a) (h2 : a ≤ 9223372036854775807) (h3 : -9223372036854775808 ≤ b) (h4 : b ≤ 9223372036854775807) (h : b ≤ a) : (jv a < jv b) = False := by rw [jv_lt h1 h2 h3 h4]; exact eq_false (by omega)
theorem jv_leT {a b : Int} (h1 : -9223372036854775808 ≤ a) (h2 : a ≤ 9223372036854775807) (h3 : -9223372036854775808 ≤ b) (h4 : b ≤ 9223372036854775807) (h : a ≤ b) : (jv a ≤ jv b) = True := by rw [jv_le h1 h2 h3 h4]; exact eq_true h
theorem jv_leF {a b : Int} (h1 : -9223372036854775808 ≤ a) (h2 : a ≤ 9223372036854775807) (h3 : -9223372036854775808 ≤ b) (h4 : b ≤ 9223372036854775807) (h : b < a) : (jv a ≤ jv b) = False := by rw [jv_le h1 h2 h3 h4]; exact eq_false (by omega)
theorem jv_eqT {a b : Int} (h : a = b) : (jv a = jv b) = True := eq_true (by rw [h])
theorem jv_eqF {a b : Int} (h1 : -9223372036854775808 ≤ a) (h2 : a ≤ 9223372036854775807) (h3 : -9223372036854775808 ≤ b) (h4 : b ≤ 9223372036854775807) (h : a ≠ b) : (jv a = jv b) = False := by rw [jv_eq h1 h2 h3 h4]; exact eq_false h
theorem iv_div {a b : Int} (h1 : 0 ≤ a) (h2 : a ≤ 2147483647) (h3 : 0 < b) (h4 : b ≤ 2147483647) : iv a / iv b = iv (a / b) := by
  apply Int32.toInt_inj.mp
  have hq : a / b ≤ a := Int.ediv_le_self _ h1
  have h0 : 0 ≤ a / b := Int.ediv_nonneg h1 (by omega)
  rw [Int32.toInt_div_of_ne_right _ _ (by intro e; have := congrArg Int32.toInt e; rw [iv_int (by omega) h4] at this; simp at this; omega), iv_int (by omega) h2, iv_int (by omega) h4, iv_int (by omega) (by omega), Int.tdiv_eq_ediv_of_nonneg h1]
theorem rm_iv {a b : Int} (h1 : 0 ≤ a) (h2 : a ≤ 2147483647) (h3 : 0 < b) (h4 : b ≤ 2147483647) : rmI (iv a) (iv b) = iv (a % b) := by
  unfold rmI
  rw [iv_div h1 h2 h3 h4, iv_mul, iv_sub, Int.mul_comm, Int.emod_def]
theorem jv_div {a b : Int} (h1 : 0 ≤ a) (h2 : a ≤ 9223372036854775807) (h3 : 0 < b) (h4 : b ≤ 9223372036854775807) : jv a / jv b = jv (a / b) := by
  apply Int64.toInt_inj.mp
  have hq : a / b ≤ a := Int.ediv_le_self _ h1
  have h0 : 0 ≤ a / b := Int.ediv_nonneg h1 (by omega)
  rw [Int64.toInt_div_of_ne_right _ _ (by intro e; have := congrArg Int64.toInt e; rw [jv_int (by omega) h4] at this; simp at this; omega), jv_int (by omega) h2, jv_int (by omega) h4, jv_int (by omega) (by omega), Int.tdiv_eq_ediv_of_nonneg h1]
theorem rm_jv {a b : Int} (h1 : 0 ≤ a) (h2 : a ≤ 9223372036854775807) (h3 : 0 < b) (h4 : b ≤ 9223372036854775807) : rmJ (jv a) (jv b) = jv (a % b) := by
  unfold rmJ
  rw [jv_div h1 h2 h3 h4, jv_mul, jv_sub, Int.mul_comm, Int.emod_def]
theorem tn_iv {z : Int} (h2 : z ≤ 2147483647) (h1 : -2147483648 ≤ z) : (iv z).toNatClampNeg = z.toNat := by
  show (iv z).toInt.toNat = _
  rw [iv_int h1 h2]
theorem ib_iv {z : Int} {n : Nat} (h1 : 0 ≤ z) (h2 : z < n) (h3 : n ≤ 2147483647) : ib (iv z) n = true := by
  unfold ib
  rw [decide_eq_true_eq, iv_zero, iv_lt (by omega) (by omega) (by omega) (by omega), tn_iv (by omega) (by omega)]
  omega
theorem iv_l {z : Int} (h1 : -2147483648 ≤ z) (h2 : z ≤ 2147483647) : (iv z).toInt64 = jv z := by
  apply Int64.toInt_inj.mp
  rw [Int32.toInt_toInt64, iv_int h1 h2, jv_int (by omega) (by omega)]
theorem jv_i (z : Int) : (jv z).toInt32 = iv z := Int64.toInt32_ofInt
theorem of_nat (n : Nat) : Int32.ofNat n = iv n := (Int32.ofInt_eq_ofNat ..).symm
theorem lcmp_jv {a b : Int} (h1 : -9223372036854775808 ≤ a) (h2 : a ≤ 9223372036854775807) (h3 : -9223372036854775808 ≤ b) (h4 : b ≤ 9223372036854775807) : lg_cmp (jv a) (jv b) = iv (if b < a then 1 else if a = b then 0 else -1) := by
  unfold lg_cmp
  show (if jv b < jv a then _ else _) = _
  have q1 := jv_lt h3 h4 h1 h2
  have q2 := jv_eq h1 h2 h3 h4
  by_cases h : b < a
  · rw [if_pos h, if_pos (q1 ▸ h)]; rfl
  · rw [if_neg h, if_neg (q1 ▸ h)]
    by_cases e : a = b
    · rw [if_pos e, if_pos (q2 ▸ e)]; rfl
    · rw [if_neg e, if_neg (q2 ▸ e)]; rfl
/-! a row of ints laid over a heap -/
def wI (h : AH) (a : Nat) (f : Nat → Int32) : AH := (h.1, h.2.1, (fun b => if b = a then f else h.2.2.1 b), h.2.2.2.1, h.2.2.2.2.1, h.2.2.2.2.2.1, h.2.2.2.2.2.2)
def aI (h : AH) (a : Nat) (c : Int → Int) : AH := wI h a (fun j => iv (c (j : Int)))
def uZ (c : Int → Int) (p v : Int) : Int → Int := fun j => if j = p then v else c j
theorem uZ_same (c : Int → Int) (p v : Int) : uZ c p v p = v := if_pos rfl
theorem uZ_ne (c : Int → Int) {p v j : Int} (h : j ≠ p) : uZ c p v j = c j := if_neg h
theorem gK_aI (h : AH) (a : Nat) (c : Int → Int) (b : Nat) : gK (aI h a c) b = gK h b := rfl
theorem gN_aI (h : AH) (a : Nat) (c : Int → Int) (b : Nat) : gN (aI h a c) b = gN h b := rfl
theorem gR_aI (h : AH) (a : Nat) (c : Int → Int) (b i : Nat) : gR (aI h a c) b i = gR h b i := rfl
theorem gJ_aI (h : AH) (a : Nat) (c : Int → Int) (b i : Nat) : gJ (aI h a c) b i = gJ h b i := rfl
theorem gC_aI (h : AH) (a : Nat) (c : Int → Int) : gC (aI h a c) = gC h := rfl
theorem gS_aI (h : AH) (a : Nat) (c : Int → Int) : gS (aI h a c) = gS h := rfl
theorem gI_aI (h : AH) (a : Nat) (c : Int → Int) (i : Nat) : gI (aI h a c) a i = iv (c i) := by
  show (if a = a then _ else _ : Nat → Int32) i = _
  rw [if_pos rfl]
theorem gI_aIt (h : AH) (a : Nat) (c : Int → Int) {z : Int} (hz : 0 ≤ z) : gI (aI h a c) a z.toNat = iv (c z) := by
  rw [gI_aI, Int.toNat_of_nonneg hz]
theorem gI_aIo (h : AH) {a b : Nat} (c : Int → Int) (hb : b ≠ a) (i : Nat) : gI (aI h a c) b i = gI h b i := by
  show (if b = a then _ else _ : Nat → Int32) i = _
  rw [if_neg hb]; rfl
theorem aI_aI (h : AH) (a : Nat) (c c' : Int → Int) : aI (aI h a c) a c' = aI h a c' := by
  unfold aI wI
  congr 3
  funext b
  by_cases e : b = a
  · rw [if_pos e, if_pos e]
  · rw [if_neg e, if_neg e]; show (if b = a then _ else _) = _; rw [if_neg e]
theorem aI_comm (h : AH) {a b : Nat} (hab : a ≠ b) (c c' : Int → Int) : aI (aI h a c) b c' = aI (aI h b c') a c := by
  unfold aI wI
  congr 3
  funext x
  by_cases e : x = b
  · rw [if_pos e, if_neg (fun z => hab (z.symm.trans e))]
    show _ = (if x = b then _ else _); rw [if_pos e]
  · rw [if_neg e]
    show (if x = a then _ else _) = _
    by_cases e2 : x = a
    · rw [if_pos e2, if_pos e2]
    · rw [if_neg e2, if_neg e2]; show _ = (if x = b then _ else _); rw [if_neg e]
theorem sI_aI (h : AH) (a : Nat) (c : Int → Int) {p : Int} (hp : 0 ≤ p) (v : Int) : sI (aI h a c) a p.toNat (iv v) = aI h a (uZ c p v) := by
  unfold sI aI wI up2
  congr 3
  funext x j
  show (if x = a ∧ j = p.toNat then iv v else (if x = a then _ else _ : Nat → Int32) j) = (if x = a then _ else _ : Nat → Int32) j
  by_cases e : x = a
  · rw [if_pos e, if_pos e]
    by_cases e2 : j = p.toNat
    · rw [if_pos ⟨e, e2⟩]; unfold uZ; rw [if_pos (by omega)]
    · rw [if_neg (fun z => e2 z.2)]; unfold uZ; rw [if_neg (by omega)]
  · rw [if_neg (fun z => e z.1), if_neg e, if_neg e]
theorem sI_aIo (h : AH) {a b : Nat} (hab : b ≠ a) (c : Int → Int) (i : Nat) (v : Int32) : sI (aI h a c) b i v = aI (sI h b i v) a c := by
  unfold sI aI wI up2
  congr 3
  funext x j
  show (if x = b ∧ j = i then v else (if x = a then _ else _ : Nat → Int32) j) = (if x = a then _ else _ : Nat → Int32) j
  by_cases e : x = a
  · rw [if_pos e, if_pos e, if_neg (fun z => hab (z.1.symm.trans e))]
  · rw [if_neg e, if_neg e]
/-- what stands in a row, as integers -/
def rd (h : AH) (a : Nat) : Int → Int := fun z => (gI h a z.toNat).toInt
theorem aI_rd (h : AH) (a : Nat) : aI h a (rd h a) = h := by
  unfold aI wI rd
  obtain ⟨h1, h2, h3, h4⟩ := h
  show (h1, h2, _, h4) = (h1, h2, h3, h4)
  congr 3
  funext x
  by_cases e : x = a
  · rw [if_pos e]; funext j; rw [Int.toNat_natCast, iv_self, e]; rfl
  · rw [if_neg e]
/-! loops by fuel -/
theorem lp_succ {β : Type} (b : β → β) (bot : β) (n : Nat) : lp b bot (n + 1) = b (lp b bot n) := rfl
theorem FU_pos (k : Nat) (h : k < 4294967296) : ∃ n, FU = n + k + 1 := ⟨4294967296 - k - 1, by unfold FU; omega⟩
