/-! acts: the bodies that run, one by one -/
def trC (h : AH) : List Int → AH
  | [] => sI h 10 1 (iv 0)
  | b :: l => sI (sI (trC h l) 11 l.length (iv b)) 10 1 (iv (l.length + 1))
def trQ (h : AH) : List Int → AH
  | [] => sI h 91 23 (iv 0)
  | b :: l => sI (sI (trQ h l) 111 l.length (iv b)) 91 23 (iv (l.length + 1))
def trW (w : WD) : List Int → WD
  | [] => wZ w 91 23 0
  | b :: l => wZ (wZ (trW w l) 111 l.length b) 91 23 (l.length + 1)
theorem trC_K (h : AH) (l : List Int) (a : Nat) : gK (trC h l) a = gK h a := by
  induction l with
  | nil => rfl
  | cons b l ih => exact ih
theorem trC_N (h : AH) (l : List Int) (a : Nat) : gN (trC h l) a = gN h a := by
  induction l with
  | nil => rfl
  | cons b l ih => exact ih
theorem trC_R (h : AH) (l : List Int) (a i : Nat) : gR (trC h l) a i = gR h a i := by
  induction l with
  | nil => rfl
  | cons b l ih => exact ih
theorem trC_J (h : AH) (l : List Int) (a i : Nat) : gJ (trC h l) a i = gJ h a i := by
  induction l with
  | nil => rfl
  | cons b l ih => exact ih
theorem trC_C (h : AH) (l : List Int) : gC (trC h l) = gC h := by
  induction l with
  | nil => rfl
  | cons b l ih => exact ih
theorem trC_S (h : AH) (l : List Int) : gS (trC h l) = gS h := by
  induction l with
  | nil => rfl
  | cons b l ih => exact ih
theorem trC_I (h : AH) (l : List Int) {a i : Nat} (z : a ≠ 11) (y : a ≠ 10) : gI (trC h l) a i = gI h a i := by
  induction l with
  | nil => exact gI_sIo _ _ (Or.inl y)
  | cons b l ih => exact (gI_sIo _ _ (Or.inl y)).trans ((gI_sIo _ _ (Or.inl z)).trans ih)
theorem trC_n (h : AH) (l : List Int) : gI (trC h l) 10 1 = iv l.length := by
  cases l with
  | nil => exact gI_sIs _ _ _ _
  | cons b l => exact (gI_sIs _ _ _ _).trans (congrArg iv (by simp))
theorem trQ_K (h : AH) (l : List Int) (a : Nat) : gK (trQ h l) a = gK h a := by
  induction l with
  | nil => rfl
  | cons b l ih => exact ih
theorem trQ_N (h : AH) (l : List Int) (a : Nat) : gN (trQ h l) a = gN h a := by
  induction l with
  | nil => rfl
  | cons b l ih => exact ih
theorem trQ_R (h : AH) (l : List Int) (a i : Nat) : gR (trQ h l) a i = gR h a i := by
  induction l with
  | nil => rfl
  | cons b l ih => exact ih
theorem trQ_J (h : AH) (l : List Int) (a i : Nat) : gJ (trQ h l) a i = gJ h a i := by
  induction l with
  | nil => rfl
  | cons b l ih => exact ih
theorem trQ_C (h : AH) (l : List Int) : gC (trQ h l) = gC h := by
  induction l with
  | nil => rfl
  | cons b l ih => exact ih
theorem trQ_S (h : AH) (l : List Int) : gS (trQ h l) = gS h := by
  induction l with
  | nil => rfl
  | cons b l ih => exact ih
theorem trQ_I (h : AH) (l : List Int) {a i : Nat} (z : a ≠ 111) (y : a ≠ 91 ∨ i ≠ 23) : gI (trQ h l) a i = gI h a i := by
  induction l with
  | nil => exact gI_sIo _ _ y
  | cons b l ih => exact (gI_sIo _ _ y).trans ((gI_sIo _ _ (Or.inl z)).trans ih)
theorem trQ_n (h : AH) (l : List Int) : gI (trQ h l) 91 23 = iv l.length := by
  cases l with
  | nil => exact gI_sIs _ _ _ _
  | cons b l => exact (gI_sIs _ _ _ _).trans (congrArg iv (by simp))
theorem trW_o (w : WD) (l : List Int) {a : Nat} {i : Int} (z : a ≠ 111) (y : a ≠ 91 ∨ i ≠ 23) : (trW w l).1 a i = w.1 a i := by
  induction l with
  | nil => exact wZ_o _ y
  | cons b l ih => exact (wZ_o _ y).trans ((wZ_o _ (Or.inl z)).trans ih)
theorem trW_n (w : WD) (l : List Int) : (trW w l).1 91 23 = l.length := by
  cases l with
  | nil => exact wZ_at _ _ _ _
  | cons b l => exact (wZ_at _ _ _ _).trans (by simp)
theorem trW_2 (w : WD) (l : List Int) : (trW w l).2 = w.2 := by
  induction l with
  | nil => rfl
  | cons b l ih => exact ih
def leB (f : Int) : List Int := if f = 5 then [1, 20, 60] else if 1 ≤ f ∧ f ≤ 4 then [1, 20] else [1]
def leV (r : Int32) (f : Int) (x : Int32) : Int32 := if f = 5 then (x + iv 1 + r - iv 1) * iv 2 else if 1 ≤ f ∧ f ≤ 4 then x + r - iv 1 else x + r
def naB (k f : Int) : List Int := if f = 4 then leB k ++ [10, 50] else if f = 2 ∨ f = 3 then leB k ++ (leB k ++ [10, 31]) else leB k ++ [10]
def naV (r : Int32) (k f : Int) (x : Int32) : Int32 := if f = 4 then -(leV r k x * iv 2) else if f = 2 ∨ f = 3 then leV r k x * iv 2 + leV r k (iv 2) else leV r k x * iv 2
def prB (k f : Int) : List Int := if f = 6 then naB k k ++ [11, 70] else if f = 2 ∨ f = 3 then [11, 30] else [11]
def prV (r : Int32) (k f : Int) (x : Int32) : Int32 := if f = 6 then (x ^^^ r) - naV r k k (iv 1) else if f = 2 ∨ f = 3 then (x ^^^ r) * iv 3 else x ^^^ r
def teB (k f : Int) : List Int := if f = 6 then prB k k ++ (naB k k ++ [2, 71]) else if f = 3 then prB k k ++ (naB k k ++ [2, 40]) else prB k k ++ (naB k k ++ [2])
def teV (r : Int32) (k f : Int) (x : Int32) : Int32 := if f = 6 then (naV r k k x - prV r k k (iv 1)) * iv 2 else if f = 3 then (naV r k k x - prV r k k (iv 1)) ^^^ iv 5 else naV r k k x - prV r k k (iv 1)
theorem leB_len (f : Int) : (leB f).length ≤ 3 := by
  unfold leB
  by_cases a : f = 5
  · rw [if_pos a]; decide
  · rw [if_neg a]
    by_cases b : 1 ≤ f ∧ f ≤ 4
    · rw [if_pos b]; decide
    · rw [if_neg b]; decide
theorem naB_len (k f : Int) : (naB k f).length ≤ 8 := by
  have := leB_len k
  unfold naB
  by_cases a : f = 4
  · rw [if_pos a, List.length_append]; simp only [List.length_cons, List.length_nil]; omega
  · rw [if_neg a]
    by_cases b : f = 2 ∨ f = 3
    · rw [if_pos b, List.length_append, List.length_append]; simp only [List.length_cons, List.length_nil]; omega
    · rw [if_neg b, List.length_append]; simp only [List.length_cons, List.length_nil]; omega
theorem prB_len (k f : Int) : (prB k f).length ≤ 10 := by
  have := naB_len k k
  unfold prB
  by_cases a : f = 6
  · rw [if_pos a, List.length_append]; simp only [List.length_cons, List.length_nil]; omega
  · rw [if_neg a]
    by_cases b : f = 2 ∨ f = 3
    · rw [if_pos b]; decide
    · rw [if_neg b]; decide
theorem teB_len (k f : Int) : (teB k f).length ≤ 20 := by
  have := naB_len k k
  have := prB_len k k
  unfold teB
  by_cases a : f = 6
  · rw [if_pos a, List.length_append, List.length_append]; simp only [List.length_cons, List.length_nil]; omega
  · rw [if_neg a]
    by_cases b : f = 3
    · rw [if_pos b, List.length_append, List.length_append]; simp only [List.length_cons, List.length_nil]; omega
    · rw [if_neg b, List.length_append, List.length_append]; simp only [List.length_cons, List.length_nil]; omega
/-- what an act needs of the class's cells -/
def AcC (h : AH) (a : Nat) (r : Int32) (k : Int) : Prop := (gK h a = 102 ∧ gI h a 0 = r ∧ gI h a 1 = iv k ∧ gR h a 2 = 10) ∧ gK h 10 = 110 ∧ gR h 10 0 = 11 ∧ gK h 11 = 1 ∧ gN h 11 = 24 ∧ 121 ≤ a ∧ 0 ≤ k ∧ k < 7
theorem AcC.tr {h : AH} {a : Nat} {r : Int32} {k : Int} (H : AcC h a r k) (l : List Int) : AcC (trC h l) a r k := by
  obtain ⟨⟨a1, a2, a3, a4⟩, b1, b2, b3, b4, c1, c2⟩ := H
  exact ⟨⟨by rw [trC_K]; exact a1, by rw [trC_I _ _ (by omega) (by omega)]; exact a2, by rw [trC_I _ _ (by omega) (by omega)]; exact a3, by rw [trC_R]; exact a4⟩, by rw [trC_K]; exact b1, by rw [trC_R]; exact b2, by rw [trC_K]; exact b3, by rw [trC_N]; exact b4, c1, c2⟩
section Q
variable {h : AH} {a : Nat} {r : Int32} {k f : Int}
set_option maxRecDepth 100000 in
theorem c_begin (H : AcC h a r k) (l : List Int) (b : Int) (hl : l.length < 24) : f_X10_begin 10 (iv b) (trC h l) = some (trC h (b :: l)) := by
  obtain ⟨-, b1, b2, b3, b4, -⟩ := H.tr l
  have n := trC_n h l
  have b1' : gK (sI (trC h l) 11 l.length (iv b)) 10 = 110 := b1
  have n' : gI (sI (trC h l) 11 l.length (iv b)) 10 1 = iv l.length := (gI_sIo _ _ (by omega)).trans n
  have e : (l.length : Int).toNat = l.length := Int.toNat_natCast _
  show _ = some (sI (sI (trC h l) 11 l.length (iv b)) 10 1 (iv (l.length + 1)))
  simp -implicitDefEqProofs (disch := omega) only [F_f_X10_begin_19, F_f_X10_begin, b1, b2, b3, b4, n, b1', n', e, iv_add, iv_sub, iv_mul, iv_neg, iv_zero, iv_ltT, iv_ltF, iv_leT, iv_leF, iv_eqT, iv_eqF, iv_div, rm_iv, tn_iv, ib_iv, some_cb, some_cbv, ↓nm_eq, ↓reduceIte, true_and, and_true, Bool.true_eq_false, Bool.false_eq_true, not_false_eq_true, not_true_eq_false]
set_option maxRecDepth 100000 in
theorem c_lets (H : AcC h a r k) (f0 : 0 ≤ f) (f1 : f < 7) (l : List Int) (hl : l.length + 3 ≤ 24) (x : Int32) : f_X2_lets a (iv f) x (trC h l) = some (leV r f x, trC h (leB f ++ l)) := by
  have L0 : ∀ (N : Nat) (l : List Int) (f : Int) (x : Int32), f = 0 ∨ f = 6 → l.length < 24 → lp b_X2_lets (fun _ _ _ _ => none) (N + 1) a (iv f) x (trC h l) = some (x + r, trC h (1 :: l)) := by
    intro N l f x hf hl
    obtain ⟨⟨a1, a2, a3, a4⟩, b1, b2, b3, b4, c1, c2⟩ := H.tr l
    obtain ⟨⟨d1, d2, d3, d4⟩, -⟩ := H.tr (1 :: l)
    have bg := c_begin H l 1 hl
    have u := c_under (h := trC h l) (f := f) (k := 1) (by omega) (by omega) (by omega) (by omega)
    rw [show undZ f 1 = 0 by unfold undZ; exact if_neg (by omega)] at u
    simp -implicitDefEqProofs (disch := omega) only [lp_succ, k_X2_lets_1, k_X2_lets_2, k_X2_lets_3, k_X2_lets_4, k_X2_lets_5, k_X2_lets_6, F_b_X2_lets, f_X2_lets, u, bg, a1, a4, b1, d1, d2, iv_add, iv_sub, iv_mul, iv_neg, iv_zero, iv_ltT, iv_ltF, iv_leT, iv_leF, iv_eqT, iv_eqF, iv_div, rm_iv, tn_iv, ib_iv, some_cb, some_cbv, ↓nm_eq, ↓reduceIte, true_and, and_true, Bool.true_eq_false, Bool.false_eq_true, not_false_eq_true, not_true_eq_false]
  have L1 : ∀ (N : Nat) (l : List Int) (f : Int) (x : Int32), 1 ≤ f ∧ f ≤ 4 → l.length + 1 < 24 → lp b_X2_lets (fun _ _ _ _ => none) (N + 2) a (iv f) x (trC h l) = some (x + r - iv 1, trC h (1 :: 20 :: l)) := by
    intro N l f x hf hl
    obtain ⟨⟨a1, a2, a3, a4⟩, b1, b2, b3, b4, c1, c2⟩ := H.tr l
    obtain ⟨⟨d1, d2, d3, d4⟩, -⟩ := H.tr (20 :: l)
    have bg := c_begin H l 20 (by omega)
    have u := c_under (h := trC h l) (f := f) (k := 1) (by omega) (by omega) (by omega) (by omega)
    rw [show undZ f 1 = 1 by unfold undZ; exact if_pos (by omega)] at u
    have L := L0 N (20 :: l) 0 x (Or.inl rfl) (by rw [List.length_cons]; omega)
    rw [lp_succ]
    generalize lp b_X2_lets (fun _ _ _ _ => none) (N + 1) = self at *
    simp -implicitDefEqProofs (disch := omega) only [k_X2_lets_1, k_X2_lets_2, k_X2_lets_3, k_X2_lets_4, k_X2_lets_5, k_X2_lets_6, F_b_X2_lets, f_X2_lets, u, bg, a1, a4, b1, d1, abv1, L, iv_add, iv_sub, iv_mul, iv_neg, iv_zero, iv_ltT, iv_ltF, iv_leT, iv_leF, iv_eqT, iv_eqF, iv_div, rm_iv, tn_iv, ib_iv, some_cb, some_cbv, ↓nm_eq, ↓reduceIte, true_and, and_true, Bool.true_eq_false, Bool.false_eq_true, not_false_eq_true, not_true_eq_false]
  show lp b_X2_lets (fun _ _ _ _ => none) 12 a (iv f) x (trC h l) = _
  unfold leV leB
  by_cases e5 : f = 5
  · rw [if_pos e5, if_pos e5]
    obtain ⟨⟨a1, a2, a3, a4⟩, b1, b2, b3, b4, c1, c2⟩ := H.tr l
    obtain ⟨⟨d1, d2, d3, d4⟩, -⟩ := H.tr (60 :: l)
    have bg := c_begin H l 60 (by omega)
    have L := L1 9 (60 :: l) 1 (x + iv 1) (by omega) (by rw [List.length_cons]; omega)
    rw [show (12 : Nat) = 11 + 1 from rfl, lp_succ]
    change lp b_X2_lets (fun _ _ _ _ => none) 11 a (iv 1) (x + iv 1) (trC h (60 :: l)) = _ at L
    generalize lp b_X2_lets (fun _ _ _ _ => none) 11 = self at *
    simp -implicitDefEqProofs (disch := omega) only [k_X2_lets_1, k_X2_lets_2, k_X2_lets_3, k_X2_lets_4, k_X2_lets_5, k_X2_lets_6, F_b_X2_lets, f_X2_lets, e5, bg, a1, a4, b1, d1, L, iv_add, iv_sub, iv_mul, iv_neg, iv_zero, iv_ltT, iv_ltF, iv_leT, iv_leF, iv_eqT, iv_eqF, iv_div, rm_iv, tn_iv, ib_iv, some_cb, some_cbv, ↓nm_eq, ↓reduceIte, true_and, and_true, Bool.true_eq_false, Bool.false_eq_true, not_false_eq_true, not_true_eq_false]
    rfl
  · rw [if_neg e5, if_neg e5]
    by_cases e1 : 1 ≤ f ∧ f ≤ 4
    · rw [if_pos e1, if_pos e1]
      exact L1 10 l f x e1 (by omega)
    · rw [if_neg e1, if_neg e1]
      exact L0 11 l f x (by omega) (by omega)
set_option maxRecDepth 100000 in
theorem c_narrows (H : AcC h a r k) (f0 : 0 ≤ f) (f1 : f < 7) (l : List Int) (hl : l.length + 8 ≤ 24) (x : Int32) : f_X2_narrows a (iv f) x (trC h l) = some (naV r k f x, trC h (naB k f ++ l)) := by
  obtain ⟨-, -, -, -, -, -, k0, k1⟩ := id H
  have lk := leB_len k
  have L0 : ∀ (N : Nat) (l : List Int) (f : Int) (x : Int32), 0 ≤ f → f < 7 → f ≠ 4 → ¬ (f = 2 ∨ f = 3) → l.length + 4 ≤ 24 → lp b_X2_narrows (fun _ _ _ _ => none) (N + 1) a (iv f) x (trC h l) = some (leV r k x * iv 2, trC h (leB k ++ (10 :: l))) := by
    intro N l f x g0 g1 g4 g2 hl
    obtain ⟨⟨a1, a2, a3, a4⟩, b1, b2, b3, b4, c1, c2⟩ := H.tr l
    obtain ⟨⟨d1, d2, d3, d4⟩, -⟩ := H.tr (10 :: l)
    have bg := c_begin H l 10 (by omega)
    have L := c_lets H k0 k1 (10 :: l) (by rw [List.length_cons]; omega) x
    have u := c_under (h := trC h l) (f := f) (k := 2) (by omega) (by omega) (by omega) (by omega)
    rw [show undZ f 2 = 0 by unfold undZ; exact if_neg (by omega)] at u
    simp -implicitDefEqProofs (disch := omega) only [lp_succ, k_X2_narrows_1, k_X2_narrows_2, k_X2_narrows_3, k_X2_narrows_4, k_X2_narrows_5, k_X2_narrows_6, k_X2_narrows_7, k_X2_narrows_8, F_b_X2_narrows, f_X2_narrows, u, bg, a1, a4, b1, d1, d3, L, iv_add, iv_sub, iv_mul, iv_neg, iv_zero, iv_ltT, iv_ltF, iv_leT, iv_leF, iv_eqT, iv_eqF, iv_div, rm_iv, tn_iv, ib_iv, some_cb, some_cbv, ↓nm_eq, ↓reduceIte, true_and, and_true, Bool.true_eq_false, Bool.false_eq_true, not_false_eq_true, not_true_eq_false]
  show lp b_X2_narrows (fun _ _ _ _ => none) (11 + 1) a (iv f) x (trC h l) = _
  unfold naV naB
  by_cases e4 : f = 4
  · rw [if_pos e4, if_pos e4, List.append_assoc]
    obtain ⟨⟨a1, a2, a3, a4⟩, b1, b2, b3, b4, c1, c2⟩ := H.tr l
    obtain ⟨⟨d1, d2, d3, d4⟩, -⟩ := H.tr (50 :: l)
    have bg := c_begin H l 50 (by omega)
    have L := L0 10 (50 :: l) 1 x (by omega) (by omega) (by omega) (by omega) (by rw [List.length_cons]; omega)
    rw [lp_succ]
    generalize lp b_X2_narrows (fun _ _ _ _ => none) (10 + 1) = self at *
    simp -implicitDefEqProofs (disch := omega) only [k_X2_narrows_1, k_X2_narrows_2, k_X2_narrows_3, k_X2_narrows_4, k_X2_narrows_5, k_X2_narrows_6, k_X2_narrows_7, k_X2_narrows_8, F_b_X2_narrows, f_X2_narrows, e4, bg, a1, a4, b1, d1, L, iv_add, iv_sub, iv_mul, iv_neg, iv_zero, iv_ltT, iv_ltF, iv_leT, iv_leF, iv_eqT, iv_eqF, iv_div, rm_iv, tn_iv, ib_iv, some_cb, some_cbv, ↓nm_eq, ↓reduceIte, true_and, and_true, Bool.true_eq_false, Bool.false_eq_true, not_false_eq_true, not_true_eq_false]
    rfl
  · rw [if_neg e4, if_neg e4]
    by_cases e2 : f = 2 ∨ f = 3
    · rw [if_pos e2, if_pos e2, List.append_assoc, List.append_assoc]
      obtain ⟨⟨a1, a2, a3, a4⟩, b1, b2, b3, b4, c1, c2⟩ := H.tr l
      obtain ⟨⟨d1, d2, d3, d4⟩, -⟩ := H.tr (31 :: l)
      obtain ⟨⟨p1, p2, p3, p4⟩, -⟩ := H.tr (leB k ++ (10 :: 31 :: l))
      have bg := c_begin H l 31 (by omega)
      have L := L0 10 (31 :: l) 1 x (by omega) (by omega) (by omega) (by omega) (by rw [List.length_cons]; omega)
      have L2 := c_lets H k0 k1 (leB k ++ (10 :: 31 :: l)) (by rw [List.length_append, List.length_cons, List.length_cons]; omega) (iv 2)
      have u := c_under (h := trC h l) (f := f) (k := 2) (by omega) (by omega) (by omega) (by omega)
      rw [show undZ f 2 = 1 by unfold undZ; exact if_pos (by omega)] at u
      rw [lp_succ]
      generalize lp b_X2_narrows (fun _ _ _ _ => none) (10 + 1) = self at *
      simp -implicitDefEqProofs (disch := omega) only [k_X2_narrows_1, k_X2_narrows_2, k_X2_narrows_3, k_X2_narrows_4, k_X2_narrows_5, k_X2_narrows_6, k_X2_narrows_7, k_X2_narrows_8, F_b_X2_narrows, f_X2_narrows, u, bg, a1, a4, b1, d1, L, p1, p3, L2, iv_add, iv_sub, iv_mul, iv_neg, iv_zero, iv_ltT, iv_ltF, iv_leT, iv_leF, iv_eqT, iv_eqF, iv_div, rm_iv, tn_iv, ib_iv, some_cb, some_cbv, ↓nm_eq, ↓reduceIte, true_and, and_true, Bool.true_eq_false, Bool.false_eq_true, not_false_eq_true, not_true_eq_false]
      rfl
    · rw [if_neg e2, if_neg e2, List.append_assoc]
      exact L0 11 l f x f0 f1 e4 e2 (by omega)
set_option maxRecDepth 100000 in
theorem c_proves (H : AcC h a r k) (f0 : 0 ≤ f) (f1 : f < 7) (l : List Int) (hl : l.length + 10 ≤ 24) (x : Int32) : f_X2_proves a (iv f) x (trC h l) = some (prV r k f x, trC h (prB k f ++ l)) := by
  obtain ⟨-, -, -, -, -, -, k0, k1⟩ := id H
  have L0 : ∀ (N : Nat) (l : List Int) (f : Int) (x : Int32), 0 ≤ f → f < 7 → f ≠ 6 → ¬ (f = 2 ∨ f = 3) → l.length + 1 ≤ 24 → lp b_X2_proves (fun _ _ _ _ => none) (N + 1) a (iv f) x (trC h l) = some (x ^^^ r, trC h (11 :: l)) := by
    intro N l f x g0 g1 g4 g2 hl
    obtain ⟨⟨a1, a2, a3, a4⟩, b1, b2, b3, b4, c1, c2⟩ := H.tr l
    obtain ⟨⟨d1, d2, d3, d4⟩, -⟩ := H.tr (11 :: l)
    have bg := c_begin H l 11 (by omega)
    have u := c_under (h := trC h l) (f := f) (k := 2) (by omega) (by omega) (by omega) (by omega)
    rw [show undZ f 2 = 0 by unfold undZ; exact if_neg (by omega)] at u
    simp -implicitDefEqProofs (disch := omega) only [lp_succ, k_X2_proves_1, k_X2_proves_2, k_X2_proves_3, k_X2_proves_4, k_X2_proves_5, k_X2_proves_6, k_X2_proves_7, F_b_X2_proves, f_X2_proves, u, bg, a1, a4, b1, d1, d2, iv_add, iv_sub, iv_mul, iv_neg, iv_zero, iv_ltT, iv_ltF, iv_leT, iv_leF, iv_eqT, iv_eqF, iv_div, rm_iv, tn_iv, ib_iv, some_cb, some_cbv, ↓nm_eq, ↓reduceIte, true_and, and_true, Bool.true_eq_false, Bool.false_eq_true, not_false_eq_true, not_true_eq_false]
  show lp b_X2_proves (fun _ _ _ _ => none) (11 + 1) a (iv f) x (trC h l) = _
  unfold prV prB
  by_cases e6 : f = 6
  · rw [if_pos e6, if_pos e6, List.append_assoc]
    obtain ⟨⟨a1, a2, a3, a4⟩, b1, b2, b3, b4, c1, c2⟩ := H.tr l
    obtain ⟨⟨d1, d2, d3, d4⟩, -⟩ := H.tr (70 :: l)
    obtain ⟨⟨p1, p2, p3, p4⟩, -⟩ := H.tr (11 :: 70 :: l)
    have bg := c_begin H l 70 (by omega)
    have L := L0 10 (70 :: l) 0 x (by omega) (by omega) (by omega) (by omega) (by rw [List.length_cons]; omega)
    have L2 := c_narrows H k0 k1 (11 :: 70 :: l) (by rw [List.length_cons, List.length_cons]; omega) (iv 1)
    rw [lp_succ]
    generalize lp b_X2_proves (fun _ _ _ _ => none) (10 + 1) = self at *
    simp -implicitDefEqProofs (disch := omega) only [k_X2_proves_1, k_X2_proves_2, k_X2_proves_3, k_X2_proves_4, k_X2_proves_5, k_X2_proves_6, k_X2_proves_7, F_b_X2_proves, f_X2_proves, e6, bg, a1, a4, b1, d1, abv6, L, p1, p3, L2, iv_add, iv_sub, iv_mul, iv_neg, iv_zero, iv_ltT, iv_ltF, iv_leT, iv_leF, iv_eqT, iv_eqF, iv_div, rm_iv, tn_iv, ib_iv, some_cb, some_cbv, ↓nm_eq, ↓reduceIte, true_and, and_true, Bool.true_eq_false, Bool.false_eq_true, not_false_eq_true, not_true_eq_false]
    rfl
  · rw [if_neg e6, if_neg e6]
    by_cases e2 : f = 2 ∨ f = 3
    · rw [if_pos e2, if_pos e2]
      obtain ⟨⟨a1, a2, a3, a4⟩, b1, b2, b3, b4, c1, c2⟩ := H.tr l
      obtain ⟨⟨d1, d2, d3, d4⟩, -⟩ := H.tr (30 :: l)
      have bg := c_begin H l 30 (by omega)
      have L := L0 10 (30 :: l) 1 x (by omega) (by omega) (by omega) (by omega) (by rw [List.length_cons]; omega)
      have u := c_under (h := trC h l) (f := f) (k := 2) (by omega) (by omega) (by omega) (by omega)
      rw [show undZ f 2 = 1 by unfold undZ; exact if_pos (by omega)] at u
      rw [lp_succ]
      generalize lp b_X2_proves (fun _ _ _ _ => none) (10 + 1) = self at *
      simp -implicitDefEqProofs (disch := omega) only [k_X2_proves_1, k_X2_proves_2, k_X2_proves_3, k_X2_proves_4, k_X2_proves_5, k_X2_proves_6, k_X2_proves_7, F_b_X2_proves, f_X2_proves, u, bg, a1, a4, b1, d1, L, iv_add, iv_sub, iv_mul, iv_neg, iv_zero, iv_ltT, iv_ltF, iv_leT, iv_leF, iv_eqT, iv_eqF, iv_div, rm_iv, tn_iv, ib_iv, some_cb, some_cbv, ↓nm_eq, ↓reduceIte, true_and, and_true, Bool.true_eq_false, Bool.false_eq_true, not_false_eq_true, not_true_eq_false]
      rfl
    · rw [if_neg e2, if_neg e2]
      exact L0 11 l f x f0 f1 e6 e2 (by omega)
set_option maxRecDepth 100000 in
theorem c_tells (H : AcC h a r k) (f0 : 0 ≤ f) (f1 : f < 7) (l : List Int) (hl : l.length + 20 ≤ 24) (x : Int32) : f_X2_tells a (iv f) x (trC h l) = some (teV r k f x, trC h (teB k f ++ l)) := by
  obtain ⟨-, -, -, -, -, -, k0, k1⟩ := id H
  have ln := naB_len k k
  have L0 : ∀ (N : Nat) (l : List Int) (f : Int) (x : Int32), 0 ≤ f → f < 7 → f ≠ 6 → f ≠ 3 → l.length + 19 ≤ 24 → lp b_X2_tells (fun _ _ _ _ => none) (N + 1) a (iv f) x (trC h l) = some (naV r k k x - prV r k k (iv 1), trC h (prB k k ++ (naB k k ++ (2 :: l)))) := by
    intro N l f x g0 g1 g4 g2 hl
    obtain ⟨⟨a1, a2, a3, a4⟩, b1, b2, b3, b4, c1, c2⟩ := H.tr l
    obtain ⟨⟨d1, d2, d3, d4⟩, -⟩ := H.tr (2 :: l)
    obtain ⟨⟨p1, p2, p3, p4⟩, -⟩ := H.tr (naB k k ++ (2 :: l))
    have bg := c_begin H l 2 (by omega)
    have L := c_narrows H k0 k1 (2 :: l) (by rw [List.length_cons]; omega) x
    have L2 := c_proves H k0 k1 (naB k k ++ (2 :: l)) (by rw [List.length_append, List.length_cons]; omega) (iv 1)
    simp -implicitDefEqProofs (disch := omega) only [lp_succ, k_X2_tells_1, k_X2_tells_2, k_X2_tells_3, k_X2_tells_4, k_X2_tells_5, k_X2_tells_6, k_X2_tells_7, F_b_X2_tells, f_X2_tells, bg, a1, a4, b1, d1, d3, L, p1, p3, L2, iv_add, iv_sub, iv_mul, iv_neg, iv_zero, iv_ltT, iv_ltF, iv_leT, iv_leF, iv_eqT, iv_eqF, iv_div, rm_iv, tn_iv, ib_iv, some_cb, some_cbv, ↓nm_eq, ↓reduceIte, true_and, and_true, Bool.true_eq_false, Bool.false_eq_true, not_false_eq_true, not_true_eq_false]
  show lp b_X2_tells (fun _ _ _ _ => none) (11 + 1) a (iv f) x (trC h l) = _
  unfold teV teB
  by_cases e6 : f = 6
  · rw [if_pos e6, if_pos e6, List.append_assoc, List.append_assoc]
    obtain ⟨⟨a1, a2, a3, a4⟩, b1, b2, b3, b4, c1, c2⟩ := H.tr l
    obtain ⟨⟨d1, d2, d3, d4⟩, -⟩ := H.tr (71 :: l)
    have bg := c_begin H l 71 (by omega)
    have L := L0 10 (71 :: l) 0 x (by omega) (by omega) (by omega) (by omega) (by rw [List.length_cons]; omega)
    rw [lp_succ]
    generalize lp b_X2_tells (fun _ _ _ _ => none) (10 + 1) = self at *
    simp -implicitDefEqProofs (disch := omega) only [k_X2_tells_1, k_X2_tells_2, k_X2_tells_3, k_X2_tells_4, k_X2_tells_5, k_X2_tells_6, k_X2_tells_7, F_b_X2_tells, f_X2_tells, e6, bg, a1, a4, b1, d1, abv6, L, iv_add, iv_sub, iv_mul, iv_neg, iv_zero, iv_ltT, iv_ltF, iv_leT, iv_leF, iv_eqT, iv_eqF, iv_div, rm_iv, tn_iv, ib_iv, some_cb, some_cbv, ↓nm_eq, ↓reduceIte, true_and, and_true, Bool.true_eq_false, Bool.false_eq_true, not_false_eq_true, not_true_eq_false]
    rfl
  · rw [if_neg e6, if_neg e6]
    by_cases e3 : f = 3
    · rw [if_pos e3, if_pos e3, List.append_assoc, List.append_assoc]
      obtain ⟨⟨a1, a2, a3, a4⟩, b1, b2, b3, b4, c1, c2⟩ := H.tr l
      obtain ⟨⟨d1, d2, d3, d4⟩, -⟩ := H.tr (40 :: l)
      have bg := c_begin H l 40 (by omega)
      have L := L0 10 (40 :: l) 2 x (by omega) (by omega) (by omega) (by omega) (by rw [List.length_cons]; omega)
      rw [lp_succ]
      generalize lp b_X2_tells (fun _ _ _ _ => none) (10 + 1) = self at *
      simp -implicitDefEqProofs (disch := omega) only [k_X2_tells_1, k_X2_tells_2, k_X2_tells_3, k_X2_tells_4, k_X2_tells_5, k_X2_tells_6, k_X2_tells_7, F_b_X2_tells, f_X2_tells, e3, bg, a1, a4, b1, d1, L, iv_add, iv_sub, iv_mul, iv_neg, iv_zero, iv_ltT, iv_ltF, iv_leT, iv_leF, iv_eqT, iv_eqF, iv_div, rm_iv, tn_iv, ib_iv, some_cb, some_cbv, ↓nm_eq, ↓reduceIte, true_and, and_true, Bool.true_eq_false, Bool.false_eq_true, not_false_eq_true, not_true_eq_false]
      rfl
    · rw [if_neg e3, if_neg e3, List.append_assoc, List.append_assoc]
      exact L0 11 l f x f0 f1 e6 e3 (by omega)
end Q
