/-! acts: the reference's side, and both -/
section Q
variable {w w' : WD} {A A' : Int → Nat} {h h' h1 : AH} {n k f : Int}
/-- what an act needs of the reference's rows -/
def AcQ (h : AH) (n k : Int) : Prop := Fix h ∧ gI h 110 n.toNat = iv k ∧ 0 ≤ n ∧ n < 50 ∧ 0 ≤ k ∧ k < 7
theorem AcQ.tr (H : AcQ h n k) (l : List Int) : AcQ (trQ h l) n k := by
  obtain ⟨a1, a2, a3⟩ := H
  exact ⟨a1.fr (fun a _ => trQ_K h l a) (fun a _ => trQ_N h l a) (fun a i _ _ _ _ => trQ_R h l a i), by rw [trQ_I _ _ (by omega) (by omega)]; exact a2, a3⟩
set_option maxRecDepth 100000 in
theorem q_begins (H : AcQ h n k) (l : List Int) (b : Int) (hl : l.length < 24) : f_X12_beginsBody 91 (iv b) (trQ h l) = some (trQ h (b :: l)) := by
  have hF := (H.tr l).1
  have n := trQ_n h l
  have n' : gI (sI (trQ h l) 111 l.length (iv b)) 91 23 = iv l.length := (gI_sIo _ _ (by omega)).trans n
  have e : (l.length : Int).toNat = l.length := Int.toNat_natCast _
  show _ = some (sI (sI (trQ h l) 111 l.length (iv b)) 91 23 (iv (l.length + 1)))
  simp -implicitDefEqProofs (disch := omega) only [F_f_X12_beginsBody_19, F_f_X12_beginsBody, K91 hF, R91_22 hF, K111 hF, N111 hF, gK_sI, gR_sI, n, n', e, iv_add, iv_sub, iv_mul, iv_neg, iv_zero, iv_ltT, iv_ltF, iv_leT, iv_leF, iv_eqT, iv_eqF, iv_div, rm_iv, tn_iv, ib_iv, some_cb, some_cbv, ↓nm_eq, ↓reduceIte, true_and, and_true, Bool.true_eq_false, Bool.false_eq_true, not_false_eq_true, not_true_eq_false]
set_option maxRecDepth 100000 in
theorem q_lets (H : AcQ h n k) (f0 : 0 ≤ f) (f1 : f < 7) (l : List Int) (hl : l.length + 3 ≤ 24) (x : Int32) : f_X12_letsFrom 91 (iv n) (iv f) x (trQ h l) = some (leV (iv n) f x, trQ h (leB f ++ l)) := by
  have L0 : ∀ (N : Nat) (l : List Int) (x : Int32), l.length < 24 → lp b_X12_letsFrom (fun _ _ _ _ _ => none) (N + 1) 91 (iv n) (iv 0) x (trQ h l) = some (x + iv n, trQ h (1 :: l)) := by
    intro N l x hl
    have hF := (H.tr l).1
    have bg := q_begins H l 1 hl
    simp -implicitDefEqProofs (disch := omega) only [lp_succ, k_X12_letsFrom_1, k_X12_letsFrom_2, k_X12_letsFrom_3, k_X12_letsFrom_4, k_X12_letsFrom_5, k_X12_letsFrom_6, k_X12_letsFrom_7, F_b_X12_letsFrom, f_X12_letsFrom, bg, K91 hF, iv_add, iv_sub, iv_mul, iv_neg, iv_zero, iv_ltT, iv_ltF, iv_leT, iv_leF, iv_eqT, iv_eqF, iv_div, rm_iv, tn_iv, ib_iv, some_cb, some_cbv, ↓nm_eq, ↓reduceIte, true_and, and_true, Bool.true_eq_false, Bool.false_eq_true, not_false_eq_true, not_true_eq_false]
  have L1 : ∀ (N : Nat) (l : List Int) (x : Int32), l.length + 1 < 24 → lp b_X12_letsFrom (fun _ _ _ _ _ => none) (N + 2) 91 (iv n) (iv 1) x (trQ h l) = some (x + iv n - iv 1, trQ h (1 :: 20 :: l)) := by
    intro N l x hl
    have hF := (H.tr l).1
    have hF2 := (H.tr (20 :: l)).1
    have bg := q_begins H l 20 (by omega)
    have L := L0 N (20 :: l) x (by rw [List.length_cons]; omega)
    rw [lp_succ]
    generalize lp b_X12_letsFrom (fun _ _ _ _ _ => none) (N + 1) = self at *
    simp -implicitDefEqProofs (disch := omega) only [k_X12_letsFrom_1, k_X12_letsFrom_2, k_X12_letsFrom_3, k_X12_letsFrom_4, k_X12_letsFrom_5, k_X12_letsFrom_6, k_X12_letsFrom_7, F_b_X12_letsFrom, f_X12_letsFrom, bg, K91 hF, K91 hF2, L, iv_add, iv_sub, iv_mul, iv_neg, iv_zero, iv_ltT, iv_ltF, iv_leT, iv_leF, iv_eqT, iv_eqF, iv_div, rm_iv, tn_iv, ib_iv, some_cb, some_cbv, ↓nm_eq, ↓reduceIte, true_and, and_true, Bool.true_eq_false, Bool.false_eq_true, not_false_eq_true, not_true_eq_false]
  have L2 : ∀ (N : Nat) (l : List Int) (x : Int32), l.length + 1 < 24 → lp b_X12_letsFrom (fun _ _ _ _ _ => none) (N + 3) 91 (iv n) (iv 2) x (trQ h l) = some (x + iv n - iv 1, trQ h (1 :: 20 :: l)) := by
    intro N l x hl
    have hF := (H.tr l).1
    have L := L1 N l x hl
    rw [lp_succ]
    generalize lp b_X12_letsFrom (fun _ _ _ _ _ => none) (N + 2) = self at *
    simp -implicitDefEqProofs (disch := omega) only [k_X12_letsFrom_1, k_X12_letsFrom_2, k_X12_letsFrom_3, k_X12_letsFrom_4, k_X12_letsFrom_5, k_X12_letsFrom_6, k_X12_letsFrom_7, F_b_X12_letsFrom, f_X12_letsFrom, F_f_X12_aboveOf, K91 hF, L, iv_add, iv_sub, iv_mul, iv_neg, iv_zero, iv_ltT, iv_ltF, iv_leT, iv_leF, iv_eqT, iv_eqF, iv_div, rm_iv, tn_iv, ib_iv, some_cb, some_cbv, ↓nm_eq, ↓reduceIte, true_and, and_true, Bool.true_eq_false, Bool.false_eq_true, not_false_eq_true, not_true_eq_false]
  show lp b_X12_letsFrom (fun _ _ _ _ _ => none) 12 91 (iv n) (iv f) x (trQ h l) = _
  have hF := (H.tr l).1
  unfold leV leB
  rcases (show f = 0 ∨ f = 1 ∨ f = 2 ∨ f = 3 ∨ f = 4 ∨ f = 5 ∨ f = 6 by omega) with q | q | q | q | q | q | q <;> subst q
  · exact L0 11 l x (by omega)
  · exact L1 10 l x (by omega)
  · exact L2 9 l x (by omega)
  · change lp b_X12_letsFrom (fun _ _ _ _ _ => none) 12 91 (iv n) (iv 3) x (trQ h l) = some (x + iv n - iv 1, trQ h (1 :: 20 :: l))
    have L := L2 8 l x (by omega)
    change lp b_X12_letsFrom (fun _ _ _ _ _ => none) 11 91 (iv n) (iv 2) x (trQ h l) = _ at L
    rw [show (12 : Nat) = 11 + 1 from rfl, lp_succ]
    generalize lp b_X12_letsFrom (fun _ _ _ _ _ => none) 11 = self at *
    simp -implicitDefEqProofs (disch := omega) only [k_X12_letsFrom_1, k_X12_letsFrom_2, k_X12_letsFrom_3, k_X12_letsFrom_4, k_X12_letsFrom_5, k_X12_letsFrom_6, k_X12_letsFrom_7, F_b_X12_letsFrom, f_X12_letsFrom, F_f_X12_aboveOf, K91 hF, L, iv_add, iv_sub, iv_mul, iv_neg, iv_zero, iv_ltT, iv_ltF, iv_leT, iv_leF, iv_eqT, iv_eqF, iv_div, rm_iv, tn_iv, ib_iv, some_cb, some_cbv, ↓nm_eq, ↓reduceIte, true_and, and_true, Bool.true_eq_false, Bool.false_eq_true, not_false_eq_true, not_true_eq_false, List.cons_append, List.nil_append]
  · change lp b_X12_letsFrom (fun _ _ _ _ _ => none) 12 91 (iv n) (iv 4) x (trQ h l) = some (x + iv n - iv 1, trQ h (1 :: 20 :: l))
    have L := L1 9 l x (by omega)
    change lp b_X12_letsFrom (fun _ _ _ _ _ => none) 11 91 (iv n) (iv 1) x (trQ h l) = _ at L
    rw [show (12 : Nat) = 11 + 1 from rfl, lp_succ]
    generalize lp b_X12_letsFrom (fun _ _ _ _ _ => none) 11 = self at *
    simp -implicitDefEqProofs (disch := omega) only [k_X12_letsFrom_1, k_X12_letsFrom_2, k_X12_letsFrom_3, k_X12_letsFrom_4, k_X12_letsFrom_5, k_X12_letsFrom_6, k_X12_letsFrom_7, F_b_X12_letsFrom, f_X12_letsFrom, F_f_X12_aboveOf, K91 hF, L, iv_add, iv_sub, iv_mul, iv_neg, iv_zero, iv_ltT, iv_ltF, iv_leT, iv_leF, iv_eqT, iv_eqF, iv_div, rm_iv, tn_iv, ib_iv, some_cb, some_cbv, ↓nm_eq, ↓reduceIte, true_and, and_true, Bool.true_eq_false, Bool.false_eq_true, not_false_eq_true, not_true_eq_false, List.cons_append, List.nil_append]
  · change lp b_X12_letsFrom (fun _ _ _ _ _ => none) 12 91 (iv n) (iv 5) x (trQ h l) = some ((x + iv 1 + iv n - iv 1) * iv 2, trQ h (1 :: 20 :: 60 :: l))
    have hF2 := (H.tr (60 :: l)).1
    have bg := q_begins H l 60 (by omega)
    have L := L1 9 (60 :: l) (x + iv 1) (by rw [List.length_cons]; omega)
    change lp b_X12_letsFrom (fun _ _ _ _ _ => none) 11 91 (iv n) (iv 1) (x + iv 1) (trQ h (60 :: l)) = _ at L
    rw [show (12 : Nat) = 11 + 1 from rfl, lp_succ]
    generalize lp b_X12_letsFrom (fun _ _ _ _ _ => none) 11 = self at *
    simp -implicitDefEqProofs (disch := omega) only [k_X12_letsFrom_1, k_X12_letsFrom_2, k_X12_letsFrom_3, k_X12_letsFrom_4, k_X12_letsFrom_5, k_X12_letsFrom_6, k_X12_letsFrom_7, F_b_X12_letsFrom, f_X12_letsFrom, bg, K91 hF, K91 hF2, L, iv_add, iv_sub, iv_mul, iv_neg, iv_zero, iv_ltT, iv_ltF, iv_leT, iv_leF, iv_eqT, iv_eqF, iv_div, rm_iv, tn_iv, ib_iv, some_cb, some_cbv, ↓nm_eq, ↓reduceIte, true_and, and_true, Bool.true_eq_false, Bool.false_eq_true, not_false_eq_true, not_true_eq_false, List.cons_append, List.nil_append]
  · change lp b_X12_letsFrom (fun _ _ _ _ _ => none) 12 91 (iv n) (iv 6) x (trQ h l) = some (x + iv n, trQ h (1 :: l))
    have L := L0 10 l x (by omega)
    change lp b_X12_letsFrom (fun _ _ _ _ _ => none) 11 91 (iv n) (iv 0) x (trQ h l) = _ at L
    rw [show (12 : Nat) = 11 + 1 from rfl, lp_succ]
    generalize lp b_X12_letsFrom (fun _ _ _ _ _ => none) 11 = self at *
    simp -implicitDefEqProofs (disch := omega) only [k_X12_letsFrom_1, k_X12_letsFrom_2, k_X12_letsFrom_3, k_X12_letsFrom_4, k_X12_letsFrom_5, k_X12_letsFrom_6, k_X12_letsFrom_7, F_b_X12_letsFrom, f_X12_letsFrom, F_f_X12_aboveOf, K91 hF, L, iv_add, iv_sub, iv_mul, iv_neg, iv_zero, iv_ltT, iv_ltF, iv_leT, iv_leF, iv_eqT, iv_eqF, iv_div, rm_iv, tn_iv, ib_iv, some_cb, some_cbv, ↓nm_eq, ↓reduceIte, true_and, and_true, Bool.true_eq_false, Bool.false_eq_true, not_false_eq_true, not_true_eq_false, List.cons_append, List.nil_append]
set_option maxRecDepth 100000 in
theorem q_narrows (H : AcQ h n k) (f0 : 0 ≤ f) (f1 : f < 7) (l : List Int) (hl : l.length + 8 ≤ 24) (x : Int32) : f_X12_narrowsFrom 91 (iv n) (iv f) x (trQ h l) = some (naV (iv n) k f x, trQ h (naB k f ++ l)) := by
  obtain ⟨-, -, n0, n1, k0, k1⟩ := id H
  have lk := leB_len k
  have L0 : ∀ (N : Nat) (l : List Int) (x : Int32), l.length + 4 ≤ 24 → lp b_X12_narrowsFrom (fun _ _ _ _ _ => none) (N + 1) 91 (iv n) (iv 0) x (trQ h l) = some (leV (iv n) k x * iv 2, trQ h (leB k ++ (10 :: l))) := by
    intro N l x hl
    have hF := (H.tr l).1
    obtain ⟨hF2, d, -⟩ := H.tr (10 :: l)
    have bg := q_begins H l 10 (by omega)
    have L := q_lets H k0 k1 (10 :: l) (by rw [List.length_cons]; omega) x
    simp -implicitDefEqProofs (disch := omega) only [lp_succ, k_X12_narrowsFrom_1, k_X12_narrowsFrom_2, k_X12_narrowsFrom_3, k_X12_narrowsFrom_4, k_X12_narrowsFrom_5, k_X12_narrowsFrom_6, k_X12_narrowsFrom_7, k_X12_narrowsFrom_8, k_X12_narrowsFrom_9, k_X12_narrowsFrom_10, k_X12_narrowsFrom_11, k_X12_narrowsFrom_12, k_X12_narrowsFrom_13, F_b_X12_narrowsFrom, f_X12_narrowsFrom, bg, K91 hF, K91 hF2, R91_21 hF2, K110 hF2, N110 hF2, d, L, iv_add, iv_sub, iv_mul, iv_neg, iv_zero, iv_ltT, iv_ltF, iv_leT, iv_leF, iv_eqT, iv_eqF, iv_div, rm_iv, tn_iv, ib_iv, some_cb, some_cbv, ↓nm_eq, ↓reduceIte, true_and, and_true, Bool.true_eq_false, Bool.false_eq_true, not_false_eq_true, not_true_eq_false]
  have L1 : ∀ (N : Nat) (l : List Int) (x : Int32), l.length + 4 ≤ 24 → lp b_X12_narrowsFrom (fun _ _ _ _ _ => none) (N + 2) 91 (iv n) (iv 1) x (trQ h l) = some (leV (iv n) k x * iv 2, trQ h (leB k ++ (10 :: l))) := by
    intro N l x hl
    have hF := (H.tr l).1
    have L := L0 N l x hl
    rw [lp_succ]
    generalize lp b_X12_narrowsFrom (fun _ _ _ _ _ => none) (N + 1) = self at *
    simp -implicitDefEqProofs (disch := omega) only [k_X12_narrowsFrom_1, k_X12_narrowsFrom_2, k_X12_narrowsFrom_3, k_X12_narrowsFrom_4, k_X12_narrowsFrom_5, k_X12_narrowsFrom_6, k_X12_narrowsFrom_7, k_X12_narrowsFrom_8, k_X12_narrowsFrom_9, k_X12_narrowsFrom_10, k_X12_narrowsFrom_11, k_X12_narrowsFrom_12, k_X12_narrowsFrom_13, F_b_X12_narrowsFrom, f_X12_narrowsFrom, F_f_X12_aboveOf, K91 hF, L, iv_add, iv_sub, iv_mul, iv_neg, iv_zero, iv_ltT, iv_ltF, iv_leT, iv_leF, iv_eqT, iv_eqF, iv_div, rm_iv, tn_iv, ib_iv, some_cb, some_cbv, ↓nm_eq, ↓reduceIte, true_and, and_true, Bool.true_eq_false, Bool.false_eq_true, not_false_eq_true, not_true_eq_false]
  have L2 : ∀ (N : Nat) (l : List Int) (x : Int32), l.length + 8 ≤ 24 → lp b_X12_narrowsFrom (fun _ _ _ _ _ => none) (N + 3) 91 (iv n) (iv 2) x (trQ h l) = some (leV (iv n) k x * iv 2 + leV (iv n) k (iv 2), trQ h (leB k ++ (leB k ++ (10 :: 31 :: l)))) := by
    intro N l x hl
    have hF := (H.tr l).1
    have hF2 := (H.tr (31 :: l)).1
    obtain ⟨hF3, d, -⟩ := H.tr (leB k ++ (10 :: 31 :: l))
    have bg := q_begins H l 31 (by omega)
    have L := L1 N (31 :: l) x (by rw [List.length_cons]; omega)
    have L2 := q_lets H k0 k1 (leB k ++ (10 :: 31 :: l)) (by rw [List.length_append, List.length_cons, List.length_cons]; omega) (iv 2)
    rw [lp_succ]
    generalize lp b_X12_narrowsFrom (fun _ _ _ _ _ => none) (N + 2) = self at *
    simp -implicitDefEqProofs (disch := omega) only [k_X12_narrowsFrom_1, k_X12_narrowsFrom_2, k_X12_narrowsFrom_3, k_X12_narrowsFrom_4, k_X12_narrowsFrom_5, k_X12_narrowsFrom_6, k_X12_narrowsFrom_7, k_X12_narrowsFrom_8, k_X12_narrowsFrom_9, k_X12_narrowsFrom_10, k_X12_narrowsFrom_11, k_X12_narrowsFrom_12, k_X12_narrowsFrom_13, F_b_X12_narrowsFrom, f_X12_narrowsFrom, bg, K91 hF, K91 hF2, K91 hF3, R91_21 hF3, K110 hF3, N110 hF3, d, L, L2, iv_add, iv_sub, iv_mul, iv_neg, iv_zero, iv_ltT, iv_ltF, iv_leT, iv_leF, iv_eqT, iv_eqF, iv_div, rm_iv, tn_iv, ib_iv, some_cb, some_cbv, ↓nm_eq, ↓reduceIte, true_and, and_true, Bool.true_eq_false, Bool.false_eq_true, not_false_eq_true, not_true_eq_false]
  show lp b_X12_narrowsFrom (fun _ _ _ _ _ => none) 12 91 (iv n) (iv f) x (trQ h l) = _
  have hF := (H.tr l).1
  unfold naV naB
  rcases (show f = 0 ∨ f = 1 ∨ f = 2 ∨ f = 3 ∨ f = 4 ∨ f = 5 ∨ f = 6 by omega) with q | q | q | q | q | q | q <;> subst q
  · change lp b_X12_narrowsFrom (fun _ _ _ _ _ => none) 12 91 (iv n) (iv 0) x (trQ h l) = some (leV (iv n) k x * iv 2, trQ h ((leB k ++ [10]) ++ l))
    rw [List.append_assoc]
    exact L0 11 l x (by omega)
  · change lp b_X12_narrowsFrom (fun _ _ _ _ _ => none) 12 91 (iv n) (iv 1) x (trQ h l) = some (leV (iv n) k x * iv 2, trQ h ((leB k ++ [10]) ++ l))
    rw [List.append_assoc]
    exact L1 10 l x (by omega)
  · change lp b_X12_narrowsFrom (fun _ _ _ _ _ => none) 12 91 (iv n) (iv 2) x (trQ h l) = some (leV (iv n) k x * iv 2 + leV (iv n) k (iv 2), trQ h ((leB k ++ (leB k ++ [10, 31])) ++ l))
    rw [List.append_assoc, List.append_assoc]
    exact L2 9 l x (by omega)
  · change lp b_X12_narrowsFrom (fun _ _ _ _ _ => none) 12 91 (iv n) (iv 3) x (trQ h l) = some (leV (iv n) k x * iv 2 + leV (iv n) k (iv 2), trQ h ((leB k ++ (leB k ++ [10, 31])) ++ l))
    rw [List.append_assoc, List.append_assoc]
    have L := L2 8 l x (by omega)
    change lp b_X12_narrowsFrom (fun _ _ _ _ _ => none) 11 91 (iv n) (iv 2) x (trQ h l) = _ at L
    rw [show (12 : Nat) = 11 + 1 from rfl, lp_succ]
    generalize lp b_X12_narrowsFrom (fun _ _ _ _ _ => none) 11 = self at *
    simp -implicitDefEqProofs (disch := omega) only [k_X12_narrowsFrom_1, k_X12_narrowsFrom_2, k_X12_narrowsFrom_3, k_X12_narrowsFrom_4, k_X12_narrowsFrom_5, k_X12_narrowsFrom_6, k_X12_narrowsFrom_7, k_X12_narrowsFrom_8, k_X12_narrowsFrom_9, k_X12_narrowsFrom_10, k_X12_narrowsFrom_11, k_X12_narrowsFrom_12, k_X12_narrowsFrom_13, F_b_X12_narrowsFrom, f_X12_narrowsFrom, F_f_X12_aboveOf, K91 hF, L, iv_add, iv_sub, iv_mul, iv_neg, iv_zero, iv_ltT, iv_ltF, iv_leT, iv_leF, iv_eqT, iv_eqF, iv_div, rm_iv, tn_iv, ib_iv, some_cb, some_cbv, ↓nm_eq, ↓reduceIte, true_and, and_true, Bool.true_eq_false, Bool.false_eq_true, not_false_eq_true, not_true_eq_false, List.cons_append, List.nil_append]
  · change lp b_X12_narrowsFrom (fun _ _ _ _ _ => none) 12 91 (iv n) (iv 4) x (trQ h l) = some (-(leV (iv n) k x * iv 2), trQ h ((leB k ++ [10, 50]) ++ l))
    rw [List.append_assoc]
    have hF2 := (H.tr (50 :: l)).1
    have bg := q_begins H l 50 (by omega)
    have L := L1 9 (50 :: l) x (by rw [List.length_cons]; omega)
    change lp b_X12_narrowsFrom (fun _ _ _ _ _ => none) 11 91 (iv n) (iv 1) x (trQ h (50 :: l)) = _ at L
    rw [show (12 : Nat) = 11 + 1 from rfl, lp_succ]
    generalize lp b_X12_narrowsFrom (fun _ _ _ _ _ => none) 11 = self at *
    simp -implicitDefEqProofs (disch := omega) only [k_X12_narrowsFrom_1, k_X12_narrowsFrom_2, k_X12_narrowsFrom_3, k_X12_narrowsFrom_4, k_X12_narrowsFrom_5, k_X12_narrowsFrom_6, k_X12_narrowsFrom_7, k_X12_narrowsFrom_8, k_X12_narrowsFrom_9, k_X12_narrowsFrom_10, k_X12_narrowsFrom_11, k_X12_narrowsFrom_12, k_X12_narrowsFrom_13, F_b_X12_narrowsFrom, f_X12_narrowsFrom, bg, K91 hF, K91 hF2, L, iv_add, iv_sub, iv_mul, iv_neg, iv_zero, iv_ltT, iv_ltF, iv_leT, iv_leF, iv_eqT, iv_eqF, iv_div, rm_iv, tn_iv, ib_iv, some_cb, some_cbv, ↓nm_eq, ↓reduceIte, true_and, and_true, Bool.true_eq_false, Bool.false_eq_true, not_false_eq_true, not_true_eq_false, List.cons_append, List.nil_append]
  · change lp b_X12_narrowsFrom (fun _ _ _ _ _ => none) 12 91 (iv n) (iv 5) x (trQ h l) = some (leV (iv n) k x * iv 2, trQ h ((leB k ++ [10]) ++ l))
    rw [List.append_assoc]
    have L := L1 9 l x (by omega)
    change lp b_X12_narrowsFrom (fun _ _ _ _ _ => none) 11 91 (iv n) (iv 1) x (trQ h l) = _ at L
    rw [show (12 : Nat) = 11 + 1 from rfl, lp_succ]
    generalize lp b_X12_narrowsFrom (fun _ _ _ _ _ => none) 11 = self at *
    simp -implicitDefEqProofs (disch := omega) only [k_X12_narrowsFrom_1, k_X12_narrowsFrom_2, k_X12_narrowsFrom_3, k_X12_narrowsFrom_4, k_X12_narrowsFrom_5, k_X12_narrowsFrom_6, k_X12_narrowsFrom_7, k_X12_narrowsFrom_8, k_X12_narrowsFrom_9, k_X12_narrowsFrom_10, k_X12_narrowsFrom_11, k_X12_narrowsFrom_12, k_X12_narrowsFrom_13, F_b_X12_narrowsFrom, f_X12_narrowsFrom, F_f_X12_aboveOf, K91 hF, L, iv_add, iv_sub, iv_mul, iv_neg, iv_zero, iv_ltT, iv_ltF, iv_leT, iv_leF, iv_eqT, iv_eqF, iv_div, rm_iv, tn_iv, ib_iv, some_cb, some_cbv, ↓nm_eq, ↓reduceIte, true_and, and_true, Bool.true_eq_false, Bool.false_eq_true, not_false_eq_true, not_true_eq_false, List.cons_append, List.nil_append]
  · change lp b_X12_narrowsFrom (fun _ _ _ _ _ => none) 12 91 (iv n) (iv 6) x (trQ h l) = some (leV (iv n) k x * iv 2, trQ h ((leB k ++ [10]) ++ l))
    rw [List.append_assoc]
    have L := L0 10 l x (by omega)
    change lp b_X12_narrowsFrom (fun _ _ _ _ _ => none) 11 91 (iv n) (iv 0) x (trQ h l) = _ at L
    rw [show (12 : Nat) = 11 + 1 from rfl, lp_succ]
    generalize lp b_X12_narrowsFrom (fun _ _ _ _ _ => none) 11 = self at *
    simp -implicitDefEqProofs (disch := omega) only [k_X12_narrowsFrom_1, k_X12_narrowsFrom_2, k_X12_narrowsFrom_3, k_X12_narrowsFrom_4, k_X12_narrowsFrom_5, k_X12_narrowsFrom_6, k_X12_narrowsFrom_7, k_X12_narrowsFrom_8, k_X12_narrowsFrom_9, k_X12_narrowsFrom_10, k_X12_narrowsFrom_11, k_X12_narrowsFrom_12, k_X12_narrowsFrom_13, F_b_X12_narrowsFrom, f_X12_narrowsFrom, F_f_X12_aboveOf, K91 hF, L, iv_add, iv_sub, iv_mul, iv_neg, iv_zero, iv_ltT, iv_ltF, iv_leT, iv_leF, iv_eqT, iv_eqF, iv_div, rm_iv, tn_iv, ib_iv, some_cb, some_cbv, ↓nm_eq, ↓reduceIte, true_and, and_true, Bool.true_eq_false, Bool.false_eq_true, not_false_eq_true, not_true_eq_false, List.cons_append, List.nil_append]
set_option maxRecDepth 100000 in
theorem q_proves (H : AcQ h n k) (f0 : 0 ≤ f) (f1 : f < 7) (l : List Int) (hl : l.length + 10 ≤ 24) (x : Int32) : f_X12_provesFrom 91 (iv n) (iv f) x (trQ h l) = some (prV (iv n) k f x, trQ h (prB k f ++ l)) := by
  obtain ⟨-, -, n0, n1, k0, k1⟩ := id H
  have L0 : ∀ (N : Nat) (l : List Int) (x : Int32), l.length < 24 → lp b_X12_provesFrom (fun _ _ _ _ _ => none) (N + 1) 91 (iv n) (iv 0) x (trQ h l) = some (x ^^^ iv n, trQ h (11 :: l)) := by
    intro N l x hl
    have hF := (H.tr l).1
    have bg := q_begins H l 11 hl
    simp -implicitDefEqProofs (disch := omega) only [lp_succ, k_X12_provesFrom_1, k_X12_provesFrom_2, k_X12_provesFrom_3, k_X12_provesFrom_4, k_X12_provesFrom_5, k_X12_provesFrom_6, k_X12_provesFrom_7, k_X12_provesFrom_8, F_b_X12_provesFrom, f_X12_provesFrom, bg, K91 hF, iv_add, iv_sub, iv_mul, iv_neg, iv_zero, iv_ltT, iv_ltF, iv_leT, iv_leF, iv_eqT, iv_eqF, iv_div, rm_iv, tn_iv, ib_iv, some_cb, some_cbv, ↓nm_eq, ↓reduceIte, true_and, and_true, Bool.true_eq_false, Bool.false_eq_true, not_false_eq_true, not_true_eq_false]
  have L1 : ∀ (N : Nat) (l : List Int) (x : Int32), l.length < 24 → lp b_X12_provesFrom (fun _ _ _ _ _ => none) (N + 2) 91 (iv n) (iv 1) x (trQ h l) = some (x ^^^ iv n, trQ h (11 :: l)) := by
    intro N l x hl
    have hF := (H.tr l).1
    have L := L0 N l x hl
    rw [lp_succ]
    generalize lp b_X12_provesFrom (fun _ _ _ _ _ => none) (N + 1) = self at *
    simp -implicitDefEqProofs (disch := omega) only [k_X12_provesFrom_1, k_X12_provesFrom_2, k_X12_provesFrom_3, k_X12_provesFrom_4, k_X12_provesFrom_5, k_X12_provesFrom_6, k_X12_provesFrom_7, k_X12_provesFrom_8, F_b_X12_provesFrom, f_X12_provesFrom, F_f_X12_aboveOf, K91 hF, L, iv_add, iv_sub, iv_mul, iv_neg, iv_zero, iv_ltT, iv_ltF, iv_leT, iv_leF, iv_eqT, iv_eqF, iv_div, rm_iv, tn_iv, ib_iv, some_cb, some_cbv, ↓nm_eq, ↓reduceIte, true_and, and_true, Bool.true_eq_false, Bool.false_eq_true, not_false_eq_true, not_true_eq_false]
  have L2 : ∀ (N : Nat) (l : List Int) (x : Int32), l.length + 1 < 24 → lp b_X12_provesFrom (fun _ _ _ _ _ => none) (N + 3) 91 (iv n) (iv 2) x (trQ h l) = some ((x ^^^ iv n) * iv 3, trQ h (11 :: 30 :: l)) := by
    intro N l x hl
    have hF := (H.tr l).1
    have hF2 := (H.tr (30 :: l)).1
    have bg := q_begins H l 30 (by omega)
    have L := L1 N (30 :: l) x (by rw [List.length_cons]; omega)
    rw [lp_succ]
    generalize lp b_X12_provesFrom (fun _ _ _ _ _ => none) (N + 2) = self at *
    simp -implicitDefEqProofs (disch := omega) only [k_X12_provesFrom_1, k_X12_provesFrom_2, k_X12_provesFrom_3, k_X12_provesFrom_4, k_X12_provesFrom_5, k_X12_provesFrom_6, k_X12_provesFrom_7, k_X12_provesFrom_8, F_b_X12_provesFrom, f_X12_provesFrom, bg, K91 hF, K91 hF2, L, iv_add, iv_sub, iv_mul, iv_neg, iv_zero, iv_ltT, iv_ltF, iv_leT, iv_leF, iv_eqT, iv_eqF, iv_div, rm_iv, tn_iv, ib_iv, some_cb, some_cbv, ↓nm_eq, ↓reduceIte, true_and, and_true, Bool.true_eq_false, Bool.false_eq_true, not_false_eq_true, not_true_eq_false]
  show lp b_X12_provesFrom (fun _ _ _ _ _ => none) 12 91 (iv n) (iv f) x (trQ h l) = _
  have hF := (H.tr l).1
  unfold prV prB
  rcases (show f = 0 ∨ f = 1 ∨ f = 2 ∨ f = 3 ∨ f = 4 ∨ f = 5 ∨ f = 6 by omega) with q | q | q | q | q | q | q <;> subst q
  · exact L0 11 l x (by omega)
  · exact L1 10 l x (by omega)
  · exact L2 9 l x (by omega)
  · change lp b_X12_provesFrom (fun _ _ _ _ _ => none) 12 91 (iv n) (iv 3) x (trQ h l) = some ((x ^^^ iv n) * iv 3, trQ h (11 :: 30 :: l))
    have L := L2 8 l x (by omega)
    change lp b_X12_provesFrom (fun _ _ _ _ _ => none) 11 91 (iv n) (iv 2) x (trQ h l) = _ at L
    rw [show (12 : Nat) = 11 + 1 from rfl, lp_succ]
    generalize lp b_X12_provesFrom (fun _ _ _ _ _ => none) 11 = self at *
    simp -implicitDefEqProofs (disch := omega) only [k_X12_provesFrom_1, k_X12_provesFrom_2, k_X12_provesFrom_3, k_X12_provesFrom_4, k_X12_provesFrom_5, k_X12_provesFrom_6, k_X12_provesFrom_7, k_X12_provesFrom_8, F_b_X12_provesFrom, f_X12_provesFrom, F_f_X12_aboveOf, K91 hF, L, iv_add, iv_sub, iv_mul, iv_neg, iv_zero, iv_ltT, iv_ltF, iv_leT, iv_leF, iv_eqT, iv_eqF, iv_div, rm_iv, tn_iv, ib_iv, some_cb, some_cbv, ↓nm_eq, ↓reduceIte, true_and, and_true, Bool.true_eq_false, Bool.false_eq_true, not_false_eq_true, not_true_eq_false, List.cons_append, List.nil_append]
  · change lp b_X12_provesFrom (fun _ _ _ _ _ => none) 12 91 (iv n) (iv 4) x (trQ h l) = some (x ^^^ iv n, trQ h (11 :: l))
    have L := L1 9 l x (by omega)
    change lp b_X12_provesFrom (fun _ _ _ _ _ => none) 11 91 (iv n) (iv 1) x (trQ h l) = _ at L
    rw [show (12 : Nat) = 11 + 1 from rfl, lp_succ]
    generalize lp b_X12_provesFrom (fun _ _ _ _ _ => none) 11 = self at *
    simp -implicitDefEqProofs (disch := omega) only [k_X12_provesFrom_1, k_X12_provesFrom_2, k_X12_provesFrom_3, k_X12_provesFrom_4, k_X12_provesFrom_5, k_X12_provesFrom_6, k_X12_provesFrom_7, k_X12_provesFrom_8, F_b_X12_provesFrom, f_X12_provesFrom, F_f_X12_aboveOf, K91 hF, L, iv_add, iv_sub, iv_mul, iv_neg, iv_zero, iv_ltT, iv_ltF, iv_leT, iv_leF, iv_eqT, iv_eqF, iv_div, rm_iv, tn_iv, ib_iv, some_cb, some_cbv, ↓nm_eq, ↓reduceIte, true_and, and_true, Bool.true_eq_false, Bool.false_eq_true, not_false_eq_true, not_true_eq_false, List.cons_append, List.nil_append]
  · change lp b_X12_provesFrom (fun _ _ _ _ _ => none) 12 91 (iv n) (iv 5) x (trQ h l) = some (x ^^^ iv n, trQ h (11 :: l))
    have L := L1 9 l x (by omega)
    change lp b_X12_provesFrom (fun _ _ _ _ _ => none) 11 91 (iv n) (iv 1) x (trQ h l) = _ at L
    rw [show (12 : Nat) = 11 + 1 from rfl, lp_succ]
    generalize lp b_X12_provesFrom (fun _ _ _ _ _ => none) 11 = self at *
    simp -implicitDefEqProofs (disch := omega) only [k_X12_provesFrom_1, k_X12_provesFrom_2, k_X12_provesFrom_3, k_X12_provesFrom_4, k_X12_provesFrom_5, k_X12_provesFrom_6, k_X12_provesFrom_7, k_X12_provesFrom_8, F_b_X12_provesFrom, f_X12_provesFrom, F_f_X12_aboveOf, K91 hF, L, iv_add, iv_sub, iv_mul, iv_neg, iv_zero, iv_ltT, iv_ltF, iv_leT, iv_leF, iv_eqT, iv_eqF, iv_div, rm_iv, tn_iv, ib_iv, some_cb, some_cbv, ↓nm_eq, ↓reduceIte, true_and, and_true, Bool.true_eq_false, Bool.false_eq_true, not_false_eq_true, not_true_eq_false, List.cons_append, List.nil_append]
  · change lp b_X12_provesFrom (fun _ _ _ _ _ => none) 12 91 (iv n) (iv 6) x (trQ h l) = some ((x ^^^ iv n) - naV (iv n) k k (iv 1), trQ h ((naB k k ++ [11, 70]) ++ l))
    rw [List.append_assoc]
    have hF2 := (H.tr (70 :: l)).1
    obtain ⟨hF3, d, -⟩ := H.tr (11 :: 70 :: l)
    have bg := q_begins H l 70 (by omega)
    have L := L0 10 (70 :: l) x (by rw [List.length_cons]; omega)
    have L2 := q_narrows H k0 k1 (11 :: 70 :: l) (by rw [List.length_cons, List.length_cons]; omega) (iv 1)
    change lp b_X12_provesFrom (fun _ _ _ _ _ => none) 11 91 (iv n) (iv 0) x (trQ h (70 :: l)) = _ at L
    rw [show (12 : Nat) = 11 + 1 from rfl, lp_succ]
    generalize lp b_X12_provesFrom (fun _ _ _ _ _ => none) 11 = self at *
    simp -implicitDefEqProofs (disch := omega) only [k_X12_provesFrom_1, k_X12_provesFrom_2, k_X12_provesFrom_3, k_X12_provesFrom_4, k_X12_provesFrom_5, k_X12_provesFrom_6, k_X12_provesFrom_7, k_X12_provesFrom_8, F_b_X12_provesFrom, f_X12_provesFrom, bg, K91 hF, K91 hF2, K91 hF3, R91_21 hF3, K110 hF3, N110 hF3, d, L, L2, iv_add, iv_sub, iv_mul, iv_neg, iv_zero, iv_ltT, iv_ltF, iv_leT, iv_leF, iv_eqT, iv_eqF, iv_div, rm_iv, tn_iv, ib_iv, some_cb, some_cbv, ↓nm_eq, ↓reduceIte, true_and, and_true, Bool.true_eq_false, Bool.false_eq_true, not_false_eq_true, not_true_eq_false, List.cons_append, List.nil_append]
set_option maxRecDepth 100000 in
theorem q_tells (H : AcQ h n k) (f0 : 0 ≤ f) (f1 : f < 7) (l : List Int) (hl : l.length + 20 ≤ 24) (x : Int32) : f_X12_tellsFrom 91 (iv n) (iv f) x (trQ h l) = some (teV (iv n) k f x, trQ h (teB k f ++ l)) := by
  obtain ⟨-, -, n0, n1, k0, k1⟩ := id H
  have ln := naB_len k k
  have L0 : ∀ (N : Nat) (l : List Int) (x : Int32), l.length + 19 ≤ 24 → lp b_X12_tellsFrom (fun _ _ _ _ _ => none) (N + 1) 91 (iv n) (iv 0) x (trQ h l) = some (naV (iv n) k k x - prV (iv n) k k (iv 1), trQ h (prB k k ++ (naB k k ++ (2 :: l)))) := by
    intro N l x hl
    have hF := (H.tr l).1
    obtain ⟨hF2, d, -⟩ := H.tr (2 :: l)
    obtain ⟨hF3, d3, -⟩ := H.tr (naB k k ++ (2 :: l))
    have bg := q_begins H l 2 (by omega)
    have L := q_narrows H k0 k1 (2 :: l) (by rw [List.length_cons]; omega) x
    have L2 := q_proves H k0 k1 (naB k k ++ (2 :: l)) (by rw [List.length_append, List.length_cons]; omega) (iv 1)
    simp -implicitDefEqProofs (disch := omega) only [lp_succ, k_X12_tellsFrom_1, k_X12_tellsFrom_2, k_X12_tellsFrom_3, k_X12_tellsFrom_4, k_X12_tellsFrom_5, k_X12_tellsFrom_6, k_X12_tellsFrom_7, k_X12_tellsFrom_8, k_X12_tellsFrom_9, F_b_X12_tellsFrom, f_X12_tellsFrom, bg, K91 hF, K91 hF2, K91 hF3, R91_21 hF2, R91_21 hF3, K110 hF2, N110 hF2, K110 hF3, N110 hF3, d, d3, L, L2, iv_add, iv_sub, iv_mul, iv_neg, iv_zero, iv_ltT, iv_ltF, iv_leT, iv_leF, iv_eqT, iv_eqF, iv_div, rm_iv, tn_iv, ib_iv, some_cb, some_cbv, ↓nm_eq, ↓reduceIte, true_and, and_true, Bool.true_eq_false, Bool.false_eq_true, not_false_eq_true, not_true_eq_false]
  have L1 : ∀ (N : Nat) (l : List Int) (x : Int32), l.length + 19 ≤ 24 → lp b_X12_tellsFrom (fun _ _ _ _ _ => none) (N + 2) 91 (iv n) (iv 1) x (trQ h l) = some (naV (iv n) k k x - prV (iv n) k k (iv 1), trQ h (prB k k ++ (naB k k ++ (2 :: l)))) := by
    intro N l x hl
    have hF := (H.tr l).1
    have L := L0 N l x hl
    rw [lp_succ]
    generalize lp b_X12_tellsFrom (fun _ _ _ _ _ => none) (N + 1) = self at *
    simp -implicitDefEqProofs (disch := omega) only [k_X12_tellsFrom_1, k_X12_tellsFrom_2, k_X12_tellsFrom_3, k_X12_tellsFrom_4, k_X12_tellsFrom_5, k_X12_tellsFrom_6, k_X12_tellsFrom_7, k_X12_tellsFrom_8, k_X12_tellsFrom_9, F_b_X12_tellsFrom, f_X12_tellsFrom, F_f_X12_aboveOf, K91 hF, L, iv_add, iv_sub, iv_mul, iv_neg, iv_zero, iv_ltT, iv_ltF, iv_leT, iv_leF, iv_eqT, iv_eqF, iv_div, rm_iv, tn_iv, ib_iv, some_cb, some_cbv, ↓nm_eq, ↓reduceIte, true_and, and_true, Bool.true_eq_false, Bool.false_eq_true, not_false_eq_true, not_true_eq_false]
  have L2 : ∀ (N : Nat) (f : Int) (l : List Int) (x : Int32), (f = 2 ∨ f = 4 ∨ f = 5) → l.length + 19 ≤ 24 → lp b_X12_tellsFrom (fun _ _ _ _ _ => none) (N + 3) 91 (iv n) (iv f) x (trQ h l) = some (naV (iv n) k k x - prV (iv n) k k (iv 1), trQ h (prB k k ++ (naB k k ++ (2 :: l)))) := by
    intro N f l x hf hl
    have hF := (H.tr l).1
    have L := L1 N l x hl
    rw [lp_succ]
    generalize lp b_X12_tellsFrom (fun _ _ _ _ _ => none) (N + 2) = self at *
    rcases hf with q | q | q <;> subst q <;> simp -implicitDefEqProofs (disch := omega) only [k_X12_tellsFrom_1, k_X12_tellsFrom_2, k_X12_tellsFrom_3, k_X12_tellsFrom_4, k_X12_tellsFrom_5, k_X12_tellsFrom_6, k_X12_tellsFrom_7, k_X12_tellsFrom_8, k_X12_tellsFrom_9, F_b_X12_tellsFrom, f_X12_tellsFrom, F_f_X12_aboveOf, K91 hF, L, iv_add, iv_sub, iv_mul, iv_neg, iv_zero, iv_ltT, iv_ltF, iv_leT, iv_leF, iv_eqT, iv_eqF, iv_div, rm_iv, tn_iv, ib_iv, some_cb, some_cbv, ↓nm_eq, ↓reduceIte, true_and, and_true, Bool.true_eq_false, Bool.false_eq_true, not_false_eq_true, not_true_eq_false]
  show lp b_X12_tellsFrom (fun _ _ _ _ _ => none) 12 91 (iv n) (iv f) x (trQ h l) = _
  have hF := (H.tr l).1
  unfold teV teB
  rcases (show f = 0 ∨ f = 1 ∨ (f = 2 ∨ f = 4 ∨ f = 5) ∨ f = 3 ∨ f = 6 by omega) with q | q | q | q | q
  · subst q
    change lp b_X12_tellsFrom (fun _ _ _ _ _ => none) 12 91 (iv n) (iv 0) x (trQ h l) = some (naV (iv n) k k x - prV (iv n) k k (iv 1), trQ h ((prB k k ++ (naB k k ++ [2])) ++ l))
    rw [List.append_assoc, List.append_assoc]
    exact L0 11 l x (by omega)
  · subst q
    change lp b_X12_tellsFrom (fun _ _ _ _ _ => none) 12 91 (iv n) (iv 1) x (trQ h l) = some (naV (iv n) k k x - prV (iv n) k k (iv 1), trQ h ((prB k k ++ (naB k k ++ [2])) ++ l))
    rw [List.append_assoc, List.append_assoc]
    exact L1 10 l x (by omega)
  · have L := L2 9 f l x q (by omega)
    rw [show (if f = 6 then (naV (iv n) k k x - prV (iv n) k k (iv 1)) * iv 2 else if f = 3 then (naV (iv n) k k x - prV (iv n) k k (iv 1)) ^^^ iv 5 else naV (iv n) k k x - prV (iv n) k k (iv 1)) = naV (iv n) k k x - prV (iv n) k k (iv 1) from (if_neg (by omega)).trans (if_neg (by omega)), show (if f = 6 then prB k k ++ (naB k k ++ [2, 71]) else if f = 3 then prB k k ++ (naB k k ++ [2, 40]) else prB k k ++ (naB k k ++ [2])) = prB k k ++ (naB k k ++ [2]) from (if_neg (by omega)).trans (if_neg (by omega)), List.append_assoc, List.append_assoc]
    exact L
  · subst q
    change lp b_X12_tellsFrom (fun _ _ _ _ _ => none) 12 91 (iv n) (iv 3) x (trQ h l) = some ((naV (iv n) k k x - prV (iv n) k k (iv 1)) ^^^ iv 5, trQ h ((prB k k ++ (naB k k ++ [2, 40])) ++ l))
    rw [List.append_assoc, List.append_assoc]
    have hF2 := (H.tr (40 :: l)).1
    have bg := q_begins H l 40 (by omega)
    have L := L2 8 2 (40 :: l) x (Or.inl rfl) (by rw [List.length_cons]; omega)
    change lp b_X12_tellsFrom (fun _ _ _ _ _ => none) 11 91 (iv n) (iv 2) x (trQ h (40 :: l)) = _ at L
    rw [show (12 : Nat) = 11 + 1 from rfl, lp_succ]
    generalize lp b_X12_tellsFrom (fun _ _ _ _ _ => none) 11 = self at *
    simp -implicitDefEqProofs (disch := omega) only [k_X12_tellsFrom_1, k_X12_tellsFrom_2, k_X12_tellsFrom_3, k_X12_tellsFrom_4, k_X12_tellsFrom_5, k_X12_tellsFrom_6, k_X12_tellsFrom_7, k_X12_tellsFrom_8, k_X12_tellsFrom_9, F_b_X12_tellsFrom, f_X12_tellsFrom, bg, K91 hF, K91 hF2, L, iv_add, iv_sub, iv_mul, iv_neg, iv_zero, iv_ltT, iv_ltF, iv_leT, iv_leF, iv_eqT, iv_eqF, iv_div, rm_iv, tn_iv, ib_iv, some_cb, some_cbv, ↓nm_eq, ↓reduceIte, true_and, and_true, Bool.true_eq_false, Bool.false_eq_true, not_false_eq_true, not_true_eq_false, List.cons_append, List.nil_append]
  · subst q
    change lp b_X12_tellsFrom (fun _ _ _ _ _ => none) 12 91 (iv n) (iv 6) x (trQ h l) = some ((naV (iv n) k k x - prV (iv n) k k (iv 1)) * iv 2, trQ h ((prB k k ++ (naB k k ++ [2, 71])) ++ l))
    rw [List.append_assoc, List.append_assoc]
    have hF2 := (H.tr (71 :: l)).1
    have bg := q_begins H l 71 (by omega)
    have L := L0 10 (71 :: l) x (by rw [List.length_cons]; omega)
    change lp b_X12_tellsFrom (fun _ _ _ _ _ => none) 11 91 (iv n) (iv 0) x (trQ h (71 :: l)) = _ at L
    rw [show (12 : Nat) = 11 + 1 from rfl, lp_succ]
    generalize lp b_X12_tellsFrom (fun _ _ _ _ _ => none) 11 = self at *
    simp -implicitDefEqProofs (disch := omega) only [k_X12_tellsFrom_1, k_X12_tellsFrom_2, k_X12_tellsFrom_3, k_X12_tellsFrom_4, k_X12_tellsFrom_5, k_X12_tellsFrom_6, k_X12_tellsFrom_7, k_X12_tellsFrom_8, k_X12_tellsFrom_9, F_b_X12_tellsFrom, f_X12_tellsFrom, bg, K91 hF, K91 hF2, L, iv_add, iv_sub, iv_mul, iv_neg, iv_zero, iv_ltT, iv_ltF, iv_leT, iv_leF, iv_eqT, iv_eqF, iv_div, rm_iv, tn_iv, ib_iv, some_cb, some_cbv, ↓nm_eq, ↓reduceIte, true_and, and_true, Bool.true_eq_false, Bool.false_eq_true, not_false_eq_true, not_true_eq_false, List.cons_append, List.nil_append]
theorem trC_blk (h : AH) (l : List Int) {c m : Nat} (z : c + m ≤ 10 ∨ 11 < c) : Blk h (trC h l) c m := by
  induction l with
  | nil => exact (Blk.rf h c m).sI (by omega)
  | cons b l ih => exact (ih.sI (by omega)).sI (by omega)
theorem trQ_blk (h : AH) (l : List Int) {c m : Nat} (z : c + m ≤ 91 ∨ 111 < c) : Blk h (trQ h l) c m := by
  induction l with
  | nil => exact (Blk.rf h c m).sI (by omega)
  | cons b l ih => exact (ih.sI (by omega)).sI (by omega)
theorem trQ_RR (H : RR w h) (l : List Int) : RR (trW w l) (trQ h l) := by
  induction l with
  | nil => exact RR_w91 (z := 23) H (by omega)
  | cons b l ih => exact RR_w91 (z := 23) (RR_wZ (z := l.length) ih (by omega) (by omega) (by omega)) (by omega)
theorem trC_tr (w : WD) (h : AH) (e : ∀ i : Int, 0 ≤ i → i < 24 → gI h 11 i.toNat = iv (wTr w i)) (l : List Int) : ∀ i : Int, 0 ≤ i → i < 24 → gI (trC h l) 11 i.toNat = iv ((trW w l).1 111 i) := by
  induction l with
  | nil =>
    intro i i0 i1
    show gI (sI h 10 1 (iv 0)) 11 i.toNat = iv ((wZ w 91 23 0).1 111 i)
    rw [gI_sIo _ _ (by omega), wZ_o _ (by omega)]
    exact e i i0 i1
  | cons b l ih =>
    intro i i0 i1
    show gI (sI (sI (trC h l) 11 l.length (iv b)) 10 1 (iv (l.length + 1))) 11 i.toNat = iv ((wZ (wZ (trW w l) 111 l.length b) 91 23 (l.length + 1)).1 111 i)
    rw [gI_sIo _ _ (by omega), wZ_o _ (by omega)]
    by_cases q : i = l.length
    · rw [q, wZ_at, show (l.length : Int).toNat = l.length from Int.toNat_natCast _, gI_sIs]
    · rw [gI_sIo _ _ (by omega), wZ_o _ (by omega)]
      exact ih i i0 i1
theorem Sim_act (hS : Sim w A h) (l : List Int) (hl : l.length ≤ 24) : Sim (trW w l) A (trQ (trC h l) l) := by
  have hW := hS.W
  obtain ⟨a1, a2, a3, a4, a5, a6, a7, a8, a9⟩ := id hW
  have e : Elw w (trW w l) := fun a i z => trW_o w l (by omega) (by omega)
  have B : ∀ c m : Nat, (c + m ≤ 10 ∨ 11 < c) → (c + m ≤ 91 ∨ 111 < c) → Blk h (trQ (trC h l) l) c m := fun c m z1 z2 => (trC_blk h l z1).tr (trQ_blk _ l z2)
  have gI' : ∀ a i : Nat, a ≠ 10 → a ≠ 11 → a ≠ 91 → a ≠ 111 → gI (trQ (trC h l) l) a i = gI h a i := fun a i y1 y2 y3 y4 => by rw [trQ_I _ _ (by omega) (by omega), trC_I _ _ (by omega) (by omega)]
  refine hS.hi e ?_ ?_ (hW.hi e ?_ ?_ ?_ ?_) ?_ ?_ (fun b n z1 z2 => B b n (by omega) (by omega)) ?_
  · exact hS.F.fr (fun a _ => by rw [trQ_K, trC_K]) (fun a _ => by rw [trQ_N, trC_N]) (fun a i _ _ _ _ => by rw [trQ_R, trC_R])
  · exact trQ_RR (hS.R.fr (fun a i z => trC_I _ _ (by omega) (by omega)) (fun i => trC_J _ _ _ _)) l
  · rw [show wT (trW w l) = wT w from trW_o w l (by omega) (by omega)]; exact a2
  · intro i i0 i1
    rw [show wTa (trW w l) i = wTa w i from trW_o w l (by omega) (by omega)]; exact a4 i i0 i1
  · intro s s0 s1
    have := a8 s s0 s1
    unfold shOK at this ⊢
    rw [show wK (trW w l) = wK w from e 91 20 (by omega), show sIs (trW w l) s = sIs w s from trW_o w l (by omega) (by omega), show sSo (trW w l) s = sSo w s from trW_o w l (by omega) (by omega), show sSz (trW w l) s = sSz w s from trW_o w l (by omega) (by omega)]
    exact this
  · rw [show wBo (trW w l) = l.length from trW_n w l]
    omega
  · obtain ⟨q1, q2, q3, q4, q5, q6, q7, q8⟩ := hS.C
    unfold Cls
    rw [show wM (trW w l) = wM w from e 91 0 (by omega), show wK (trW w l) = wK w from e 91 20 (by omega), show wT (trW w l) = wT w from trW_o w l (by omega) (by omega), show wBo (trW w l) = l.length from trW_n w l]
    refine ⟨by rw [gI' _ _ (by omega) (by omega) (by omega) (by omega), q1], by rw [gI' _ _ (by omega) (by omega) (by omega) (by omega), q2], by rw [gI' _ _ (by omega) (by omega) (by omega) (by omega), q3], fun i y z => by rw [gI' _ _ (by omega) (by omega) (by omega) (by omega), q4 i y z, show wTa (trW w l) i = wTa w i from trW_o w l (by omega) (by omega)], fun i y z => ?_, ?_, fun m hm => ?_, fun k y z => ?_⟩
    · rw [trQ_I _ _ (by omega) (by omega)]
      exact trC_tr w h q5 l i y z
    · rw [trQ_I _ _ (by omega) (by omega)]
      exact trC_n h l
    · rw [trQ_R, trC_R]
      exact q7 m (by rwa [lvM_el (e 91 0 (by omega))] at hm)
    · rw [trQ_R, trC_R]
      exact q8 k y z
  · intro s s0 s1
    exact (hS.S s0 s1).kp (B _ _ (by omega) (by omega)) (trW_o w l (by omega) (by omega)) (trW_o w l (by omega) (by omega)) (trW_o w l (by omega) (by omega)) (fun _ => rfl) (fun i _ _ => by unfold sEl; rw [trW_2])
  · rw [trQ_C, trC_C]
    exact Nat.le_refl _
set_option maxRecDepth 100000 in
theorem M_act (hS : Sim w A h) (x1 x2 x3 : Int32) : Both (f_X11_act 3 x1 x2 x3) (f_X12_act 91 x1 x2 x3) h := by
  obtain ⟨n, rfl, t1, t2⟩ := iv_ex x1
  obtain ⟨c, rfl, i1, i2⟩ := iv_ex x2
  have hF := hS.F
  have hR := hS.R
  have fin : ∀ (l : List Int) (r : Int32), l.length ≤ 24 → f_X11_act 3 (iv n) (iv c) x3 h = some (r, trC h l) → f_X12_act 91 (iv n) (iv c) x3 (trC h l) = some (r, trQ (trC h l) l) → Both (f_X11_act 3 (iv n) (iv c) x3) (f_X12_act 91 (iv n) (iv c) x3) h := fun l r hl e1 e2 => by
    refine ⟨r, trC h l, trQ (trC h l) l, trW w l, A, e1, e2, Sim_act hS l hl, ⟨by rw [trQ_C, trC_C]; omega, by rw [trQ_S, trC_S]; omega, by rw [trQ_N, trC_N], ?_⟩, trC_N _ _ _, funext (fun i => trC_I _ _ (by omega) (by omega)), by rw [trC_K]; exact K91 hF⟩
    funext i; rw [trQ_I _ _ (by omega) (by omega), trC_I _ _ (by omega) (by omega)]
  have hQ1 : ∀ l : List Int, QS w (trC h l) := fun l => ⟨hF.fr (fun a _ => trC_K h l a) (fun a _ => trC_N h l a) (fun a i _ _ _ _ => trC_R h l a i), hR.fr (fun a i z => trC_I _ _ (by omega) (by omega)) (fun i => trC_J _ _ _ _), hS.W⟩
  have hQ2 : ∀ l l' : List Int, Fix (trQ (trC h l) l') := fun l l' => (hQ1 l).F.fr (fun a _ => trQ_K _ l' a) (fun a _ => trQ_N _ l' a) (fun a i _ _ _ _ => trQ_R _ l' a i)
  have isK : ∀ l : List Int, f_X12_isKnowing 91 (iv n) (trQ (trC h l) []) = some (iv (if 0 ≤ n ∧ n < wK w then 1 else 0), trQ (trC h l) []) := by
    intro l
    have hF := hQ2 l []
    have e20 : gI (trQ (trC h l) []) 91 20 = iv (wK w) := by rw [trQ_I _ _ (by omega) (by omega)]; exact (hQ1 l).R.2.2.2.1
    have kw := hS.W.2.2.1
    by_cases q : 0 ≤ n ∧ n < wK w
    · rw [if_pos q]
      simp -implicitDefEqProofs (disch := omega) only [k_X12_isKnowing_1, F_f_X12_isKnowing, K91 hF, e20, q_in1, q_in0, zret0, zret1, iv_add, iv_sub, iv_mul, iv_neg, iv_zero, iv_ltT, iv_ltF, iv_leT, iv_leF, iv_eqT, iv_eqF, iv_div, rm_iv, tn_iv, ib_iv, some_cb, some_cbv, ↓nm_eq, ↓reduceIte, true_and, and_true, Bool.true_eq_false, Bool.false_eq_true, not_false_eq_true, not_true_eq_false]
    · rw [if_neg q]
      by_cases q0 : 0 ≤ n
      · simp -implicitDefEqProofs (disch := omega) only [k_X12_isKnowing_1, F_f_X12_isKnowing, K91 hF, e20, q_in1, q_in0, zret0, zret1, iv_add, iv_sub, iv_mul, iv_neg, iv_zero, iv_ltT, iv_ltF, iv_leT, iv_leF, iv_eqT, iv_eqF, iv_div, rm_iv, tn_iv, ib_iv, some_cb, some_cbv, ↓nm_eq, ↓reduceIte, true_and, and_true, Bool.true_eq_false, Bool.false_eq_true, not_false_eq_true, not_true_eq_false]
      · simp -implicitDefEqProofs (disch := omega) only [k_X12_isKnowing_1, F_f_X12_isKnowing, K91 hF, e20, q_in1, q_in0, zret0, zret1, iv_add, iv_sub, iv_mul, iv_neg, iv_zero, iv_ltT, iv_ltF, iv_leT, iv_leF, iv_eqT, iv_eqF, iv_div, rm_iv, tn_iv, ib_iv, some_cb, some_cbv, ↓nm_eq, ↓reduceIte, true_and, and_true, Bool.true_eq_false, Bool.false_eq_true, not_false_eq_true, not_true_eq_false]
  have kw := hS.W.2.2.1
  have F1 := (hQ1 []).F
  have e10 : gI (trC h []) 3 10 = iv (wK w) := (trC_I _ _ (by omega) (by omega)).trans hS.C.2.1
  by_cases hk : 0 ≤ n ∧ n < wK w
  · obtain ⟨n0, n1⟩ := id hk
    have e8 : gR (trC h []) 8 n.toNat = A (110 + n) := (trC_R _ _ _ _).trans (hS.C.2.2.2.2.2.2.2 n n0 n1)
    have kA := eq_false (hS.kA (k := n) n0 n1)
    obtain ⟨c0, c1, c2, c3⟩ := hS.K n0 n1
    have kr := hS.W.2.2.2.2.1 n n0 n1
    have H : AcC h (A (110 + n)) (iv n) (wKi w n) := ⟨⟨c0, c1, c2, c3⟩, K10 hF, R10_0 hF, K11 hF, N11 hF, hS.aK n0 n1, by omega, by omega⟩
    obtain ⟨⟨d0, d1, d2, d3⟩, -⟩ := H.tr []
    have cK : f_X11_knowingAt 3 (iv n) (trC h []) = some (A (110 + n), trC h []) := by
      simp -implicitDefEqProofs (disch := omega) only [F_f_X11_knowingAt, K3 F1, R3_2 F1, K8 F1, N8 F1, e10, e8, iv_add, iv_sub, iv_mul, iv_neg, iv_zero, iv_ltT, iv_ltF, iv_leT, iv_leF, iv_eqT, iv_eqF, iv_div, rm_iv, tn_iv, ib_iv, some_cb, some_cbv, ↓nm_eq, ↓reduceIte, true_and, and_true, Bool.true_eq_false, Bool.false_eq_true, not_false_eq_true, not_true_eq_false]
    have isk := fun l => (isK l).trans (by rw [if_pos hk])
    have Q : ∀ l : List Int, AcQ (trC h l) n (wKi w n) := fun l => ⟨(hQ1 l).F, RR_Ki (hQ1 l).R n0, n0, by omega, by omega, by omega⟩
    have tC0 : sI h 10 1 (iv 0) = trC h [] := rfl
    have tQ0 : ∀ h1 : AH, sI h1 91 23 (iv 0) = trQ h1 [] := fun _ => rfl
    rcases (show c = 0 ∨ c = 1 ∨ c = 2 ∨ c = 3 ∨ ¬ (0 ≤ c ∧ c ≤ 3) by omega) with q | q | q | q | q
    · subst q
      have ln := leB_len (wKi w n)
      have L := c_lets H (by omega) (by omega) [] (by decide) (f := wKi w n) x3
      rw [List.append_nil] at L
      have M := q_lets (Q (leB (wKi w n))) (f := wKi w n) (by omega) (by omega) [] (by decide) x3
      rw [List.append_nil] at M
      have i1 := isk (leB (wKi w n))
      obtain ⟨F2, k2, -⟩ := (Q (leB (wKi w n))).tr []
      have FQ := (Q (leB (wKi w n))).1
      refine fin (leB (wKi w n)) (leV (iv n) (wKi w n) x3) (by omega) ?_ ?_
      · simp -implicitDefEqProofs (disch := omega) only [k_X11_act_1, k_X11_act_2, k_X11_act_3, k_X11_act_4, k_X11_act_5, F_f_X11_act, tC0, K3 hF, R3_4 hF, K10 hF, K3 F1, cK, kA, d0, d2, L, iv_add, iv_sub, iv_mul, iv_neg, iv_zero, iv_ltT, iv_ltF, iv_leT, iv_leF, iv_eqT, iv_eqF, iv_div, rm_iv, tn_iv, ib_iv, some_cb, some_cbv, ↓nm_eq, ↓reduceIte, true_and, and_true, Bool.true_eq_false, Bool.false_eq_true, not_false_eq_true, not_true_eq_false]
      · simp -implicitDefEqProofs (disch := omega) only [k_X12_act_1, k_X12_act_2, k_X12_act_3, k_X12_act_4, k_X12_act_5, k_X12_act_6, F_f_X12_act, tQ0, K91 FQ, K91 F2, R91_21 F2, K110 F2, N110 F2, i1, k2, q_in1, M, iv_add, iv_sub, iv_mul, iv_neg, iv_zero, iv_ltT, iv_ltF, iv_leT, iv_leF, iv_eqT, iv_eqF, iv_div, rm_iv, tn_iv, ib_iv, some_cb, some_cbv, ↓nm_eq, ↓reduceIte, true_and, and_true, Bool.true_eq_false, Bool.false_eq_true, not_false_eq_true, not_true_eq_false]
    · subst q
      have ln := naB_len (wKi w n) (wKi w n)
      have L := c_narrows H (by omega) (by omega) [] (by decide) (f := wKi w n) x3
      rw [List.append_nil] at L
      have M := q_narrows (Q (naB (wKi w n) (wKi w n))) (f := wKi w n) (by omega) (by omega) [] (by decide) x3
      rw [List.append_nil] at M
      have i1 := isk (naB (wKi w n) (wKi w n))
      obtain ⟨F2, k2, -⟩ := (Q (naB (wKi w n) (wKi w n))).tr []
      have FQ := (Q (naB (wKi w n) (wKi w n))).1
      refine fin (naB (wKi w n) (wKi w n)) (naV (iv n) (wKi w n) (wKi w n) x3) (by omega) ?_ ?_
      · simp -implicitDefEqProofs (disch := omega) only [k_X11_act_1, k_X11_act_2, k_X11_act_3, k_X11_act_4, k_X11_act_5, F_f_X11_act, tC0, K3 hF, R3_4 hF, K10 hF, K3 F1, cK, kA, d0, d2, L, iv_add, iv_sub, iv_mul, iv_neg, iv_zero, iv_ltT, iv_ltF, iv_leT, iv_leF, iv_eqT, iv_eqF, iv_div, rm_iv, tn_iv, ib_iv, some_cb, some_cbv, ↓nm_eq, ↓reduceIte, true_and, and_true, Bool.true_eq_false, Bool.false_eq_true, not_false_eq_true, not_true_eq_false]
      · simp -implicitDefEqProofs (disch := omega) only [k_X12_act_1, k_X12_act_2, k_X12_act_3, k_X12_act_4, k_X12_act_5, k_X12_act_6, F_f_X12_act, tQ0, K91 FQ, K91 F2, R91_21 F2, K110 F2, N110 F2, i1, k2, q_in1, M, iv_add, iv_sub, iv_mul, iv_neg, iv_zero, iv_ltT, iv_ltF, iv_leT, iv_leF, iv_eqT, iv_eqF, iv_div, rm_iv, tn_iv, ib_iv, some_cb, some_cbv, ↓nm_eq, ↓reduceIte, true_and, and_true, Bool.true_eq_false, Bool.false_eq_true, not_false_eq_true, not_true_eq_false]
    · subst q
      have ln := prB_len (wKi w n) (wKi w n)
      have L := c_proves H (by omega) (by omega) [] (by decide) (f := wKi w n) x3
      rw [List.append_nil] at L
      have M := q_proves (Q (prB (wKi w n) (wKi w n))) (f := wKi w n) (by omega) (by omega) [] (by decide) x3
      rw [List.append_nil] at M
      have i1 := isk (prB (wKi w n) (wKi w n))
      obtain ⟨F2, k2, -⟩ := (Q (prB (wKi w n) (wKi w n))).tr []
      have FQ := (Q (prB (wKi w n) (wKi w n))).1
      refine fin (prB (wKi w n) (wKi w n)) (prV (iv n) (wKi w n) (wKi w n) x3) (by omega) ?_ ?_
      · simp -implicitDefEqProofs (disch := omega) only [k_X11_act_1, k_X11_act_2, k_X11_act_3, k_X11_act_4, k_X11_act_5, F_f_X11_act, tC0, K3 hF, R3_4 hF, K10 hF, K3 F1, cK, kA, d0, d2, L, iv_add, iv_sub, iv_mul, iv_neg, iv_zero, iv_ltT, iv_ltF, iv_leT, iv_leF, iv_eqT, iv_eqF, iv_div, rm_iv, tn_iv, ib_iv, some_cb, some_cbv, ↓nm_eq, ↓reduceIte, true_and, and_true, Bool.true_eq_false, Bool.false_eq_true, not_false_eq_true, not_true_eq_false]
      · simp -implicitDefEqProofs (disch := omega) only [k_X12_act_1, k_X12_act_2, k_X12_act_3, k_X12_act_4, k_X12_act_5, k_X12_act_6, F_f_X12_act, tQ0, K91 FQ, K91 F2, R91_21 F2, K110 F2, N110 F2, i1, k2, q_in1, M, iv_add, iv_sub, iv_mul, iv_neg, iv_zero, iv_ltT, iv_ltF, iv_leT, iv_leF, iv_eqT, iv_eqF, iv_div, rm_iv, tn_iv, ib_iv, some_cb, some_cbv, ↓nm_eq, ↓reduceIte, true_and, and_true, Bool.true_eq_false, Bool.false_eq_true, not_false_eq_true, not_true_eq_false]
    · subst q
      have ln := teB_len (wKi w n) (wKi w n)
      have L := c_tells H (by omega) (by omega) [] (by decide) (f := wKi w n) x3
      rw [List.append_nil] at L
      have M := q_tells (Q (teB (wKi w n) (wKi w n))) (f := wKi w n) (by omega) (by omega) [] (by decide) x3
      rw [List.append_nil] at M
      have i1 := isk (teB (wKi w n) (wKi w n))
      obtain ⟨F2, k2, -⟩ := (Q (teB (wKi w n) (wKi w n))).tr []
      have FQ := (Q (teB (wKi w n) (wKi w n))).1
      refine fin (teB (wKi w n) (wKi w n)) (teV (iv n) (wKi w n) (wKi w n) x3) (by omega) ?_ ?_
      · simp -implicitDefEqProofs (disch := omega) only [k_X11_act_1, k_X11_act_2, k_X11_act_3, k_X11_act_4, k_X11_act_5, F_f_X11_act, tC0, K3 hF, R3_4 hF, K10 hF, K3 F1, cK, kA, d0, d2, L, iv_add, iv_sub, iv_mul, iv_neg, iv_zero, iv_ltT, iv_ltF, iv_leT, iv_leF, iv_eqT, iv_eqF, iv_div, rm_iv, tn_iv, ib_iv, some_cb, some_cbv, ↓nm_eq, ↓reduceIte, true_and, and_true, Bool.true_eq_false, Bool.false_eq_true, not_false_eq_true, not_true_eq_false]
      · simp -implicitDefEqProofs (disch := omega) only [k_X12_act_1, k_X12_act_2, k_X12_act_3, k_X12_act_4, k_X12_act_5, k_X12_act_6, F_f_X12_act, tQ0, K91 FQ, K91 F2, R91_21 F2, K110 F2, N110 F2, i1, k2, q_in1, M, iv_add, iv_sub, iv_mul, iv_neg, iv_zero, iv_ltT, iv_ltF, iv_leT, iv_leF, iv_eqT, iv_eqF, iv_div, rm_iv, tn_iv, ib_iv, some_cb, some_cbv, ↓nm_eq, ↓reduceIte, true_and, and_true, Bool.true_eq_false, Bool.false_eq_true, not_false_eq_true, not_true_eq_false]
    · have i1 := isk []
      obtain ⟨F2, k2, -⟩ := (Q []).tr []
      refine fin [] (iv 0) (by decide) ?_ ?_
      · simp -implicitDefEqProofs (disch := omega) only [k_X11_act_1, k_X11_act_2, k_X11_act_3, k_X11_act_4, k_X11_act_5, F_f_X11_act, tC0, K3 hF, R3_4 hF, K10 hF, K3 F1, cK, kA, d0, d2, iv_add, iv_sub, iv_mul, iv_neg, iv_zero, iv_ltT, iv_ltF, iv_leT, iv_leF, iv_eqT, iv_eqF, iv_div, rm_iv, tn_iv, ib_iv, some_cb, some_cbv, ↓nm_eq, ↓reduceIte, true_and, and_true, Bool.true_eq_false, Bool.false_eq_true, not_false_eq_true, not_true_eq_false]
      · simp -implicitDefEqProofs (disch := omega) only [k_X12_act_1, k_X12_act_2, k_X12_act_3, k_X12_act_4, k_X12_act_5, k_X12_act_6, F_f_X12_act, tQ0, K91 F1, K91 F2, i1, q_in0, iv_add, iv_sub, iv_mul, iv_neg, iv_zero, iv_ltT, iv_ltF, iv_leT, iv_leF, iv_eqT, iv_eqF, iv_div, rm_iv, tn_iv, ib_iv, some_cb, some_cbv, ↓nm_eq, ↓reduceIte, true_and, and_true, Bool.true_eq_false, Bool.false_eq_true, not_false_eq_true, not_true_eq_false]
  · refine fin [] (iv 0) (by decide) ?_ ?_
    · have cK : f_X11_knowingAt 3 (iv n) (trC h []) = some (0, trC h []) := by
        by_cases q0 : 0 ≤ n
        · simp -implicitDefEqProofs (disch := omega) only [F_f_X11_knowingAt, K3 F1, e10, iv_add, iv_sub, iv_mul, iv_neg, iv_zero, iv_ltT, iv_ltF, iv_leT, iv_leF, iv_eqT, iv_eqF, iv_div, rm_iv, tn_iv, ib_iv, some_cb, some_cbv, ↓nm_eq, ↓reduceIte, true_and, and_true, Bool.true_eq_false, Bool.false_eq_true, not_false_eq_true, not_true_eq_false]
        · simp -implicitDefEqProofs (disch := omega) only [F_f_X11_knowingAt, K3 F1, e10, iv_add, iv_sub, iv_mul, iv_neg, iv_zero, iv_ltT, iv_ltF, iv_leT, iv_leF, iv_eqT, iv_eqF, iv_div, rm_iv, tn_iv, ib_iv, some_cb, some_cbv, ↓nm_eq, ↓reduceIte, true_and, and_true, Bool.true_eq_false, Bool.false_eq_true, not_false_eq_true, not_true_eq_false]
      change f_X11_knowingAt 3 (iv n) (sI h 10 1 (iv 0)) = some (0, sI h 10 1 (iv 0)) at cK
      show _ = some (iv 0, sI h 10 1 (iv 0))
      simp -implicitDefEqProofs (disch := omega) only [k_X11_act_1, k_X11_act_2, k_X11_act_3, k_X11_act_4, k_X11_act_5, F_f_X11_act, K3 hF, R3_4 hF, K10 hF, gK_sI, cK, iv_add, iv_sub, iv_mul, iv_neg, iv_zero, iv_ltT, iv_ltF, iv_leT, iv_leF, iv_eqT, iv_eqF, iv_div, rm_iv, tn_iv, ib_iv, some_cb, some_cbv, ↓nm_eq, ↓reduceIte, true_and, and_true, Bool.true_eq_false, Bool.false_eq_true, not_false_eq_true, not_true_eq_false]
    · have i0 := (isK []).trans (by rw [if_neg hk])
      change f_X12_isKnowing 91 (iv n) (sI (trC h []) 91 23 (iv 0)) = some (iv 0, sI (trC h []) 91 23 (iv 0)) at i0
      show _ = some (iv 0, sI (trC h []) 91 23 (iv 0))
      simp -implicitDefEqProofs (disch := omega) only [k_X12_act_1, k_X12_act_2, k_X12_act_3, k_X12_act_4, k_X12_act_5, k_X12_act_6, F_f_X12_act, K91 F1, gK_sI, i0, iv_add, iv_sub, iv_mul, iv_neg, iv_zero, iv_ltT, iv_ltF, iv_leT, iv_leF, iv_eqT, iv_eqF, iv_div, rm_iv, tn_iv, ib_iv, some_cb, some_cbv, ↓nm_eq, ↓reduceIte, true_and, and_true, Bool.true_eq_false, Bool.false_eq_true, not_false_eq_true, not_true_eq_false]
end Q
