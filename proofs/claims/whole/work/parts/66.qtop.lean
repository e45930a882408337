/-- the rows of a box's groups, and its tables -/
def bRw (w : WD) (m x : Int) : List Int := rwL w x 0 (wGr w m).toNat
def bTb (w : WD) (m x : Int) : List (List TR) := Tb (bRw w m x) (wC w x 0) (wC w x 1) (wC w x 2)
section Q
variable {w : WD} {A : Int → Nat} {h hh : AH} {c : Int → Int}
/-- what is known of a box's sums -/
theorem box_all (hW : WI w) {m b : Int} (hl : lvM w m) (b0 : 0 ≤ b) (tb : b < wBx w m) : allN (bRw w m (12 * m + b)) ∧ wC w (12 * m + b) 0 + wC w (12 * m + b) 1 + wC w (12 * m + b) 2 = sumL (bRw w m (12 * m + b)) ∧ (0 ≤ wC w (12 * m + b) 0 ∧ wC w (12 * m + b) 0 ≤ 99) ∧ (0 ≤ wC w (12 * m + b) 1 ∧ wC w (12 * m + b) 1 ≤ 99) ∧ (0 ≤ wC w (12 * m + b) 2 ∧ wC w (12 * m + b) 2 ≤ 99) ∧ cn (bRw w m (12 * m + b)) (wC w (12 * m + b) 0) (wC w (12 * m + b) 1) (wC w (12 * m + b) 2) = cnX w m (12 * m + b) ∧ ((bTb w m (12 * m + b)).length : Int) = cnX w m (12 * m + b) := by
  obtain ⟨e1, e2, e3⟩ := cnX_rows hW hl b0 tb
  have hV := hW.box hl b0 tb
  have v2 := hV.2.2.2.2.1
  have hc : cn (bRw w m (12 * m + b)) (wC w (12 * m + b) 0) (wC w (12 * m + b) 1) (wC w (12 * m + b) 2) = cnX w m (12 * m + b) := (e2 _ _ _).symm
  exact ⟨e3, by rw [← v2]; exact e1.symm, oB_c hV (by omega) (by omega), oB_c hV (by omega) (by omega), oB_c hV (by omega) (by omega), hc, by rw [← hc]; exact Tb_len _ _ _ _⟩
theorem bTb_chain (hW : WI w) {m b : Int} (hl : lvM w m) (b0 : 0 ≤ b) (tb : b < wBx w m) : Cs (nxt1 (bRw w m (12 * m + b)) (wC w (12 * m + b) 0) (wC w (12 * m + b) 1) (wC w (12 * m + b) 2)) (bTb w m (12 * m + b)) none ∧ (bTb w m (12 * m + b)).head? = some (fst1 (bRw w m (12 * m + b)) (wC w (12 * m + b) 0) (wC w (12 * m + b) 1) (wC w (12 * m + b) 2)) := by
  obtain ⟨e1, e2, e3, e4, e5, -, -⟩ := box_all hW hl b0 tb
  exact Tb_chain _ _ _ _ e1 e3.1 e4.1 e5.1 e2
theorem bTb_ok (w : WD) (m x : Int) {t : List TR} (ht : t ∈ bTb w m x) : TOk (bRw w m x) (wC w x 0) (wC w x 1) (wC w x 2) t := Tb_ok _ _ _ _ _ ht
set_option maxRecDepth 100000 in
theorem q_firstT (N : NS w A h hh c) {m b : Int} (hl : lvM w m) (b0 : 0 ≤ b) (tb : b < wBx w m) : ∃ (h' : AH) (c' : Int → Int), f_X12_firstTable 91 (iv (12 * m + b)) hh = some h' ∧ NS w A h h' c' ∧ HT c' (12 * b) (fst1 (bRw w m (12 * m + b)) (wC w (12 * m + b) 0) (wC w (12 * m + b) 1) (wC w (12 * m + b) 2)) ∧ (∀ i : Int, (i < 12 * b ∨ 12 * b + 12 ≤ i) → c' i = c i) ∧ ∀ (a j : Nat), a ≠ 116 → gI h' a j = gI hh a j := by
  have hS := N.2.1
  have hF := hS.F
  have hR := hS.R
  obtain ⟨⟨x0, x1⟩, -⟩ := box_ran hS.W hl b0 tb
  obtain ⟨⟨g1, g2⟩, -⟩ := hS.W.mat hl
  obtain ⟨e1, e2, e3, e4, e5, -, -⟩ := box_all hS.W hl b0 tb
  obtain ⟨h', c', f1, f2, f3, f4, f5⟩ := q_lowest14 hl b0 tb (wGr w m).toNat FU (FU_gt (by omega)) hh c 0 (wC w (12 * m + b) 0) (wC w (12 * m + b) 1) (wC w (12 * m + b) 2) N (by omega) (by omega) e3.1 e4.1 e5.1 e2 (by omega) (by omega) (by omega)
  rw [Int.mul_zero, Int.add_zero] at f3 f4
  refine ⟨h', c', ?_, f2, f3, f4, f5⟩
  simp -implicitDefEqProofs (disch := omega) only [k_X12_firstTable_1, F_f_X12_firstTable, k_X12_lowest_14_1, k_X12_lowest_14_2, k_X12_lowest_14_3, F_b_X12_lowest_14, F_f_X12_lowest, f_X12_lowest_14, K91 hF, K92 hF, N92 hF, K93 hF, N93 hF, K94 hF, N94 hF, K95 hF, N95 hF, K96 hF, N96 hF, K97 hF, N97 hF, K98 hF, N98 hF, K99 hF, N99 hF, K100 hF, N100 hF, K101 hF, N101 hF, K102 hF, N102 hF, K103 hF, N103 hF, K104 hF, N104 hF, K105 hF, N105 hF, K106 hF, N106 hF, K107 hF, N107 hF, K108 hF, N108 hF, K109 hF, N109 hF, K110 hF, N110 hF, K111 hF, N111 hF, K112 hF, N112 hF, K113 hF, N113 hF, K114 hF, N114 hF, K115 hF, N115 hF, K116 hF, N116 hF, K117 hF, N117 hF, K118 hF, N118 hF, K119 hF, N119 hF, K120 hF, N120 hF, R91_1 hF, R91_2 hF, R91_3 hF, R91_4 hF, R91_5 hF, R91_6 hF, R91_7 hF, R91_8 hF, R91_9 hF, R91_10 hF, R91_11 hF, R91_12 hF, R91_13 hF, R91_14 hF, R91_15 hF, R91_16 hF, R91_17 hF, R91_18 hF, R91_21 hF, R91_22 hF, R91_24 hF, R91_25 hF, R91_26 hF, R91_27 hF, R91_29 hF, R91_30 hF, R91_31 hF, R91_32 hF, R91_44 hF, RR_C0 hR, RR_C hR, f1, iv_add, iv_sub, iv_mul, iv_neg, iv_zero, iv_ltT, iv_ltF, iv_leT, iv_leF, iv_eqT, iv_eqF, iv_div, rm_iv, tn_iv, ib_iv, some_cb, some_cbv, ↓nm_eq, ↓reduceIte, true_and, and_true, Bool.true_eq_false, Bool.false_eq_true, not_false_eq_true, not_true_eq_false]
set_option maxRecDepth 100000 in
theorem q_nextT (N : NS w A h hh c) {m b : Int} (hl : lvM w m) (b0 : 0 ≤ b) (tb : b < wBx w m) {t : List TR} (hT : TOk (bRw w m (12 * m + b)) (wC w (12 * m + b) 0) (wC w (12 * m + b) 1) (wC w (12 * m + b) 2) t) (hH : HT c (12 * b) t) :
    match nxt1 (bRw w m (12 * m + b)) (wC w (12 * m + b) 0) (wC w (12 * m + b) 1) (wC w (12 * m + b) 2) t with
    | some t' => ∃ (h' : AH) (c' : Int → Int), f_X12_nextTable 91 (iv (12 * m + b)) hh = some (iv 1, h') ∧ NS w A h h' c' ∧ HT c' (12 * b) t' ∧ (∀ i : Int, (i < 12 * b ∨ 12 * b + 12 ≤ i) → c' i = c i) ∧ ∀ (a j : Nat), (a < 116 ∨ 119 < a) → gI h' a j = gI hh a j
    | none => ∃ h' : AH, f_X12_nextTable 91 (iv (12 * m + b)) hh = some (iv 0, h') ∧ NS w A h h' c ∧ ∀ (a j : Nat), (a < 116 ∨ 119 < a) → gI h' a j = gI hh a j := by
  have hS := N.2.1
  have hF := hS.F
  have hR := hS.R
  obtain ⟨⟨x0, x1⟩, -⟩ := box_ran hS.W hl b0 tb
  obtain ⟨⟨g1, g2⟩, -, ⟨b2, b3⟩, -⟩ := hS.W.mat hl
  obtain ⟨⟨w1, w2⟩, -⟩ := id hS.W
  obtain ⟨l1, l2⟩ := id hl
  obtain ⟨e1, e2, e3, e4, e5, -, -⟩ := box_all hS.W hl b0 tb
  have hx : iv (12 * m + b) / iv 12 = iv m := (by rw [iv_div (by omega) (by omega) (by omega) (by omega)]; congr 1; omega)
  obtain ⟨h1, f1, f2, f3, -, f5⟩ := q_rests35 hl b0 tb (wGr w m).toNat FU (FU_gt (by omega)) hh c 0 (wC w (12 * m + b) 0) (wC w (12 * m + b) 1) (wC w (12 * m + b) 2) t N (by omega) (by omega) hT (by rw [Int.mul_zero, Int.add_zero]; exact hH)
  have hF1 := f2.2.1.F
  have hR1 := f2.2.1.R
  obtain ⟨n, hn⟩ : ∃ n : Nat, (wGr w m).toNat = n + 1 := ⟨(wGr w m).toNat - 1, by omega⟩
  have key := q_next17 hl b0 tb f2 n 0 (wC w (12 * m + b) 0) (wC w (12 * m + b) 1) (wC w (12 * m + b) 2) t (by omega) (by omega) (by rw [← hn]; exact hT) (by rw [Int.mul_zero, Int.add_zero]; exact hH) f3 (by omega) (by omega) (by omega) FU (FU_gt (by omega))
  rw [← hn, Int.mul_zero, Int.add_zero] at key
  have key2 : match nxt1 (bRw w m (12 * m + b)) (wC w (12 * m + b) 0) (wC w (12 * m + b) 1) (wC w (12 * m + b) 2) t with
    | some t' => ∃ (h' : AH) (c' : Int → Int), lp b_X12_nextTable_17 (fun _ _ _ _ => none) FU 91 (iv (12 * m + b)) (iv (wGr w m - 2)) h1 = some (iv 1, h') ∧ NS w A h h' c' ∧ HT c' (12 * b) t' ∧ (∀ i : Int, (i < 12 * b ∨ 12 * b + 12 ≤ i) → c' i = c i) ∧ ∀ (a j : Nat), a ≠ 116 → gI h' a j = gI h1 a j
    | none => lp b_X12_nextTable_17 (fun _ _ _ _ => none) FU 91 (iv (12 * m + b)) (iv (wGr w m - 2)) h1 = lp b_X12_nextTable_17 (fun _ _ _ _ => none) (FU - n) 91 (iv (12 * m + b)) (iv (0 - 1)) h1 := key
  have top : ∀ r, lp b_X12_nextTable_17 (fun _ _ _ _ => none) FU 91 (iv (12 * m + b)) (iv (wGr w m - 2)) h1 = some r → f_X12_nextTable 91 (iv (12 * m + b)) hh = some r := fun r hr => by
    simp -implicitDefEqProofs (disch := omega) only [F_f_X12_nextTable, k_X12_nextTable_1, f_X12_nextTable_17, F_f_X12_rests, f_X12_rests_35, K91 hF, R91_5 hF, K96 hF, N96 hF, RR_C0 hR, RR_C hR, f1, K91 hF1, R91_1 hF1, K92 hF1, N92 hF1, RR_Gr hR1, hx, hr, iv_add, iv_sub, iv_mul, iv_neg, iv_zero, iv_ltT, iv_ltF, iv_leT, iv_leF, iv_eqT, iv_eqF, iv_div, rm_iv, tn_iv, ib_iv, some_cb, some_cbv, ↓nm_eq, ↓reduceIte, true_and, and_true, Bool.true_eq_false, Bool.false_eq_true, not_false_eq_true, not_true_eq_false]
  cases hx1 : nxt1 (bRw w m (12 * m + b)) (wC w (12 * m + b) 0) (wC w (12 * m + b) 1) (wC w (12 * m + b) 2) t with
  | some t' =>
    rw [hx1] at key2
    obtain ⟨h', c', g1, g2, g3, g4, g5⟩ := key2
    exact ⟨h', c', top _ g1, g2, g3, g4, fun a j ha => by rw [g5 a j (by omega), f5 a j ha]⟩
  | none =>
    rw [hx1] at key2
    have key2 : lp b_X12_nextTable_17 (fun _ _ _ _ => none) FU 91 (iv (12 * m + b)) (iv (wGr w m - 2)) h1 = lp b_X12_nextTable_17 (fun _ _ _ _ => none) (FU - n) 91 (iv (12 * m + b)) (iv (0 - 1)) h1 := key2
    refine ⟨h1, top _ ?_, f2, f5⟩
    rw [key2]
    obtain ⟨N', hN'⟩ : ∃ N' : Nat, FU - n = N' + 1 := ⟨FU - n - 1, by unfold FU; omega⟩
    rw [hN']
    simp -implicitDefEqProofs (disch := omega) only [lp_succ, F_b_X12_nextTable_17, zret0, iv_add, iv_sub, iv_mul, iv_neg, iv_zero, iv_ltT, iv_ltF, iv_leT, iv_leF, iv_eqT, iv_eqF, iv_div, rm_iv, tn_iv, ib_iv, some_cb, some_cbv, ↓nm_eq, ↓reduceIte, true_and, and_true, Bool.true_eq_false, Bool.false_eq_true, not_false_eq_true, not_true_eq_false]
set_option maxRecDepth 100000 in
theorem q_numbered (N : NS w A h hh c) {m b i : Int} (hl : lvM w m) (b0 : 0 ≤ b) (tb : b < wBx w m) (i0 : 0 ≤ i) (i1 : i < cnX w m (12 * m + b)) : ∃ (h' : AH) (c' : Int → Int) (t : List TR), f_X12_numbered 91 (iv (12 * m + b)) (jv i) hh = some h' ∧ NS w A h h' c' ∧ (bTb w m (12 * m + b))[i.toNat]? = some t ∧ HT c' (12 * b) t := by
  have hS := N.2.1
  have hF := hS.F
  have hR := hS.R
  obtain ⟨⟨x0, x1⟩, -⟩ := box_ran hS.W hl b0 tb
  obtain ⟨⟨g1, g2⟩, -, ⟨b2, b3⟩, -⟩ := hS.W.mat hl
  obtain ⟨⟨w1, w2⟩, -⟩ := id hS.W
  obtain ⟨l1, l2⟩ := id hl
  obtain ⟨e1, e2, e3, e4, e5, e6, -⟩ := box_all hS.W hl b0 tb
  obtain ⟨r1, r2⟩ := cnX_rng hS.W hl b0 tb
  have hx : iv (12 * m + b) / iv 12 = iv m := (by rw [iv_div (by omega) (by omega) (by omega) (by omega)]; congr 1; omega)
  obtain ⟨n, hn⟩ : ∃ n : Nat, (wGr w m).toNat = n + 1 := ⟨(wGr w m).toNat - 1, by omega⟩
  have e6' : cn (rwL w (12 * m + b) 0 (n + 1)) (wC w (12 * m + b) 0) (wC w (12 * m + b) 1) (wC w (12 * m + b) 2) = cnX w m (12 * m + b) := by rw [← hn]; exact e6
  have e2' : wC w (12 * m + b) 0 + wC w (12 * m + b) 1 + wC w (12 * m + b) 2 = sumL (rwL w (12 * m + b) 0 (n + 1)) := by rw [← hn]; exact e2
  obtain ⟨h', c', t, f1, f2, f3, f4, -⟩ := q_numb41 hl b0 tb n FU (FU_gt (by omega)) hh c 0 (wC w (12 * m + b) 0) (wC w (12 * m + b) 1) (wC w (12 * m + b) 2) i N (by omega) (by omega) (by omega) (by omega) e5.1 e2' i0 (by rw [e6']; exact i1) (by rw [e6']; exact r2)
  rw [Int.mul_zero, Int.add_zero] at f4
  refine ⟨h', c', t, ?_, f2, ?_, f4⟩
  · simp -implicitDefEqProofs (disch := omega) only [F_f_X12_numbered, f_X12_numbered_41, K91 hF, K92 hF, N92 hF, K93 hF, N93 hF, K94 hF, N94 hF, K95 hF, N95 hF, K96 hF, N96 hF, K97 hF, N97 hF, K98 hF, N98 hF, K99 hF, N99 hF, K100 hF, N100 hF, K101 hF, N101 hF, K102 hF, N102 hF, K103 hF, N103 hF, K104 hF, N104 hF, K105 hF, N105 hF, K106 hF, N106 hF, K107 hF, N107 hF, K108 hF, N108 hF, K109 hF, N109 hF, K110 hF, N110 hF, K111 hF, N111 hF, K112 hF, N112 hF, K113 hF, N113 hF, K114 hF, N114 hF, K115 hF, N115 hF, K116 hF, N116 hF, K117 hF, N117 hF, K118 hF, N118 hF, K119 hF, N119 hF, K120 hF, N120 hF, R91_1 hF, R91_2 hF, R91_3 hF, R91_4 hF, R91_5 hF, R91_6 hF, R91_7 hF, R91_8 hF, R91_9 hF, R91_10 hF, R91_11 hF, R91_12 hF, R91_13 hF, R91_14 hF, R91_15 hF, R91_16 hF, R91_17 hF, R91_18 hF, R91_21 hF, R91_22 hF, R91_24 hF, R91_25 hF, R91_26 hF, R91_27 hF, R91_29 hF, R91_30 hF, R91_31 hF, R91_32 hF, R91_44 hF, RR_C0 hR, RR_C hR, RR_Gr hR, hx, f1, iv_add, iv_sub, iv_mul, iv_neg, iv_zero, iv_ltT, iv_ltF, iv_leT, iv_leF, iv_eqT, iv_eqF, iv_div, rm_iv, tn_iv, ib_iv, some_cb, some_cbv, ↓nm_eq, ↓reduceIte, true_and, and_true, Bool.true_eq_false, Bool.false_eq_true, not_false_eq_true, not_true_eq_false]
  · unfold bTb bRw; rw [hn]; exact f3
/-- what a table's cell is, in the row in mind -/
theorem HT_cell : ∀ (t : List TR) (z : Int) (g : Nat) (k : Int), HT c z t → g < t.length → 0 ≤ k → k ≤ 2 → c (z + 3 * g + k) = tcl t g k := by
  intro t
  induction t with
  | nil => intro z g k _ hg; exact absurd hg (Nat.not_lt_zero _)
  | cons e t ih =>
    intro z g k H hg k0 k2
    obtain ⟨p, q, s⟩ := e
    obtain ⟨h1, h2, h3, h4⟩ := H
    cases g with
    | zero =>
      show c (z + 3 * ((0 : Nat) : Int) + k) = if k = 0 then p else if k = 1 then q else s
      rcases (show k = 0 ∨ k = 1 ∨ k = 2 by omega) with e | e | e
      · subst e; rw [if_pos rfl, ← h1]; congr 1; omega
      · subst e; rw [if_neg (by decide), if_pos rfl, ← h2]; congr 1; omega
      · subst e; rw [if_neg (by decide), if_neg (by decide), ← h3]; congr 1; omega
    | succ g =>
      have := ih (z + 3) g k h4 (by simpa using hg) k0 k2
      show _ = tcl t g k
      rw [← this]
      congr 1
      omega
end Q
