section Q
variable {w : WD} {A : Int → Nat} {h hh : AH} {t : Nat} {pl : Int} {c gl cl : Int → Int}
theorem ct_cells (hW : WI w) {m b : Int} (hl : lvM w m) (b0 : 0 ≤ b) (tb : b < wBx w m) {T : List TR} (H : CT w A h hh t m T) (hT : TOk (bRw w m (12 * m + b)) (wC w (12 * m + b) 0) (wC w (12 * m + b) 1) (wC w (12 * m + b) 2) T) : Rw hh (t + 1) 12 (fun p => cz T p) := by
  obtain ⟨c, gl, cl, T0, hH, hz, -⟩ := H
  obtain ⟨⟨gg1, gg2⟩, ⟨gc1, gc2⟩, -⟩ := hW.mat hl
  have hlen := (TOk_rng _ _ _ _ _ hT).2.2.2.2
  unfold bRw at hlen
  rw [rwL_len] at hlen
  intro p p0 p1
  rw [T0.2.2.2.1 p p0 p1]
  congr 1
  show c p = cz T p
  unfold cz
  by_cases z : p < 3 * wGr w m
  · have := HT_cell T 0 (p / 3).toNat (p % 3) hH (by omega) (by omega) (by omega)
    rwa [show 0 + 3 * ((p / 3).toNat : Int) + p % 3 = p by omega] at this
  · rw [tcl_far T (by omega)]
    exact hz p (by omega) p1
theorem CT.oth {m : Int} {T : List TR} (H : CT w A h hh t m T) {a i : Nat} {v : Int32} (ha : a < t ∨ t + 3 < a) (k : ¬ kpI a i) : CT w A h (sI hh a i v) t m T := by
  obtain ⟨c, gl, cl, ⟨t1, t2, t3, t4, t5, t6⟩, r⟩ := H
  exact ⟨c, gl, cl, ⟨t1.sI k, t2.scI k, by rw [gI_sIo _ _ (Or.inl (by omega)), t3], t4.oth (by omega), t5.oth (by omega), t6.oth (by omega)⟩, r⟩
theorem Rw.cp {a : Nat} {n : Int} {c : Int → Int} (H : Rw hh a n c) {x i b j k : Nat} (hb : a ≠ b) : Rw (cpI hh x i b j k) a n c := by
  intro z z0 z1
  rw [gI_cpIo _ _ hb, H z z0 z1]
theorem CT.cp {m : Int} {T : List TR} (H : CT w A h hh t m T) {x i b j n : Nat} (ha : b < t ∨ t + 3 < b) (k : ∀ i : Nat, ¬ kpI b i) : CT w A h (cpI hh x i b j n) t m T := by
  obtain ⟨c, gl, cl, ⟨t1, t2, t3, t4, t5, t6⟩, r⟩ := H
  exact ⟨c, gl, cl, ⟨t1.cpI k, t2.sc ((Sc.rf t2).cpI k), by rw [gI_cpIo _ _ (by omega), t3], t4.cp (by omega), t5.cp (by omega), t6.cp (by omega)⟩, r⟩
theorem CT.S {m : Int} {T : List TR} (H : CT w A h hh t m T) : Sim w A hh := by
  obtain ⟨c, gl, cl, T0, -⟩ := H; exact T0.2.1
theorem CT.sc {m : Int} {T : List TR} (H : CT w A h hh t m T) : Sc w A h hh := by
  obtain ⟨c, gl, cl, T0, -⟩ := H; exact T0.1
/-- what the class holds of the likeliest -/
def LC (hh : AH) (s : LkS) : Prop := gI hh 72 1 = iv s.1 ∧ gI hh 72 3 = iv s.2.2.1 ∧ (s.2.2.1 = 1 → gI hh 72 2 = iv s.2.2.2) ∧ Rw hh 73 12 (fun p => cz s.2.1 p)
theorem kp72 (i : Nat) : ¬ kpI 72 i := by unfold kpI; omega
theorem kp73 (i : Nat) : ¬ kpI 73 i := by unfold kpI; omega
theorem ibs12 : ibs (iv 0) (iv 12) 12 = true := by decide
set_option maxRecDepth 100000 in
theorem c_keep (hF : Fix hh) : f_X4_keepCells 72 hh = some (cpI hh 75 0 73 0 12) := by
  obtain ⟨q1, q2, -, -, ⟨q5, q6⟩, -⟩ := (show Tt 74 from Or.inr (Or.inl rfl)).ok hF
  have tn : (iv 0).toNatClampNeg = 0 := by decide
  have t12 : (iv 12).toNatClampNeg = 12 := by decide
  have i12 : ¬ iv 12 < iv 0 := by decide
  simp only [F_f_X4_keepCells, iv_zero, K72 hF, R72_4 hF, R72_0 hF, K73 hF, N73 hF, q1, q2, q5, q6, Nat.reduceAdd, ibs12, i12, not_false_eq_true, true_and, and_true, and_self, ↓nm_eq, ↓reduceIte, tn, t12]
theorem Rw_cp {a b : Nat} {c : Int → Int} (H : Rw hh a 12 c) : Rw (cpI hh a 0 b 0 12) b 12 c := by
  intro z z0 z1
  rw [gI_cpIt _ (by omega), H z z0 z1]
set_option maxRecDepth 100000 in
theorem c_look (hW : WI w) {m b : Int} (hl : lvM w m) (b0 : 0 ≤ b) (tb : b < wBx w m) {T : List TR} (hC : CT w A h hh 74 m T) (hT : TOk (bRw w m (12 * m + b)) (wC w (12 * m + b) 0) (wC w (12 * m + b) 1) (wC w (12 * m + b) 2) T) {s : LkS} (hL : LC hh s) (hI : LI w m s) : ∃ h' : AH, f_X4_look 72 (iv (wtT w m T)) hh = some h' ∧ CT w A h h' 74 m T ∧ LC h' (lkS w m s T) := by
  have hr := wt_rng hW hl b0 tb hT
  obtain ⟨n, hn⟩ : ∃ n, wtT w m T = n := ⟨_, rfl⟩
  rw [hn] at hr
  obtain ⟨s1, s2, s3, s4⟩ := s
  obtain ⟨⟨i1, i2⟩, i3, i4⟩ := hI
  have i1 : -400000 ≤ s1 := i1
  have i2 : s1 ≤ 400000 := i2
  have i3 : s3 = 0 ∨ s3 = 1 := i3
  have i4 : s3 = 1 → s4 < s1 ∧ -400000 ≤ s4 := i4
  obtain ⟨l1, l2, l3, l4⟩ := hL
  have l1 : gI hh 72 1 = iv s1 := l1
  have l2 : gI hh 72 3 = iv s3 := l2
  have l3 : s3 = 1 → gI hh 72 2 = iv s4 := l3
  have l4 : Rw hh 73 12 (fun p => cz s2 p) := l4
  have hF := hC.S.F
  have k72 := K72 hF
  unfold lkS
  rw [hn]
  by_cases z1 : n = s1
  · rw [if_pos z1]
    exact ⟨hh, by simp -implicitDefEqProofs (disch := omega) only [F_f_X4_look, k72, l1, iv_add, iv_sub, iv_mul, iv_neg, iv_zero, iv_ltT, iv_ltF, iv_leT, iv_leF, iv_eqT, iv_eqF, iv_div, rm_iv, tn_iv, ib_iv, some_cb, some_cbv, ↓nm_eq, ↓reduceIte, true_and, and_true, Bool.true_eq_false, Bool.false_eq_true, not_false_eq_true, not_true_eq_false], hC, l1, l2, l3, l4⟩
  rw [if_neg z1]
  by_cases z2 : s1 < n
  · rw [if_pos z2]
    have C1 := ((hC.oth (a := 72) (i := 2) (v := iv s1) (Or.inl (by decide)) (kp72 2)).oth (a := 72) (i := 3) (v := iv 1) (Or.inl (by decide)) (kp72 3)).oth (a := 72) (i := 1) (v := iv n) (Or.inl (by decide)) (kp72 1)
    have C2 := C1.cp (x := 75) (i := 0) (b := 73) (j := 0) (n := 12) (Or.inl (by decide)) kp73
    have kk := c_keep C1.S.F
    have hcell := ct_cells hW hl b0 tb C1 hT
    have e1 : gI (sI (sI hh 72 2 (iv s1)) 72 3 (iv 1)) 72 1 = iv s1 := by rw [gI_sIo _ _ (Or.inr (by decide)), gI_sIo _ _ (Or.inr (by decide)), l1]
    refine ⟨_, ?_, C2, ?_, ?_, fun _ => ?_, Rw_cp hcell⟩
    · have im : min n s1 = s1 := by omega
      rcases i3 with y | y
      · rw [y] at l2
        simp -implicitDefEqProofs (disch := omega) only [F_f_X4_look, F_f_X4_look_38, k_X4_look_38_1, k_X4_look_1, gK_sI, k72, l1, l2, e1, j_min, im, kk, iv_one, true_or, or_true, and_true, iv_add, iv_sub, iv_mul, iv_neg, iv_zero, iv_ltT, iv_ltF, iv_leT, iv_leF, iv_eqT, iv_eqF, iv_div, rm_iv, tn_iv, ib_iv, some_cb, some_cbv, ↓nm_eq, ↓reduceIte, true_and, and_true, Bool.true_eq_false, Bool.false_eq_true, not_false_eq_true, not_true_eq_false]
      · have l3' := l3 y
        have i4' := i4 y
        rw [y] at l2
        simp -implicitDefEqProofs (disch := omega) only [F_f_X4_look, F_f_X4_look_38, k_X4_look_38_1, k_X4_look_1, gK_sI, k72, l1, l2, l3', e1, j_min, im, kk, iv_one, true_or, or_true, and_true, iv_add, iv_sub, iv_mul, iv_neg, iv_zero, iv_ltT, iv_ltF, iv_leT, iv_leF, iv_eqT, iv_eqF, iv_div, rm_iv, tn_iv, ib_iv, some_cb, some_cbv, ↓nm_eq, ↓reduceIte, true_and, and_true, Bool.true_eq_false, Bool.false_eq_true, not_false_eq_true, not_true_eq_false]
    · rw [gI_cpIo _ _ (by decide), gI_sIs]
    · rw [gI_cpIo _ _ (by decide), gI_sIo _ _ (Or.inr (by decide)), gI_sIs]
    · rw [gI_cpIo _ _ (by decide), gI_sIo _ _ (Or.inr (by decide)), gI_sIo _ _ (Or.inr (by decide)), gI_sIs]
  rw [if_neg z2]
  have im : min n s1 = n := by omega
  by_cases z3 : s3 = 0 ∨ s4 < n
  · rw [if_pos z3]
    have C1 := (hC.oth (a := 72) (i := 2) (v := iv n) (Or.inl (by decide)) (kp72 2)).oth (a := 72) (i := 3) (v := iv 1) (Or.inl (by decide)) (kp72 3)
    have e1 : gI (sI (sI hh 72 2 (iv n)) 72 3 (iv 1)) 72 1 = iv s1 := by rw [gI_sIo _ _ (Or.inr (by decide)), gI_sIo _ _ (Or.inr (by decide)), l1]
    refine ⟨_, ?_, C1, e1, ?_, fun _ => ?_, (l4.oth (by decide)).oth (by decide)⟩
    · rcases i3 with y | y
      · rw [y] at l2
        simp -implicitDefEqProofs (disch := omega) only [F_f_X4_look, F_f_X4_look_38, k_X4_look_38_1, k_X4_look_1, gK_sI, k72, l1, l2, e1, j_min, im, iv_one, true_or, or_true, and_true, iv_add, iv_sub, iv_mul, iv_neg, iv_zero, iv_ltT, iv_ltF, iv_leT, iv_leF, iv_eqT, iv_eqF, iv_div, rm_iv, tn_iv, ib_iv, some_cb, some_cbv, ↓nm_eq, ↓reduceIte, true_and, and_true, Bool.true_eq_false, Bool.false_eq_true, not_false_eq_true, not_true_eq_false]
      · have l3' := l3 y
        have i4' := i4 y
        rw [y] at l2
        simp -implicitDefEqProofs (disch := omega) only [F_f_X4_look, F_f_X4_look_38, k_X4_look_38_1, k_X4_look_1, gK_sI, k72, l1, l2, l3', e1, j_min, im, iv_one, true_or, or_true, and_true, iv_add, iv_sub, iv_mul, iv_neg, iv_zero, iv_ltT, iv_ltF, iv_leT, iv_leF, iv_eqT, iv_eqF, iv_div, rm_iv, tn_iv, ib_iv, some_cb, some_cbv, ↓nm_eq, ↓reduceIte, true_and, and_true, Bool.true_eq_false, Bool.false_eq_true, not_false_eq_true, not_true_eq_false]
    · rw [gI_sIs]
    · rw [gI_sIo _ _ (Or.inr (by decide)), gI_sIs]
  · rw [if_neg z3]
    have y : s3 = 1 := by omega
    have l3' := l3 y
    have i4' := i4 y
    have C1 := hC.oth (a := 72) (i := 3) (v := iv 1) (Or.inl (by decide)) (kp72 3)
    have e1 : gI (sI hh 72 3 (iv 1)) 72 1 = iv s1 := by rw [gI_sIo _ _ (Or.inr (by decide)), l1]
    refine ⟨_, ?_, C1, e1, ?_, fun _ => ?_, l4.oth (by decide)⟩
    · rw [y] at l2
      simp -implicitDefEqProofs (disch := omega) only [F_f_X4_look, F_f_X4_look_38, k_X4_look_38_1, k_X4_look_1, gK_sI, k72, l1, l2, l3', e1, j_min, im, iv_one, true_or, or_true, and_true, iv_add, iv_sub, iv_mul, iv_neg, iv_zero, iv_ltT, iv_ltF, iv_leT, iv_leF, iv_eqT, iv_eqF, iv_div, rm_iv, tn_iv, ib_iv, some_cb, some_cbv, ↓nm_eq, ↓reduceIte, true_and, and_true, Bool.true_eq_false, Bool.false_eq_true, not_false_eq_true, not_true_eq_false]
    · rw [gI_sIs]; show iv 1 = iv s3; rw [y]
    · rw [gI_sIo _ _ (Or.inr (by decide))]; exact l3'
theorem LC.fr {s : LkS} {h' : AH} (H : LC hh s) (f : Fr 74 hh h') : LC h' s := by
  obtain ⟨l1, l2, l3, l4⟩ := H
  exact ⟨by rw [f.1 _ _ (Or.inl (by decide)), l1], by rw [f.1 _ _ (Or.inl (by decide)), l2], fun e => by rw [f.1 _ _ (Or.inl (by decide)), l3 e], fun z z0 z1 => by rw [f.1 _ _ (Or.inl (by decide)), l4 z z0 z1]⟩
set_option maxRecDepth 100000 in
theorem c_go34 (hW : WI w) {m b : Int} (hl : lvM w m) (b0 : 0 ≤ b) (tb : b < wBx w m) : ∀ (l : List (List TR)) (T : List TR) (N : Nat), l.length < N → Cs (nxt1 (bRw w m (12 * m + b)) (wC w (12 * m + b) 0) (wC w (12 * m + b) 1) (wC w (12 * m + b) 2)) (T :: l) none → (∀ T' ∈ T :: l, TOk (bRw w m (12 * m + b)) (wC w (12 * m + b) 0) (wC w (12 * m + b) 1) (wC w (12 * m + b) 2) T') → ∀ (hh : AH) (s : LkS) (n : Int), CT w A h hh 74 m T → LC hh s → LI w m s → 1 ≤ n → n + l.length ≤ 20000 → ∃ h' : AH, lp b_X4_goThrough_34 (fun _ _ _ _ => none) N 72 (A (10 + (12 * m + b))) (iv n) hh = some h' ∧ Sc w A h h' ∧ LC h' (lkF w m s l) := by
  have ht : Tt 74 := Or.inr (Or.inl rfl)
  intro l
  induction l with
  | nil =>
    intro T N hN hC hok hh s n hCT hL hI n1 n2
    obtain ⟨N, rfl⟩ : ∃ N', N = N' + 1 := ⟨N - 1, by simp at hN; omega⟩
    have n2 : n + 0 ≤ 20000 := n2
    by_cases z : 20000 ≤ n
    · exact ⟨hh, by simp -implicitDefEqProofs (disch := omega) only [lp_succ, F_b_X4_goThrough_34, iv_add, iv_sub, iv_mul, iv_neg, iv_zero, iv_ltT, iv_ltF, iv_leT, iv_leF, iv_eqT, iv_eqF, iv_div, rm_iv, tn_iv, ib_iv, some_cb, some_cbv, ↓nm_eq, ↓reduceIte, true_and, and_true, Bool.true_eq_false, Bool.false_eq_true, not_false_eq_true, not_true_eq_false], hCT.sc, hL⟩
    · obtain ⟨hC1, -⟩ := hC
      have hC1 : nxt1 (bRw w m (12 * m + b)) (wC w (12 * m + b) 0) (wC w (12 * m + b) 1) (wC w (12 * m + b) 2) T = none := hC1
      have hx := c_advance hW ht hl b0 tb hCT (hok T (by simp))
      rw [hC1] at hx
      obtain ⟨h', f1, f2, f3⟩ := hx
      have hF := hCT.S.F
      have q1 := (ht.ok hF).1
      exact ⟨h', by simp -implicitDefEqProofs (disch := omega) only [lp_succ, F_b_X4_goThrough_34, k_X4_goThrough_34_3, K72 hF, R72_4 hF, q1, f1, iv_add, iv_sub, iv_mul, iv_neg, iv_zero, iv_ltT, iv_ltF, iv_leT, iv_leF, iv_eqT, iv_eqF, iv_div, rm_iv, tn_iv, ib_iv, some_cb, some_cbv, ↓nm_eq, ↓reduceIte, true_and, and_true, Bool.true_eq_false, Bool.false_eq_true, not_false_eq_true, not_true_eq_false], f2, hL.fr f3⟩
  | cons T2 l ih =>
    intro T N hN hC hok hh s n hCT hL hI n1 n2
    obtain ⟨N, rfl⟩ : ∃ N', N = N' + 1 := ⟨N - 1, by simp at hN; omega⟩
    rw [List.length_cons] at n2 hN
    obtain ⟨hC1, hC2⟩ := hC
    have hC1 : nxt1 (bRw w m (12 * m + b)) (wC w (12 * m + b) 0) (wC w (12 * m + b) 1) (wC w (12 * m + b) 2) T = some T2 := hC1
    have hT2 := hok T2 (by simp)
    have hx := c_advance hW ht hl b0 tb hCT (hok T (by simp))
    rw [hC1] at hx
    obtain ⟨h1, f1, f2, f3⟩ := hx
    have hF := hCT.S.F
    have hF1 := f2.S.F
    have q1 := (ht.ok hF).1
    have hB := f2.S.B hl b0 tb
    have hM := f2.S.M hl
    have hw := c_weightOf hF1 hM (ct_cells hW hl b0 tb f2 hT2) 12 FU (FU_gt (by decide)) 0 0 (by omega) (by omega)
    rw [Int.zero_add] at hw
    have hw : lp b_X4_weightOf_4 (fun _ _ _ _ _ => none) FU 72 (A m + 3) (iv 0) (iv 0) h1 = some (iv (wtT w m T2), h1) := hw
    obtain ⟨h2, g1, g2, g3⟩ := c_look hW hl b0 tb f2 hT2 (hL.fr f3) hI
    obtain ⟨h', k1, k2, k3⟩ := ih T2 N (by omega) hC2 (fun T' hT' => hok T' (List.mem_cons_of_mem _ hT')) h2 _ (n + 1) g2 g3 (LI_step hW hl b0 tb hT2 hI) (by omega) (by omega)
    refine ⟨h', ?_, k2, k3⟩
    rw [← k1]
    simp -implicitDefEqProofs (disch := omega) only [lp_succ, F_b_X4_goThrough_34, k_X4_goThrough_34_1, k_X4_goThrough_34_2, k_X4_goThrough_34_3, k_X4_goThrough_1, k_X4_goThrough_2, k_X4_goThrough_3, F_f_X4_weightOf, f_X4_weightOf_4, K72 hF, K72 hF1, R72_4 hF, q1, f1, oB_k hB, oB_0 hB, oM_k hM, oM_4 hM, hw, g1, iv_add, iv_sub, iv_mul, iv_neg, iv_zero, iv_ltT, iv_ltF, iv_leT, iv_leF, iv_eqT, iv_eqF, iv_div, rm_iv, tn_iv, ib_iv, some_cb, some_cbv, ↓nm_eq, ↓reduceIte, true_and, and_true, Bool.true_eq_false, Bool.false_eq_true, not_false_eq_true, not_true_eq_false]
end Q
