section Q
variable {w : WD} {A : Int → Nat} {h hh : AH} {t : Nat} {c : Int → Int}
set_option maxRecDepth 100000 in
theorem c_goThrough (hS : Sim w A h) {m b : Int} (hl : lvM w m) (b0 : 0 ≤ b) (tb : b < wBx w m) (hN : cnX w m (12 * m + b) ≤ 20000) {y : List TR} {l : List (List TR)} (hb : bTb w m (12 * m + b) = y :: l) : ∃ h' : AH, f_X4_goThrough 72 (A (10 + (12 * m + b))) h = some h' ∧ Sc w A h h' ∧ LC h' (lkF w m (wtT w m y, y, 0, 0) l) := by
  have hF := hS.F
  have hW := hS.W
  have ht : Tt 74 := Or.inr (Or.inl rfl)
  obtain ⟨ch, hd⟩ := bTb_chain hW hl b0 tb
  have hok := fun T (hT : T ∈ bTb w m (12 * m + b)) => bTb_ok w m (12 * m + b) hT
  have hcl : ((bTb w m (12 * m + b)).length : Int) = cnX w m (12 * m + b) := (box_all hW hl b0 tb).2.2.2.2.2.2
  rw [hb] at ch hd hok hcl
  rw [List.length_cons] at hcl
  have hd : some y = some (fst1 (bRw w m (12 * m + b)) (wC w (12 * m + b) 0) (wC w (12 * m + b) 1) (wC w (12 * m + b) 2)) := hd
  have hy : y = fst1 (bRw w m (12 * m + b)) (wC w (12 * m + b) 0) (wC w (12 * m + b) 1) (wC w (12 * m + b) 2) := Option.some.inj hd
  have s0 : Sc w A h (sI h 72 3 (iv 0)) := (Sc.rf hS).sI (kp72 3)
  obtain ⟨h1, f1, C1, F1⟩ := c_start hS s0 ht hl b0 tb
  rw [← hy] at C1
  have hF1 := C1.S.F
  have hB := C1.S.B hl b0 tb
  have hM := C1.S.M hl
  have hyo := hok y (by simp)
  have hw := c_weightOf hF1 hM (ct_cells hW hl b0 tb C1 hyo) 12 FU (FU_gt (by decide)) 0 0 (by omega) (by omega)
  rw [Int.zero_add] at hw
  have hw : lp b_X4_weightOf_4 (fun _ _ _ _ _ => none) FU 72 (A m + 3) (iv 0) (iv 0) h1 = some (iv (wtT w m y), h1) := hw
  have C2 := C1.oth (a := 72) (i := 1) (v := iv (wtT w m y)) (Or.inl (by decide)) (kp72 1)
  have hF2 := C2.S.F
  have kk := c_keep hF2
  have hcell := ct_cells hW hl b0 tb C2 hyo
  have C3 := C2.cp (x := 75) (i := 0) (b := 73) (j := 0) (n := 12) (Or.inl (by decide)) kp73
  have l3 : gI h1 72 3 = iv 0 := by rw [F1.1 _ _ (Or.inl (by decide)), gI_sIs]
  have hL : LC (cpI (sI h1 72 1 (iv (wtT w m y))) 75 0 73 0 12) (wtT w m y, y, 0, 0) := by
    refine ⟨?_, ?_, fun e => ?_, Rw_cp hcell⟩
    · rw [gI_cpIo _ _ (by decide), gI_sIs]
    · rw [gI_cpIo _ _ (by decide), gI_sIo _ _ (Or.inr (by decide)), l3]
    · exact absurd (show (0 : Int) = 1 from e) (by decide)
  have hr := wt_rng hW hl b0 tb hyo
  obtain ⟨h', g1, g2, g3⟩ := c_go34 hW hl b0 tb l y FU (FU_gt (by omega)) ch hok _ _ 1 C3 hL ⟨hr, Or.inl rfl, fun e => absurd (show (0 : Int) = 1 from e) (by decide)⟩ (by omega) (by omega)
  refine ⟨h', ?_, g2, g3⟩
  obtain ⟨q1, -⟩ := ht.ok hF
  have e1 : (iv 0 = iv 0) = True := eq_self _
  rw [← g1]
  simp -implicitDefEqProofs (disch := omega) only [k_X4_goThrough_1, k_X4_goThrough_2, k_X4_goThrough_3, F_f_X4_goThrough, f_X4_goThrough_34, F_f_X4_weightOf, f_X4_weightOf_4, gK_sI, gR_sI, K72 hF, K72 hF1, K72 hF2, R72_4 hF, q1, f1, oB_k hB, oB_0 hB, oM_k hM, oM_4 hM, hw, kk, true_or, and_true, iv_add, iv_sub, iv_mul, iv_neg, iv_zero, iv_ltT, iv_ltF, iv_leT, iv_leF, iv_eqT, iv_eqF, iv_div, rm_iv, tn_iv, ib_iv, some_cb, some_cbv, ↓nm_eq, ↓reduceIte, true_and, and_true, Bool.true_eq_false, Bool.false_eq_true, not_false_eq_true, not_true_eq_false]
/-- what the reference holds of the likeliest -/
def LQ (w : WD) (m : Int) (hh : AH) (s : LkS) : Prop := gI hh 91 41 = iv s.1 ∧ gI hh 91 43 = iv s.2.2.1 ∧ (s.2.2.1 = 1 → gI hh 91 42 = iv s.2.2.2) ∧ ∀ p : Int, 0 ≤ p → p < 3 * wGr w m → gI hh 120 p.toNat = iv (cz s.2.1 p)
theorem LQ.fr {m : Int} {h' : AH} {s : LkS} (H : LQ w m hh s) (f : ∀ (a j : Nat), (a < 116 ∨ 119 < a) → gI h' a j = gI hh a j) : LQ w m h' s := by
  obtain ⟨l1, l2, l3, l4⟩ := H
  exact ⟨by rw [f _ _ (by omega), l1], by rw [f _ _ (by omega), l2], fun e => by rw [f _ _ (by omega), l3 e], fun p p0 p1 => by rw [f _ _ (by omega), l4 p p0 p1]⟩
theorem kp91 {i : Nat} (h : i = 41 ∨ i = 42 ∨ i = 43) : ¬ kpI 91 i := by unfold kpI; omega
theorem NS.s91 (N : NS w A h hh c) {i : Nat} {v : Int32} (hi : i = 41 ∨ i = 42 ∨ i = 43) : NS w A h (sI hh 91 i v) c := by
  obtain ⟨n1, n2, n3⟩ := N
  exact ⟨n1.sI (kp91 hi), n2.scI (kp91 hi), n3.oth (by decide)⟩
set_option maxRecDepth 100000 in
theorem q_copy68 {m b : Int} (hl : lvM w m) (b0 : 0 ≤ b) (tb : b < wBx w m) (k14 : Nat → Int32 → Int32 → Int32 → AH → Option AH) : ∀ (n N : Nat), n < N → ∀ (hh : AH) (p : Int), NS w A h hh c → 0 ≤ p → p + n = 12 → ∃ h' : AH, lp (b_X12_findsLikeliest_68 k14) (fun _ _ _ _ => none) N 91 (iv (12 * m + b)) (iv p) hh = f_X12_findsLikeliest_142 k14 91 (iv (12 * m + b)) h' ∧ NS w A h h' c ∧ (∀ q : Int, p ≤ q → q < 12 → gI h' 120 q.toNat = iv (c (12 * b + q))) ∧ (∀ q : Int, 0 ≤ q → q < p → gI h' 120 q.toNat = gI hh 120 q.toNat) ∧ ∀ (a j : Nat), a ≠ 120 → gI h' a j = gI hh a j := by
  intro n
  induction n with
  | zero =>
    intro N hN; obtain ⟨N, rfl⟩ : ∃ N', N = N' + 1 := ⟨N - 1, (by omega)⟩
    intro hh p hN0 p0 hp
    exact ⟨hh, by simp -implicitDefEqProofs (disch := omega) only [lp_succ, F_b_X12_findsLikeliest_68, iv_add, iv_sub, iv_mul, iv_neg, iv_zero, iv_ltT, iv_ltF, iv_leT, iv_leF, iv_eqT, iv_eqF, iv_div, rm_iv, tn_iv, ib_iv, some_cb, some_cbv, ↓nm_eq, ↓reduceIte, true_and, and_true, Bool.true_eq_false, Bool.false_eq_true, not_false_eq_true, not_true_eq_false], hN0, fun q q0 q1 => by omega, fun _ _ _ => rfl, fun _ _ _ => rfl⟩
  | succ n ih =>
    intro N hN; obtain ⟨N, rfl⟩ : ∃ N', N = N' + 1 := ⟨N - 1, (by omega)⟩
    intro hh p hN0 p0 hp
    have hS := hN0.2.1
    have hF := hS.F
    obtain ⟨-, -, ⟨b2, b3⟩, -⟩ := hS.W.mat hl
    obtain ⟨⟨x0, x1⟩, -⟩ := box_ran hS.W hl b0 tb
    have hxm : rmI (iv (12 * m + b)) (iv 12) = iv b := (by rw [rm_iv (by omega) (by omega) (by omega) (by omega)]; congr 1; omega)
    have hn := hN0.2.2 (12 * b + p) (by omega)
    obtain ⟨h', f1, f2, f3, f4, f5⟩ := ih N (by omega) _ (p + 1) (hN0.oth (a := 120) (i := p.toNat) (v := iv (c (12 * b + p))) (by decide) (by decide)) (by omega) (by omega)
    refine ⟨h', ?_, f2, fun q q0 q1 => ?_, fun q q0 q1 => ?_, fun a j ha => ?_⟩
    · rw [← f1]
      simp -implicitDefEqProofs (disch := omega) only [lp_succ, F_b_X12_findsLikeliest_68, K91 hF, R91_29 hF, K116 hF, N116 hF, R91_44 hF, K120 hF, N120 hF, hxm, hn, iv_add, iv_sub, iv_mul, iv_neg, iv_zero, iv_ltT, iv_ltF, iv_leT, iv_leF, iv_eqT, iv_eqF, iv_div, rm_iv, tn_iv, ib_iv, some_cb, some_cbv, ↓nm_eq, ↓reduceIte, true_and, and_true, Bool.true_eq_false, Bool.false_eq_true, not_false_eq_true, not_true_eq_false]
    · by_cases e : q = p
      · rw [e, f4 p p0 (by omega), gI_sIs]
      · exact f3 q (by omega) q1
    · rw [f4 q q0 (by omega), gI_sIo _ _ (Or.inr (by omega))]
    · rw [f5 a j ha, gI_sIo _ _ (Or.inl ha)]
theorem HT_cz {T : List TR} {b G : Int} (hH : HT c (12 * b) T) (hlen : (T.length : Int) = G) {p : Int} (p0 : 0 ≤ p) (p1 : p < 3 * G) : c (12 * b + p) = cz T p := by
  have := HT_cell T (12 * b) (p / 3).toNat (p % 3) hH (by omega) (by omega) (by omega)
  rwa [show 12 * b + 3 * ((p / 3).toNat : Int) + p % 3 = 12 * b + p by omega] at this
/- a new best: its weight kept, its table copied -/
set_option maxRecDepth 100000 in
theorem q_fl56 (N0 : NS w A h hh c) {m b : Int} (hl : lvM w m) (b0 : 0 ≤ b) (tb : b < wBx w m) (k14 : Nat → Int32 → Int32 → Int32 → AH → Option AH) {T : List TR} (hlen : (T.length : Int) = wGr w m) (hH : HT c (12 * b) T) (n x hn : Int) (h3 : gI hh 91 43 = iv hn) : ∃ h' : AH, f_X12_findsLikeliest_56 k14 91 (iv (12 * m + b)) (iv n) 91 (iv x) hh = f_X12_findsLikeliest_142 k14 91 (iv (12 * m + b)) h' ∧ NS w A h h' c ∧ LQ w m h' (n, T, hn, x) := by
  have hF := N0.2.1.F
  obtain ⟨⟨gg1, gg2⟩, -⟩ := N0.2.1.W.mat hl
  have N1 := (N0.s91 (i := 42) (v := iv x) (by decide)).s91 (i := 41) (v := iv n) (by decide)
  obtain ⟨h', f1, f2, f3, -, f5⟩ := q_copy68 hl b0 tb k14 12 FU (FU_gt (by decide)) _ 0 N1 (by omega) (by omega)
  refine ⟨h', ?_, f2, ?_, ?_, fun _ => ?_, fun p p0 p1 => ?_⟩
  · rw [← f1]
    simp -implicitDefEqProofs (disch := omega) only [F_f_X12_findsLikeliest_56, f_X12_findsLikeliest_68, gK_sI, K91 hF, iv_add, iv_sub, iv_mul, iv_neg, iv_zero, iv_ltT, iv_ltF, iv_leT, iv_leF, iv_eqT, iv_eqF, iv_div, rm_iv, tn_iv, ib_iv, some_cb, some_cbv, ↓nm_eq, ↓reduceIte, true_and, and_true, Bool.true_eq_false, Bool.false_eq_true, not_false_eq_true, not_true_eq_false]
  · rw [f5 _ _ (by decide), gI_sIs]
  · rw [f5 _ _ (by decide), gI_sIo _ _ (Or.inr (by decide)), gI_sIo _ _ (Or.inr (by decide)), h3]
  · rw [f5 _ _ (by decide), gI_sIo _ _ (Or.inr (by decide)), gI_sIs]
  · rw [f3 p p0 (by omega), HT_cz hH hlen p0 p1]
set_option maxRecDepth 100000 in
theorem q_fl142 {m b : Int} (hl : lvM w m) (b0 : 0 ≤ b) (tb : b < wBx w m) (hW : WI w) : ∀ (l : List (List TR)) (T : List TR) (N : Nat), l.length < N → Cs (nxt1 (bRw w m (12 * m + b)) (wC w (12 * m + b) 0) (wC w (12 * m + b) 1) (wC w (12 * m + b) 2)) (T :: l) none → (∀ T' ∈ T :: l, TOk (bRw w m (12 * m + b)) (wC w (12 * m + b) 0) (wC w (12 * m + b) 1) (wC w (12 * m + b) 2) T') → ∀ (hh : AH) (c : Int → Int) (s : LkS), NS w A h hh c → HT c (12 * b) T → LQ w m hh s → LI w m s → ∃ h' : AH, f_X12_findsLikeliest_142 (lp b_X12_findsLikeliest_14 (fun _ _ _ _ _ => none) N) 91 (iv (12 * m + b)) hh = some h' ∧ Sc w A h h' ∧ LQ w m h' (lkF w m s l) := by
  intro l
  induction l with
  | nil =>
    intro T N hN hC hok hh c s hNS hH hL hI
    obtain ⟨N, rfl⟩ : ∃ N', N = N' + 1 := ⟨N - 1, by simp at hN; omega⟩
    obtain ⟨hC1, -⟩ := hC
    have hC1 : nxt1 (bRw w m (12 * m + b)) (wC w (12 * m + b) 0) (wC w (12 * m + b) 1) (wC w (12 * m + b) 2) T = none := hC1
    have hx := q_nextT hNS hl b0 tb (hok T (by simp)) hH
    rw [hC1] at hx
    obtain ⟨h', f1, f2, f3⟩ := hx
    have hF := hNS.2.1.F
    exact ⟨h', by simp -implicitDefEqProofs (disch := omega) only [F_f_X12_findsLikeliest_142, k_X12_findsLikeliest_142_1, lp_succ, F_b_X12_findsLikeliest_14, K91 hF, f1, iv_add, iv_sub, iv_mul, iv_neg, iv_zero, iv_ltT, iv_ltF, iv_leT, iv_leF, iv_eqT, iv_eqF, iv_div, rm_iv, tn_iv, ib_iv, some_cb, some_cbv, ↓nm_eq, ↓reduceIte, true_and, and_true, Bool.true_eq_false, Bool.false_eq_true, not_false_eq_true, not_true_eq_false], f2.1, hL.fr f3⟩
  | cons T2 l ih =>
    intro T N hN hC hok hh c s hNS hH hL hI
    obtain ⟨N, rfl⟩ : ∃ N', N = N' + 1 := ⟨N - 1, by simp at hN; omega⟩
    rw [List.length_cons] at hN
    obtain ⟨hC1, hC2⟩ := hC
    have hC1 : nxt1 (bRw w m (12 * m + b)) (wC w (12 * m + b) 0) (wC w (12 * m + b) 1) (wC w (12 * m + b) 2) T = some T2 := hC1
    have hT2 := hok T2 (by simp)
    have hx := q_nextT hNS hl b0 tb (hok T (by simp)) hH
    rw [hC1] at hx
    obtain ⟨h1, c1, f1, f2, f3, -, f5⟩ := hx
    have hF := hNS.2.1.F
    have hF1 := f2.2.1.F
    have k91 := K91 hF1
    have hL1 := hL.fr f5
    have hw := q_weightNow f2 hl b0 tb hT2 f3
    have hr := wt_rng hW hl b0 tb hT2
    have hI2 := LI_step hW hl b0 tb hT2 hI
    have hlen := (TOk_rng _ _ _ _ _ hT2).2.2.2.2
    unfold bRw at hlen
    rw [rwL_len] at hlen
    obtain ⟨⟨gg1, gg2⟩, -⟩ := hW.mat hl
    have hlen' : (T2.length : Int) = wGr w m := by omega
    obtain ⟨s1, s2, s3, s4⟩ := s
    obtain ⟨⟨i1, i2⟩, i3, i4⟩ := hI
    have i1 : -400000 ≤ s1 := i1
    have i2 : s1 ≤ 400000 := i2
    have i3 : s3 = 0 ∨ s3 = 1 := i3
    have i4 : s3 = 1 → s4 < s1 ∧ -400000 ≤ s4 := i4
    obtain ⟨l1, l2, l3, l4⟩ := hL1
    have l1 : gI h1 91 41 = iv s1 := l1
    have l2 : gI h1 91 43 = iv s3 := l2
    have l3 : s3 = 1 → gI h1 91 42 = iv s4 := l3
    show ∃ h' : AH, _ ∧ _ ∧ LQ w m h' (lkF w m (lkS w m (s1, s2, s3, s4) T2) l)
    have done : ∀ (hh2 : AH) (s' : LkS), lkS w m (s1, s2, s3, s4) T2 = s' → NS w A h hh2 c1 → LQ w m hh2 s' → (b_X12_findsLikeliest_14 (lp b_X12_findsLikeliest_14 (fun _ _ _ _ _ => none) N) 91 (iv (12 * m + b)) (iv 1) (iv 1) h1 = f_X12_findsLikeliest_142 (lp b_X12_findsLikeliest_14 (fun _ _ _ _ _ => none) N) 91 (iv (12 * m + b)) hh2) → ∃ h' : AH, f_X12_findsLikeliest_142 (lp b_X12_findsLikeliest_14 (fun _ _ _ _ _ => none) (N + 1)) 91 (iv (12 * m + b)) hh = some h' ∧ Sc w A h h' ∧ LQ w m h' (lkF w m (lkS w m (s1, s2, s3, s4) T2) l) := by
      intro hh2 s' hs' n2 q2 e
      rw [hs'] at hI2 ⊢
      obtain ⟨h', g1, g2, g3⟩ := ih T2 N (by omega) hC2 (fun T' hT' => hok T' (List.mem_cons_of_mem _ hT')) hh2 c1 s' n2 f3 q2 hI2
      refine ⟨h', ?_, g2, g3⟩
      rw [← g1, ← e]
      simp -implicitDefEqProofs (disch := omega) only [F_f_X12_findsLikeliest_142, k_X12_findsLikeliest_142_1, lp_succ, K91 hF, f1, iv_add, iv_sub, iv_mul, iv_neg, iv_zero, iv_ltT, iv_ltF, iv_leT, iv_leF, iv_eqT, iv_eqF, iv_div, rm_iv, tn_iv, ib_iv, some_cb, some_cbv, ↓nm_eq, ↓reduceIte, true_and, and_true, Bool.true_eq_false, Bool.false_eq_true, not_false_eq_true, not_true_eq_false]
    obtain ⟨n, hn⟩ : ∃ n, wtT w m T2 = n := ⟨_, rfl⟩
    rw [hn] at hr hw
    have eS : lkS w m (s1, s2, s3, s4) T2 = if n = s1 then (s1, s2, s3, s4) else if s1 < n then (n, T2, 1, s1) else if s3 = 0 ∨ s4 < n then (s1, s2, 1, n) else (s1, s2, s3, s4) := by
      unfold lkS; rw [hn]
    by_cases z1 : n = s1
    · refine done h1 (s1, s2, s3, s4) (by rw [eS, if_pos z1]) f2 ⟨l1, l2, l3, l4⟩ ?_
      simp -implicitDefEqProofs (disch := omega) only [F_b_X12_findsLikeliest_14, k_X12_findsLikeliest_142_1, F_f_X12_findsLikeliest_56, F_f_X12_findsLikeliest_38, F_f_X12_findsLikeliest_131, k_X12_findsLikeliest_14_1, k_X12_findsLikeliest_1, k91, hw, l1, iv_add, iv_sub, iv_mul, iv_neg, iv_zero, iv_ltT, iv_ltF, iv_leT, iv_leF, iv_eqT, iv_eqF, iv_div, rm_iv, tn_iv, ib_iv, some_cb, some_cbv, ↓nm_eq, ↓reduceIte, true_and, and_true, Bool.true_eq_false, Bool.false_eq_true, not_false_eq_true, not_true_eq_false]
    by_cases z2 : s1 < n
    · have N1 := f2.s91 (i := 43) (v := iv 1) (by decide)
      obtain ⟨h2, g1, g2, g3⟩ := q_fl56 N1 hl b0 tb (lp b_X12_findsLikeliest_14 (fun _ _ _ _ _ => none) N) hlen' f3 n s1 1 (gI_sIs _ _ _ _)
      refine done h2 (n, T2, 1, s1) (by rw [eS, if_neg z1, if_pos z2]) g2 g3 ?_
      rw [← g1]
      have e1 : gI (sI h1 91 43 (iv 1)) 91 41 = iv s1 := by rw [gI_sIo _ _ (Or.inr (by decide)), l1]
      simp -implicitDefEqProofs (disch := omega) only [F_b_X12_findsLikeliest_14, k_X12_findsLikeliest_142_1, F_f_X12_findsLikeliest_38, F_f_X12_findsLikeliest_131, k_X12_findsLikeliest_14_1, k_X12_findsLikeliest_1, gK_sI, k91, hw, l1, e1, iv_one, or_true, and_true, iv_add, iv_sub, iv_mul, iv_neg, iv_zero, iv_ltT, iv_ltF, iv_leT, iv_leF, iv_eqT, iv_eqF, iv_div, rm_iv, tn_iv, ib_iv, some_cb, some_cbv, ↓nm_eq, ↓reduceIte, true_and, and_true, Bool.true_eq_false, Bool.false_eq_true, not_false_eq_true, not_true_eq_false]
    by_cases z3 : s3 = 0 ∨ s4 < n
    · have N1 := (f2.s91 (i := 43) (v := iv 1) (by decide)).s91 (i := 42) (v := iv n) (by decide)
      refine done _ (s1, s2, 1, n) (by rw [eS, if_neg z1, if_neg z2, if_pos z3]) N1 ⟨?_, ?_, fun _ => ?_, fun p p0 p1 => ?_⟩ ?_
      · rw [gI_sIo _ _ (Or.inr (by decide)), gI_sIo _ _ (Or.inr (by decide)), l1]
      · rw [gI_sIo _ _ (Or.inr (by decide)), gI_sIs]
      · rw [gI_sIs]
      · rw [gI_sIo _ _ (Or.inl (by decide)), gI_sIo _ _ (Or.inl (by decide))]; exact l4 p p0 p1
      · rcases i3 with y | y
        · rw [y] at l2
          simp -implicitDefEqProofs (disch := omega) only [F_b_X12_findsLikeliest_14, k_X12_findsLikeliest_142_1, F_f_X12_findsLikeliest_56, F_f_X12_findsLikeliest_38, F_f_X12_findsLikeliest_131, k_X12_findsLikeliest_14_1, k_X12_findsLikeliest_1, gK_sI, k91, hw, l1, l2, iv_one, or_true, and_true, iv_add, iv_sub, iv_mul, iv_neg, iv_zero, iv_ltT, iv_ltF, iv_leT, iv_leF, iv_eqT, iv_eqF, iv_div, rm_iv, tn_iv, ib_iv, some_cb, some_cbv, ↓nm_eq, ↓reduceIte, true_and, and_true, Bool.true_eq_false, Bool.false_eq_true, not_false_eq_true, not_true_eq_false]
        · have l3' := l3 y
          have i4' := i4 y
          rw [y] at l2
          simp -implicitDefEqProofs (disch := omega) only [F_b_X12_findsLikeliest_14, k_X12_findsLikeliest_142_1, F_f_X12_findsLikeliest_56, F_f_X12_findsLikeliest_38, F_f_X12_findsLikeliest_131, k_X12_findsLikeliest_14_1, k_X12_findsLikeliest_1, gK_sI, k91, hw, l1, l2, l3', iv_one, or_true, and_true, iv_add, iv_sub, iv_mul, iv_neg, iv_zero, iv_ltT, iv_ltF, iv_leT, iv_leF, iv_eqT, iv_eqF, iv_div, rm_iv, tn_iv, ib_iv, some_cb, some_cbv, ↓nm_eq, ↓reduceIte, true_and, and_true, Bool.true_eq_false, Bool.false_eq_true, not_false_eq_true, not_true_eq_false]
    · have y : s3 = 1 := by omega
      have l3' := l3 y
      have i4' := i4 y
      refine done h1 (s1, s2, s3, s4) (by rw [eS, if_neg z1, if_neg z2, if_neg z3]) f2 ⟨l1, l2, l3, l4⟩ ?_
      rw [y] at l2
      simp -implicitDefEqProofs (disch := omega) only [F_b_X12_findsLikeliest_14, k_X12_findsLikeliest_142_1, F_f_X12_findsLikeliest_56, F_f_X12_findsLikeliest_38, F_f_X12_findsLikeliest_131, k_X12_findsLikeliest_14_1, k_X12_findsLikeliest_1, k91, hw, l1, l2, l3', iv_add, iv_sub, iv_mul, iv_neg, iv_zero, iv_ltT, iv_ltF, iv_leT, iv_leF, iv_eqT, iv_eqF, iv_div, rm_iv, tn_iv, ib_iv, some_cb, some_cbv, ↓nm_eq, ↓reduceIte, true_and, and_true, Bool.true_eq_false, Bool.false_eq_true, not_false_eq_true, not_true_eq_false]
set_option maxRecDepth 100000 in
theorem q_finds (hS : Sim w A h) {m b : Int} (hl : lvM w m) (b0 : 0 ≤ b) (tb : b < wBx w m) (hN : cnX w m (12 * m + b) ≤ 20000) {y : List TR} {l : List (List TR)} (hb : bTb w m (12 * m + b) = y :: l) : ∃ h' : AH, f_X12_findsLikeliest 91 (iv (12 * m + b)) h = some h' ∧ Sc w A h h' ∧ LQ w m h' (lkF w m (wtT w m y, y, 0, 0) l) := by
  have hW := hS.W
  obtain ⟨ch, hd⟩ := bTb_chain hW hl b0 tb
  have hok := fun T (hT : T ∈ bTb w m (12 * m + b)) => bTb_ok w m (12 * m + b) hT
  have hcl : ((bTb w m (12 * m + b)).length : Int) = cnX w m (12 * m + b) := (box_all hW hl b0 tb).2.2.2.2.2.2
  rw [hb] at ch hd hok hcl
  rw [List.length_cons] at hcl
  have hd : some y = some (fst1 (bRw w m (12 * m + b)) (wC w (12 * m + b) 0) (wC w (12 * m + b) 1) (wC w (12 * m + b) 2)) := hd
  have hy : y = fst1 (bRw w m (12 * m + b)) (wC w (12 * m + b) 0) (wC w (12 * m + b) 1) (wC w (12 * m + b) 2) := Option.some.inj hd
  have hF := hS.F
  have N0 := (NS.start hS).s91 (i := 43) (v := iv 0) (by decide)
  have hF0 := N0.2.1.F
  obtain ⟨h1, c1, f1, f2, f3, -, f5⟩ := q_firstT N0 hl b0 tb
  rw [← hy] at f3
  have hyo := hok y (by simp)
  have hw := q_weightNow f2 hl b0 tb hyo f3
  have hr := wt_rng hW hl b0 tb hyo
  have hlen := (TOk_rng _ _ _ _ _ hyo).2.2.2.2
  unfold bRw at hlen
  rw [rwL_len] at hlen
  obtain ⟨⟨gg1, gg2⟩, -⟩ := hW.mat hl
  have k91 := K91 f2.2.1.F
  obtain ⟨N1, hN1⟩ : ∃ N1, FU = N1 + 1 := ⟨4294967295, rfl⟩
  have hN2 : l.length < N1 := by have := FU_gt (n := 30000) (by decide); omega
  have N2 := f2.s91 (i := 43) (v := iv 0) (by decide)
  obtain ⟨h2, g1, g2, g3⟩ := q_fl56 N2 hl b0 tb (lp b_X12_findsLikeliest_14 (fun _ _ _ _ _ => none) N1) (by omega) f3 (wtT w m y) 0 0 (gI_sIs _ _ _ _)
  obtain ⟨h3, k1, k2, k3⟩ := q_fl142 hl b0 tb hW l y N1 hN2 ch hok h2 c1 _ g2 f3 g3 ⟨hr, Or.inl rfl, fun e => absurd (show (0 : Int) = 1 from e) (by decide)⟩
  refine ⟨h3, ?_, k2, k3⟩
  rw [← k1, ← g1]
  simp -implicitDefEqProofs (disch := omega) only [F_f_X12_findsLikeliest, f_X12_findsLikeliest_14, hN1, lp_succ, F_b_X12_findsLikeliest_14, k_X12_findsLikeliest_142_1, F_f_X12_findsLikeliest_38, F_f_X12_findsLikeliest_131, k_X12_findsLikeliest_14_1, k_X12_findsLikeliest_1, gK_sI, K91 hF, K91 hF0, k91, f1, hw, true_or, and_true, iv_add, iv_sub, iv_mul, iv_neg, iv_zero, iv_ltT, iv_ltF, iv_leT, iv_leF, iv_eqT, iv_eqF, iv_div, rm_iv, tn_iv, ib_iv, some_cb, some_cbv, ↓nm_eq, ↓reduceIte, true_and, and_true, Bool.true_eq_false, Bool.false_eq_true, not_false_eq_true, not_true_eq_false]
end Q
