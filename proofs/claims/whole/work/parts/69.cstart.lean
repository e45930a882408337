theorem gK_cpI (h : AH) (a i b j n x : Nat) : gK (cpI h a i b j n) x = gK h x := rfl
theorem gN_cpI (h : AH) (a i b j n x : Nat) : gN (cpI h a i b j n) x = gN h x := rfl
theorem gR_cpI (h : AH) (a i b j n x y : Nat) : gR (cpI h a i b j n) x y = gR h x y := rfl
theorem gJ_cpI (h : AH) (a i b j n x y : Nat) : gJ (cpI h a i b j n) x y = gJ h x y := rfl
theorem gI_cpIo (h : AH) {a i b j n x : Nat} (y : Nat) (hx : x ≠ b) : gI (cpI h a i b j n) x y = gI h x y := if_neg (fun z => hx z.1)
theorem gI_cpIt (h : AH) {a b n y : Nat} (hy : y < n) : gI (cpI h a 0 b 0 n) b y = gI h a y := by
  have : gI (cpI h a 0 b 0 n) b y = gI h a (0 + (y - 0)) := if_pos ⟨rfl, by omega, by omega⟩
  rw [this]; congr 1; omega
section Q
variable {w : WD} {A : Int → Nat} {h h1 hh : AH} {t : Nat} {pl : Int} {c gl cl : Int → Int}
theorem Sc.cpI (s : Sc w A h h1) {a i b j n : Nat} (hk : ∀ i : Nat, ¬ kpI b i) : Sc w A h (cpI h1 a i b j n) := by
  obtain ⟨a1, a2, a3, a4, a5, a6, a7, a8⟩ := s
  refine ⟨a1, a2, fun x y hx => ?_, a4, a5, a6, a7, a8⟩
  rw [← a3 x y hx]
  exact gI_cpIo h1 y (fun z => hk y (by rw [← z]; exact hx))
theorem Fr.cpI {h0 : AH} (a : Fr t h0 h1) {x i b j n : Nat} (hb : t ≤ b ∧ b ≤ t + 3) : Fr t h0 (cpI h1 x i b j n) := ⟨fun y k z => by rw [gI_cpIo _ _ (by omega)]; exact a.1 y k z, a.2.1, a.2.2⟩
set_option maxRecDepth 100000 in
theorem c_empty56 (ht : Tt t) : ∀ (n N : Nat), n < N → ∀ (hh : AH) (c : Int → Int) (p : Int), TS w A h hh t pl c gl cl → 0 ≤ p → p + n = 12 → ∃ (h' : AH) (c' : Int → Int), lp b_X8_empty_56 (fun _ _ _ => none) N t (iv p) hh = some h' ∧ TS w A h h' t pl c' gl cl ∧ Fr t hh h' ∧ (∀ q : Int, p ≤ q → q < 12 → c' q = 0) ∧ ∀ q : Int, q < p → c' q = c q := by
  intro n
  induction n with
  | zero =>
    intro N hN; obtain ⟨N, rfl⟩ : ∃ N', N = N' + 1 := ⟨N - 1, (by omega)⟩
    intro hh c p T p0 hp
    exact ⟨hh, c, by simp -implicitDefEqProofs (disch := omega) only [lp_succ, F_b_X8_empty_56, iv_add, iv_sub, iv_mul, iv_neg, iv_zero, iv_ltT, iv_ltF, iv_leT, iv_leF, iv_eqT, iv_eqF, iv_div, rm_iv, tn_iv, ib_iv, some_cb, some_cbv, ↓nm_eq, ↓reduceIte, true_and, and_true, Bool.true_eq_false, Bool.false_eq_true, not_false_eq_true, not_true_eq_false], T, Fr.rf t hh, fun q q0 q1 => by omega, fun _ _ => rfl⟩
  | succ n ih =>
    intro N hN; obtain ⟨N, rfl⟩ : ∃ N', N = N' + 1 := ⟨N - 1, (by omega)⟩
    intro hh c p T p0 hp
    obtain ⟨q1, q2, q3, q4, ⟨q5, q6⟩, ⟨q7, q8⟩, q9, q10⟩ := ht.ok T.2.1.F
    have T1 := T.s1 ht (y := p) 0 p0
    obtain ⟨h', c', f1, f2, f3, f4, f5⟩ := ih N (by omega) _ _ (p + 1) T1 (by omega) (by omega)
    refine ⟨h', c', ?_, f2, ((Fr.rf t hh).sI (by omega)).tr f3, fun q q0 q1 => ?_, fun q hq => ?_⟩
    · rw [← f1]
      simp -implicitDefEqProofs (disch := omega) only [lp_succ, F_b_X8_empty_56, q1, q2, q3, q4, q5, q6, iv_add, iv_sub, iv_mul, iv_neg, iv_zero, iv_ltT, iv_ltF, iv_leT, iv_leF, iv_eqT, iv_eqF, iv_div, rm_iv, tn_iv, ib_iv, some_cb, some_cbv, ↓nm_eq, ↓reduceIte, true_and, and_true, Bool.true_eq_false, Bool.false_eq_true, not_false_eq_true, not_true_eq_false]
    · by_cases e : q = p
      · rw [e, f5 p (by omega), uZ_same]
      · exact f4 q (by omega) q1
    · rw [f5 q (by omega), uZ_ne _ (by omega)]
/-- a table of a box, complete in the class's rows -/
def CT (w : WD) (A : Int → Nat) (h hh : AH) (t : Nat) (m : Int) (T : List TR) : Prop := ∃ (c gl cl : Int → Int), TS w A h hh t (3 * (wGr w m - 1) + wCh w m) c gl cl ∧ HT c 0 T ∧ (∀ p : Int, 3 * (wGr w m - 1) + wCh w m ≤ p → p < 12 → c p = 0) ∧ (∀ g : Int, 0 ≤ g → g < wGr w m → gl g = 0) ∧ cl 0 = 0 ∧ cl 1 = 0 ∧ cl 2 = 0
theorem ibs4 : ibs (iv 0) (iv 4) 4 = true := by decide
theorem ibs3 : ibs (iv 0) (iv 3) 3 = true := by decide
set_option maxRecDepth 100000 in
theorem c_empty (hS : Sim w A h) (hc : Sc w A h hh) (ht : Tt t) {m b : Int} (hl : lvM w m) (b0 : 0 ≤ b) (tb : b < wBx w m) : ∃ (h' : AH) (c' : Int → Int), f_X8_empty t (A (10 + (12 * m + b))) hh = some h' ∧ TS w A h h' t (3 * (wGr w m - 1) + wCh w m) c' (fun g => wP w m (12 * m + b) g) (fun k => wC w (12 * m + b) k) ∧ Fr t hh h' ∧ ∀ p : Int, 3 * (wGr w m - 1) + wCh w m ≤ p → p < 12 → c' p = 0 := by
  have hS1 := hS.sc hc
  obtain ⟨⟨gg1, gg2⟩, ⟨gc1, gc2⟩, -⟩ := hS.W.mat hl
  have hB := hS1.B hl b0 tb
  have hM := hS1.M hl
  have hA := hS.aB hl b0 tb
  have hAM := hS.aM hl
  have tt : t ≤ 74 := by rcases ht with e | e | ⟨i, hi, e⟩ <;> omega
  obtain ⟨q1, q2, q3, q4, ⟨q5, q6⟩, ⟨q7, q8⟩, q9, q10⟩ := ht.ok hS1.F
  have k2 := ht.kp (a := t + 2) (by omega) (by omega)
  have k3 := ht.kp (a := t + 3) (by omega) (by omega)
  have k0 := ht.kp (a := t) (by omega) (by omega)
  obtain ⟨h2, e2⟩ : ∃ h2, cpI (cpI hh (A (10 + (12 * m + b)) + 1) 0 (t + 2) 0 4) (A (10 + (12 * m + b)) + 2) 0 (t + 3) 0 3 = h2 := ⟨_, rfl⟩
  have s2 : Sc w A h h2 := by rw [← e2]; exact (hc.cpI k2).cpI k3
  have s2' : Sc w A hh h2 := by rw [← e2]; exact ((Sc.rf hS1).cpI k2).cpI k3
  have r1 : gI h2 (A m) 0 = iv (wGr w m) := by rw [← e2, gI_cpIo _ _ (by omega), gI_cpIo _ _ (by omega), oM_0 hM]
  have r2 : gI h2 (A m) 1 = iv (wCh w m) := by rw [← e2, gI_cpIo _ _ (by omega), gI_cpIo _ _ (by omega), oM_1 hM]
  have rg : Rw h2 (t + 2) 4 (fun g => wP w m (12 * m + b) g) := fun z z0 z1 => by
    rw [← e2, gI_cpIo _ _ (by omega), gI_cpIt _ (by omega), oB_d1 hB z0 z1]
  have rc : Rw h2 (t + 3) 3 (fun k => wC w (12 * m + b) k) := fun z z0 z1 => by
    rw [← e2, gI_cpIt _ (by omega), gI_cpIo _ _ (by omega), oB_d2 hB z0 z1]
  have kk : ∀ a : Nat, gK h2 a = gK hh a := fun a => by rw [← e2]; rfl
  have nn : ∀ a : Nat, gN h2 a = gN hh a := fun a => by rw [← e2]; rfl
  have rr : ∀ a i : Nat, gR h2 a i = gR hh a i := fun a i => by rw [← e2]; rfl
  have T2 : TS w A h (sI h2 t 3 (iv (3 * (wGr w m - 1) + wCh w m))) t (3 * (wGr w m - 1) + wCh w m) (rd (sI h2 t 3 (iv (3 * (wGr w m - 1) + wCh w m))) (t + 1)) (fun g => wP w m (12 * m + b) g) (fun k => wC w (12 * m + b) k) :=
    ⟨s2.sI (k0 3), hS1.sc (s2'.sI (k0 3)), gI_sIs _ _ _ _, fun z z0 z1 => (iv_self _).symm, rg.oth (by omega), rc.oth (by omega)⟩
  obtain ⟨h', c', f1, f2, f3, f4, -⟩ := c_empty56 ht (12 - (3 * (wGr w m - 1) + wCh w m)).toNat FU (FU_gt (by omega)) _ _ (3 * (wGr w m - 1) + wCh w m) T2 (by omega) (by omega)
  have fr : Fr t hh (sI h2 t 3 (iv (3 * (wGr w m - 1) + wCh w m))) := by
    rw [← e2]
    exact ((((Fr.rf t hh).cpI (by omega)).cpI (by omega)).sI (by omega))
  refine ⟨h', c', ?_, f2, fr.tr f3, f4⟩
  have e3 : (iv (wGr w m - 1) * iv 3 + iv (wCh w m)) = iv (3 * (wGr w m - 1) + wCh w m) := by rw [iv_mul, iv_add, Int.mul_comm]
  have e4 : gI (sI h2 t 3 (iv (3 * (wGr w m - 1) + wCh w m))) t 3 = iv (3 * (wGr w m - 1) + wCh w m) := gI_sIs _ _ _ _
  have tn : (iv 0).toNatClampNeg = 0 := by decide
  have t4 : (iv 4).toNatClampNeg = 4 := by decide
  have t3 : (iv 3).toNatClampNeg = 3 := by decide
  have e5 : (iv (wGr w m) - iv 1) * iv 3 + iv (wCh w m) = iv (3 * (wGr w m - 1) + wCh w m) := by rw [iv_sub]; exact e3
  have p1 := oB_k hB
  have p2 := oB_1 hB
  have p3 := oB_2 hB
  have p4 := oB_0 hB
  have p5 := oB_k1 hB
  have p6 := oB_n1 hB
  have p7 := oB_k2 hB
  have p8 := oB_n2 hB
  have p9 := oM_k hM
  rw [F_f_X8_empty]
  have i4 : ¬ iv 4 < iv 0 := by decide
  have i3 : ¬ iv 3 < iv 0 := by decide
  simp only [iv_zero, p1, q1, p2, q3, p5, q7, p6, q8, p3, p7, p8, q4, q9, q10, ibs4, ibs3, i4, i3, not_false_eq_true, true_and, and_true, and_self, ↓nm_eq, ↓reduceIte, gK_cpI, gN_cpI, gR_cpI, tn, t4, t3, e2, kk, nn, rr, p4, p9, r1, r2, e5, gK_sI, gN_sI, gR_sI, e4]
  exact f1
set_option maxRecDepth 100000 in
theorem c_start (hS : Sim w A h) (hc : Sc w A h hh) (ht : Tt t) {m b : Int} (hl : lvM w m) (b0 : 0 ≤ b) (tb : b < wBx w m) : ∃ h' : AH, f_X8_start t (A (10 + (12 * m + b))) hh = some h' ∧ CT w A h h' t m (fst1 (bRw w m (12 * m + b)) (wC w (12 * m + b) 0) (wC w (12 * m + b) 1) (wC w (12 * m + b) 2)) ∧ Fr t hh h' := by
  obtain ⟨⟨gg1, gg2⟩, ⟨gc1, gc2⟩, -⟩ := hS.W.mat hl
  obtain ⟨h1, c1, f1, f2, f3, f4⟩ := c_empty hS hc ht hl b0 tb
  obtain ⟨e1, e2, e3, e4, e5, -, -⟩ := box_all hS.W hl b0 tb
  have hV := hS.W.box hl b0 tb
  have hG : ∀ (n : Nat) (g : Int), 0 ≤ g → g + n ≤ wGr w m → GL (fun g => wP w m (12 * m + b) g) g (rwL w (12 * m + b) g n) := by
    intro n
    induction n with
    | zero => intro g _ _; exact trivial
    | succ n ih => intro g g0 g1; exact ⟨if_pos (by omega), ih (g + 1) (by omega) (by omega)⟩
  obtain ⟨h2, g1, c', gl', cl', g2, g3, g4, g5, g6, g7, g8, g9, g10, g11⟩ := c_fillRows ht hl b0 tb hS.W rfl (wGr w m).toNat FU (FU_gt (by omega)) h1 c1 _ _ 0 (wC w (12 * m + b) 0) (wC w (12 * m + b) 1) (wC w (12 * m + b) 2) f2 (by omega) (by omega) (hG _ 0 (by omega) (by omega)) rfl rfl rfl e3.1 e4.1 e5.1 e2 hV.2.2.1 (by omega) (by omega) (by omega) f4
  rw [Int.mul_zero] at g1 g4
  refine ⟨h2, ?_, ⟨c', gl', cl', g2, g4, g6, fun g g0 g1 => g8 g g0 g1, g9, g10, g11⟩, f3.tr g3⟩
  obtain ⟨q1, -⟩ := ht.ok (hS.sc hc).F
  obtain ⟨q1', -⟩ := ht.ok f2.2.1.F
  simp -implicitDefEqProofs (disch := omega) only [k_X8_start_1, k_X8_start_2, F_f_X8_start, k_X8_fillFrom_26_1, k_X8_fillFrom_26_2, F_b_X8_fillFrom_26, f_X8_fillFrom_26, F_f_X8_fillFrom, f_X8_fillFrom_2, q1, q1', f1, g1, iv_add, iv_sub, iv_mul, iv_neg, iv_zero, iv_ltT, iv_ltF, iv_leT, iv_leF, iv_eqT, iv_eqF, iv_div, rm_iv, tn_iv, ib_iv, some_cb, some_cbv, ↓nm_eq, ↓reduceIte, true_and, and_true, Bool.true_eq_false, Bool.false_eq_true, not_false_eq_true, not_true_eq_false]
end Q
