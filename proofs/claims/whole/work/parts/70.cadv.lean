theorem uZ_uZ (c : Int → Int) (p v v' : Int) : uZ (uZ c p v) p v' = uZ c p v' := by
  funext j
  by_cases e : j = p
  · rw [e, uZ_same, uZ_same]
  · rw [uZ_ne _ e, uZ_ne _ e, uZ_ne _ e]
section Q
variable {w : WD} {A : Int → Nat} {h hh : AH} {t : Nat} {pl : Int} {c gl cl : Int → Int}
set_option maxRecDepth 100000 in
theorem c_room (ht : Tt t) (T : TS w A h hh t pl c gl cl) {p g k : Int} (p0 : 0 ≤ p) (p1 : p < 12) (hg : p / 3 = g) (hk : p % 3 = k) (b1 : -1000 ≤ gl g ∧ gl g ≤ 1000) (b2 : -1000 ≤ cl k ∧ cl k ≤ 1000) : f_X8_room t (iv p) hh = some (iv (min (gl g) (cl k)), hh) := by
  obtain ⟨q1, q2, q3, q4, ⟨q5, q6⟩, ⟨q7, q8⟩, q9, q10⟩ := ht.ok T.2.1.F
  have g0 := T.2.2.2.2.1 g (by omega) (by omega)
  have k0 := T.2.2.2.2.2 k (by omega) (by omega)
  simp -implicitDefEqProofs (disch := omega) only [k_X8_room_1, F_f_X8_room, q1, q2, q3, q4, q5, q6, q7, q8, q9, q10, hg, hk, g0, k0, j_min, iv_add, iv_sub, iv_mul, iv_neg, iv_zero, iv_ltT, iv_ltF, iv_leT, iv_leF, iv_eqT, iv_eqF, iv_div, rm_iv, tn_iv, ib_iv, some_cb, some_cbv, ↓nm_eq, ↓reduceIte, true_and, and_true, Bool.true_eq_false, Bool.false_eq_true, not_false_eq_true, not_true_eq_false]
set_option maxRecDepth 100000 in
theorem c_advNo (ht : Tt t) (T : TS w A h hh t pl c gl cl) (self : Nat → Int32 → AH → Option (Int32 × AH)) {p g k : Int} (p0 : 0 ≤ p) (p1 : p < 12) (hg : p / 3 = g) (hk : p % 3 = k) (b0 : 0 ≤ c p ∧ c p ≤ 500) (b1 : 0 ≤ gl g ∧ gl g ≤ 500) (b2 : 0 ≤ cl k ∧ cl k ≤ 500) (hno : min (gl g + c p) (cl k + c p) < c p + 1) : ∃ h' : AH, b_X8_advance_7 self t (iv p) hh = self t (iv (p - 1)) h' ∧ TS w A h h' t pl c (uZ gl g (gl g + c p)) (uZ cl k (cl k + c p)) ∧ Fr t hh h' := by
  obtain ⟨q1, q2, q3, q4, ⟨q5, q6⟩, ⟨q7, q8⟩, q9, q10⟩ := ht.ok T.2.1.F
  have cp := T.2.2.2.1 p p0 p1
  obtain ⟨h1, f1, f2, f3⟩ := c_set ht T (-(c p)) p0 p1 hg hk
  rw [show gl g - -(c p) = gl g + c p by omega, show cl k - -(c p) = cl k + c p by omega] at f2
  have k1 := (ht.ok f2.2.1.F).1
  have a0 : uZ gl g (gl g + c p) g = gl g + c p := uZ_same _ _ _
  have a1 : uZ cl k (cl k + c p) k = cl k + c p := uZ_same _ _ _
  have hr := c_room ht f2 p0 p1 hg hk (by omega) (by omega)
  rw [a0, a1] at hr
  refine ⟨h1, ?_, f2, f3⟩
  simp -implicitDefEqProofs (disch := omega) only [k_X8_advance_7_1, k_X8_advance_7_2, k_X8_advance_7_3, k_X8_advance_7_4, F_b_X8_advance_7, q1, q2, q5, q6, cp, k1, f1, hr, iv_add, iv_sub, iv_mul, iv_neg, iv_zero, iv_ltT, iv_ltF, iv_leT, iv_leF, iv_eqT, iv_eqF, iv_div, rm_iv, tn_iv, ib_iv, some_cb, some_cbv, ↓nm_eq, ↓reduceIte, true_and, and_true, Bool.true_eq_false, Bool.false_eq_true, not_false_eq_true, not_true_eq_false]
  rfl
set_option maxRecDepth 100000 in
theorem c_advYes (ht : Tt t) (T : TS w A h hh t pl c gl cl) (self : Nat → Int32 → AH → Option (Int32 × AH)) {p g k : Int} (p0 : 0 ≤ p) (p1 : p < 12) (hg : p / 3 = g) (hk : p % 3 = k) (b0 : 0 ≤ c p ∧ c p ≤ 500) (b1 : 0 ≤ gl g ∧ gl g ≤ 500) (b2 : 0 ≤ cl k ∧ cl k ≤ 500) (hyes : c p + 1 ≤ min (gl g + c p) (cl k + c p)) : ∃ h' : AH, (∀ h2 : AH, lp b_X8_fillFrom_2 (fun _ _ _ => none) FU t (iv (p + 1)) h' = some h2 → b_X8_advance_7 self t (iv p) hh = some (iv 1, h2)) ∧ TS w A h h' t pl (uZ c p (c p + 1)) (uZ gl g (gl g - 1)) (uZ cl k (cl k - 1)) ∧ Fr t hh h' := by
  obtain ⟨q1, q2, q3, q4, ⟨q5, q6⟩, ⟨q7, q8⟩, q9, q10⟩ := ht.ok T.2.1.F
  have cp := T.2.2.2.1 p p0 p1
  obtain ⟨h1, f1, f2, f3⟩ := c_set ht T (-(c p)) p0 p1 hg hk
  rw [show gl g - -(c p) = gl g + c p by omega, show cl k - -(c p) = cl k + c p by omega] at f2
  obtain ⟨k1, k2, -⟩ := ht.ok f2.2.1.F
  have a0 : uZ gl g (gl g + c p) g = gl g + c p := uZ_same _ _ _
  have a1 : uZ cl k (cl k + c p) k = cl k + c p := uZ_same _ _ _
  have hr := c_room ht f2 p0 p1 hg hk (by omega) (by omega)
  rw [a0, a1] at hr
  obtain ⟨h3, f4, f5, f6⟩ := c_set ht f2 (c p + 1) p0 p1 hg hk
  rw [a0, a1, uZ_uZ, uZ_uZ, show gl g + c p - (c p + 1) = gl g - 1 by omega, show cl k + c p - (c p + 1) = cl k - 1 by omega] at f5
  obtain ⟨k3, k4, k5, k6, ⟨k7, k8⟩, -⟩ := ht.ok f5.2.1.F
  have f7 := f5.s1 ht (y := p) (c p + 1) p0
  have k9 := (ht.ok f7.2.1.F).1
  refine ⟨sI h3 (t + 1) p.toNat (iv (c p + 1)), fun h2 e => ?_, f7, (f3.tr f6).sI (by omega)⟩
  simp -implicitDefEqProofs (disch := omega) only [k_X8_advance_7_1, k_X8_advance_7_2, k_X8_advance_7_3, k_X8_advance_7_4, F_b_X8_advance_7, k_X8_fillFrom_26_1, k_X8_fillFrom_26_2, F_b_X8_fillFrom_26, f_X8_fillFrom_26, F_f_X8_fillFrom, f_X8_fillFrom_2, q1, q2, q5, q6, cp, k1, k3, k4, k7, k8, k9, f1, f4, hr, e, zret1, iv_add, iv_sub, iv_mul, iv_neg, iv_zero, iv_ltT, iv_ltF, iv_leT, iv_leF, iv_eqT, iv_eqF, iv_div, rm_iv, tn_iv, ib_iv, some_cb, some_cbv, ↓nm_eq, ↓reduceIte, true_and, and_true, Bool.true_eq_false, Bool.false_eq_true, not_false_eq_true, not_true_eq_false]
set_option maxRecDepth 100000 in
theorem c_fill2 (ht : Tt t) {m b0 : Int} (hl : lvM w m) (b00 : 0 ≤ b0) (tb : b0 < wBx w m) (hW : WI w) (hpl : pl = 3 * (wGr w m - 1) + wCh w m) (T : TS w A h hh t pl c gl cl) {n : Nat} {g x y z v : Int} (g0 : 0 ≤ g) (hg : g + 1 + n = wGr w m) (h2 : 3 * g + 2 < pl) (hv : gl g = v) (v0 : 0 ≤ v) (v1 : v ≤ 300) (hG : GL gl (g + 1) (rwL w (12 * m + b0) (g + 1) n)) (e0 : cl 0 = x) (e1 : cl 1 = y) (e2 : cl 2 = z) (x0 : 0 ≤ x) (y0 : 0 ≤ y) (z0 : 0 ≤ z - v) (hs : x + y + (z - v) = sumL (rwL w (12 * m + b0) (g + 1) n)) (hz : wCh w m = 2 → z - v = 0) (x1 : x ≤ 300) (y1 : y ≤ 300) (z1 : z ≤ 300) (hc : ∀ p : Int, pl ≤ p → p < 12 → c p = 0) {N : Nat} (hN : 20 < N) : ∃ h' : AH, lp b_X8_fillFrom_2 (fun _ _ _ => none) N t (iv (3 * g + 2)) hh = some h' ∧ ∃ (c' gl' cl' : Int → Int), TS w A h h' t pl c' gl' cl' ∧ Fr t hh h' ∧ c' (3 * g + 2) = v ∧ HT c' (3 * g + 3) (fst1 (rwL w (12 * m + b0) (g + 1) n) x y (z - v)) ∧ (∀ i : Int, i < 3 * g + 2 → c' i = c i) ∧ (∀ p : Int, pl ≤ p → p < 12 → c' p = 0) ∧ (∀ i : Int, i < g → gl' i = gl i) ∧ (∀ i : Int, g ≤ i → i < wGr w m → gl' i = 0) ∧ cl' 0 = 0 ∧ cl' 1 = 0 ∧ cl' 2 = 0 := by
  obtain ⟨⟨gg1, gg2⟩, ⟨gc1, gc2⟩, -⟩ := hW.mat hl
  obtain ⟨N, rfl⟩ : ∃ N', N = N' + 1 := ⟨N - 1, by omega⟩
  obtain ⟨h1, f1, T1, F1⟩ := c_fillStep ht T (lp b_X8_fillFrom_2 (fun _ _ _ => none) N) (p := 3 * g + 2) (g := g) (k := 2) (by omega) (by omega) (by omega) (by omega) (by omega) (by omega) (by omega) (by omega)
  have w2 : fvZ gl cl g 2 = v := by rw [fvZ2, hv]; omega
  rw [w2, hv, e2] at T1
  obtain ⟨h', g1, c', gl', cl', g2, g3, g4, g5, g6, g7, g8, g9, g10, g11⟩ := c_fillRows ht hl b00 tb hW hpl n N (by omega) h1 _ _ _ (g + 1) x y (z - v) T1 (by omega) (by omega) (GL_congr _ _ (fun i i0 i1 => uZ_ne _ (by omega)) hG) (by rw [uZ_ne _ (by omega), e0]) (by rw [uZ_ne _ (by omega), e1]) (uZ_same _ _ _) x0 y0 z0 hs hz (by omega) (by omega) (by omega) (fun p p0 p1 => by rw [uZ_ne _ (by omega), hc p p0 p1])
  refine ⟨h', by rw [lp_succ, f1, ← g1, show 3 * g + 2 + 1 = 3 * (g + 1) by omega], c', gl', cl', g2, F1.tr g3, ?_, by rw [show 3 * g + 3 = 3 * (g + 1) by omega]; exact g4, fun i hi => ?_, g6, fun i hi => ?_, fun i i0 i1 => ?_, g9, g10, g11⟩
  · rw [g5 _ (by omega), uZ_same]
  · rw [g5 i (by omega), uZ_ne _ (by omega)]
  · rw [g7 i (by omega), uZ_ne _ (by omega)]
  · by_cases e : i = g
    · rw [e, g7 g (by omega), uZ_same]; omega
    · exact g8 i (by omega) i1
set_option maxRecDepth 100000 in
theorem c_goodP (ht : Tt t) {m b0 : Int} (hl : lvM w m) (b00 : 0 ≤ b0) (tb : b0 < wBx w m) (hW : WI w) (hpl : pl = 3 * (wGr w m - 1) + wCh w m) (T : TS w A h hh t pl c gl cl) (self : Nat → Int32 → AH → Option (Int32 × AH)) {n : Nat} {g x y z p : Int} (g0 : 0 ≤ g) (hg : g + 1 + n = wGr w m) (hv : gl g = wG w (12 * m + b0) g - p) (e0 : cl 0 = x - p) (e1 : cl 1 = y) (e2 : cl 2 = z) (u1 : c (3 * g) = p) (p0 : 0 ≤ p) (p1 : p + 1 ≤ wG w (12 * m + b0) g) (p2 : p + 1 ≤ x) (hG : GL gl (g + 1) (rwL w (12 * m + b0) (g + 1) n)) (yq : ∃ q, 0 ≤ q ∧ q ≤ y ∧ 0 ≤ wG w (12 * m + b0) g - p - q ∧ wG w (12 * m + b0) g - p - q ≤ z) (hs : x + y + z = wG w (12 * m + b0) g + sumL (rwL w (12 * m + b0) (g + 1) n)) (hr : wG w (12 * m + b0) g ≤ 99) (hz : wCh w m = 2 → z = 0) (hn : 3 * g + 2 < pl) (x1 : x ≤ 300) (y1 : y ≤ 300) (z1 : z ≤ 300) (hc : ∀ p : Int, pl ≤ p → p < 12 → c p = 0) (h9 : ∀ i : Int, 0 ≤ i → i < g → gl i = 0) : ∃ h' : AH, b_X8_advance_7 self t (iv (3 * g)) hh = some (iv 1, h') ∧ ∃ (c' gl' cl' : Int → Int), TS w A h h' t pl c' gl' cl' ∧ Fr t hh h' ∧ HT c' (3 * g) (ahd (wG w (12 * m + b0) g) (rwL w (12 * m + b0) (g + 1) n) x y z (p + 1) (max 0 (wG w (12 * m + b0) g - (p + 1) - z))) ∧ (∀ i : Int, i < 3 * g → c' i = c i) ∧ (∀ p : Int, pl ≤ p → p < 12 → c' p = 0) ∧ (∀ i : Int, 0 ≤ i → i < wGr w m → gl' i = 0) ∧ cl' 0 = 0 ∧ cl' 1 = 0 ∧ cl' 2 = 0 := by
  obtain ⟨⟨gg1, gg2⟩, ⟨gc1, gc2⟩, -⟩ := hW.mat hl
  obtain ⟨q, q0, q1, q2, q3⟩ := yq
  obtain ⟨v, hvv⟩ : ∃ v, max 0 (wG w (12 * m + b0) g - (p + 1) - z) = v := ⟨_, rfl⟩
  have vb : 0 ≤ v ∧ v ≤ y ∧ 0 ≤ wG w (12 * m + b0) g - (p + 1) - v ∧ wG w (12 * m + b0) g - (p + 1) - v ≤ z ∧ v ≤ 300 := (by omega)
  obtain ⟨vb0, vb1, vb2, vb3, vb4⟩ := vb
  obtain ⟨h4, d1, d2, d3⟩ := c_advYes ht T self (p := 3 * g) (g := g) (k := 0) (by omega) (by omega) (by omega) (by omega) (by omega) (by omega) (by omega) (by omega)
  rw [hv, e0, u1] at d2
  obtain ⟨N3, hN3⟩ : ∃ N3, FU = N3 + 1 := ⟨4294967295, rfl⟩
  have hN3' : 20 < N3 := by have := FU_gt (n := 30) (by omega); omega
  have y0 : uZ gl g (wG w (12 * m + b0) g - p - 1) g = wG w (12 * m + b0) g - (p + 1) := by rw [uZ_same]; omega
  have y2 : uZ cl 0 (x - p - 1) 2 = z := by rw [uZ_ne _ (by omega), e2]
  have y3 : uZ cl 0 (x - p - 1) 1 = y := by rw [uZ_ne _ (by omega), e1]
  have y4 : uZ cl 0 (x - p - 1) 0 = x - (p + 1) := by rw [uZ_same]; omega
  obtain ⟨h5, i1, i2, i3⟩ := c_fillStep ht d2 (lp b_X8_fillFrom_2 (fun _ _ _ => none) N3) (p := 3 * g + 1) (g := g) (k := 1) (by omega) (by omega) (by omega) (by omega) (by omega) (by rw [y0]; omega) (by rw [y3]; omega) (by rw [y2]; omega)
  rw [fvZ1, y0, y2, hvv, y3] at i2
  obtain ⟨h', r1, c', gl', cl', r2, r3, r4, r5, r6, r7, r8, r9, r10, r11, r12⟩ := c_fill2 ht hl b00 tb hW hpl i2 (n := n) (g := g) (x := x - (p + 1)) (y := y - v) (z := z) (v := wG w (12 * m + b0) g - (p + 1) - v) g0 hg hn (uZ_same _ _ _) vb2 (by omega) (GL_congr _ _ (fun i i0 i1 => by rw [uZ_ne _ (by omega), uZ_ne _ (by omega)]) hG) (by rw [uZ_ne _ (by omega), y4]) (uZ_same _ _ _) (by rw [uZ_ne _ (by omega), y2]) (by omega) (by omega) (by omega) (by omega) (fun e => by have := hz e; omega) (by omega) (by omega) z1 (fun p' p0 p1 => by rw [uZ_ne _ (by omega), uZ_ne _ (by omega), hc p' p0 p1]) hN3'
  refine ⟨h', d1 h' (by rw [hN3, lp_succ, i1, show 3 * g + 1 + 1 = 3 * g + 2 by omega]; exact r1), c', gl', cl', r2, (d3.tr i3).tr r3, ?_, fun i hi => ?_, r7, fun i i0 i1 => ?_, r10, r11, r12⟩
  · rw [hvv]
    refine ⟨?_, ?_, r4, r5⟩
    · rw [r6 _ (by omega), uZ_ne _ (by omega), uZ_same]
    · rw [r6 _ (by omega), uZ_same]
  · rw [r6 i (by omega), uZ_ne _ (by omega), uZ_ne _ (by omega)]
  · by_cases e : i < g
    · rw [r8 i e, uZ_ne _ (by omega), uZ_ne _ (by omega)]; exact h9 i i0 e
    · exact r9 i (by omega) i1
/-- from a group on all is taken back -/
def Bck (w : WD) (A : Int → Nat) (h hh : AH) (t : Nat) (pl : Int) (c : Int → Int) (g : Int) (rs : List Int) (x y z : Int) (h' : AH) : Prop := ∃ (gl' cl' : Int → Int), TS w A h h' t pl c gl' cl' ∧ Fr t hh h' ∧ GL gl' g rs ∧ cl' 0 = x ∧ cl' 1 = y ∧ cl' 2 = z ∧ ∀ i : Int, 0 ≤ i → i < g → gl' i = 0
set_option maxRecDepth 100000 in
theorem c_adv7 (ht : Tt t) {m b0 : Int} (hl : lvM w m) (b00 : 0 ≤ b0) (tb : b0 < wBx w m) (hW : WI w) (hpl : pl = 3 * (wGr w m - 1) + wCh w m) (T0 : TS w A h hh t pl c gl cl) (hz : ∀ p : Int, pl ≤ p → p < 12 → c p = 0) (hgl : ∀ g : Int, 0 ≤ g → g < wGr w m → gl g = 0) (hc0 : cl 0 = 0) (hc1 : cl 1 = 0) (hc2 : cl 2 = 0) : ∀ (n : Nat) (g x y z : Int) (T : List TR), 0 ≤ g → g + n = wGr w m → TOk (rwL w (12 * m + b0) g n) x y z T → HT c (3 * g) T → (wCh w m = 2 → z = 0) → x ≤ 300 → y ≤ 300 → z ≤ 300 → ∀ N : Nat, 12 < N →
    match nxt1 (rwL w (12 * m + b0) g n) x y z T with
    | some T' => ∃ h' : AH, lp b_X8_advance_7 (fun _ _ _ => none) N t (iv (pl - 1)) hh = some (iv 1, h') ∧ ∃ (c' gl' cl' : Int → Int), TS w A h h' t pl c' gl' cl' ∧ Fr t hh h' ∧ HT c' (3 * g) T' ∧ (∀ i : Int, i < 3 * g → c' i = c i) ∧ (∀ p : Int, pl ≤ p → p < 12 → c' p = 0) ∧ (∀ i : Int, 0 ≤ i → i < wGr w m → gl' i = 0) ∧ cl' 0 = 0 ∧ cl' 1 = 0 ∧ cl' 2 = 0
    | none => ∃ h' : AH, lp b_X8_advance_7 (fun _ _ _ => none) N t (iv (pl - 1)) hh = lp b_X8_advance_7 (fun _ _ _ => none) (N - (min pl (3 * wGr w m) - min pl (3 * g)).toNat) t (iv (min (pl - 1) (3 * g - 1))) h' ∧ Bck w A h hh t pl c g (rwL w (12 * m + b0) g n) x y z h' := by
  obtain ⟨⟨gg1, gg2⟩, ⟨gc1, gc2⟩, -⟩ := hW.mat hl
  intro n
  induction n with
  | zero =>
    intro g x y z T g0 hg hT hH hzz x1 y1 z1 N hN
    obtain ⟨-, e1, e2, e3⟩ := hT
    show ∃ h' : AH, _
    refine ⟨hh, ?_, gl, cl, T0, Fr.rf t hh, trivial, by omega, by omega, by omega, fun i i0 i1 => hgl i i0 (by omega)⟩
    rw [show (min pl (3 * wGr w m) - min pl (3 * g)).toNat = 0 by omega, show min (pl - 1) (3 * g - 1) = pl - 1 by omega, Nat.sub_zero]
  | succ n ih =>
    intro g x y z T g0 hg hT hH hzz x1 y1 z1' N hN
    have hT0 := hT
    cases T with
    | nil => exact hT.elim
    | cons e T =>
      obtain ⟨p, q, s⟩ := e
      obtain ⟨t1, t2, t3, t4, t5⟩ := hT
      obtain ⟨u1, u2, u3, u4⟩ := hH
      obtain ⟨k1, k2, k3, k4, k5⟩ := TOk_rng _ _ _ _ _ t5
      have rgn := oB_g (hW.box hl b00 tb) (g := g) g0 (by omega) (by omega)
      have hln := sumL_nn _ (rwL_nn hW hl b00 tb n (g + 1) (by omega) (by omega))
      have hi := ih (g + 1) (x - p) (y - q) (z - s) T (by omega) (by omega) t5 (by rw [show 3 * (g + 1) = 3 * g + 3 by omega]; exact u4) (fun e => by have := hzz e; omega) (by omega) (by omega) (by omega) N hN
      show (match nxt1 (wG w (12 * m + b0) g :: rwL w (12 * m + b0) (g + 1) n) x y z ((p, q, s) :: T) with | some t' => _ | none => _)
      rw [nxt1_cons, show wG w (12 * m + b0) g - p - q = s by omega]
      cases hx1 : nxt1 (rwL w (12 * m + b0) (g + 1) n) (x - p) (y - q) (z - s) T with
      | some T' =>
        rw [hx1] at hi
        obtain ⟨h', f1, c', gl', cl', f2, f3, f4, f5, f6, f7, f8⟩ := hi
        refine ⟨h', f1, c', gl', cl', f2, f3, ⟨?_, ?_, ?_, ?_⟩, fun i hi => f5 i (by omega), f6, f7, f8⟩
        · rw [f5 _ (by omega), u1]
        · rw [f5 _ (by omega), u2]
        · rw [f5 _ (by omega), u3]
        · rw [show 3 * g + 3 = 3 * (g + 1) by omega]; exact f4
      | none =>
        rw [hx1] at hi
        obtain ⟨h1, f1, gl1, cl1, f2, f3, f4, f5, f6, f7, f8⟩ := hi
        -- the place of choice 2 taken back
        have stepA : ∃ h2 : AH, lp b_X8_advance_7 (fun _ _ _ => none) N t (iv (pl - 1)) hh = lp b_X8_advance_7 (fun _ _ _ => none) (N - (min pl (3 * wGr w m) - (3 * g + 2)).toNat) t (iv (3 * g + 1)) h2 ∧ ∃ gl2 cl2 : Int → Int, TS w A h h2 t pl c gl2 cl2 ∧ Fr t hh h2 ∧ GL gl2 (g + 1) (rwL w (12 * m + b0) (g + 1) n) ∧ gl2 g = s ∧ cl2 0 = x - p ∧ cl2 1 = y - q ∧ cl2 2 = z ∧ ∀ i : Int, 0 ≤ i → i < g → gl2 i = 0 := by
          by_cases last : pl ≤ 3 * g + 2
          · refine ⟨h1, ?_, gl1, cl1, f2, f3, f4, ?_, f5, f6, ?_, fun i i0 i1 => f8 i i0 (by omega)⟩
            · rw [f1, show min (pl - 1) (3 * (g + 1) - 1) = 3 * g + 1 by omega, show N - (min pl (3 * wGr w m) - min pl (3 * (g + 1))).toNat = N - (min pl (3 * wGr w m) - (3 * g + 2)).toNat by omega]
            · have := hz (3 * g + 2) (by omega) (by omega)
              rw [f8 g g0 (by omega)]; omega
            · have := hz (3 * g + 2) (by omega) (by omega)
              omega
          · have hgl1 := f8 g g0 (by omega)
            obtain ⟨N', hN'⟩ : ∃ N', N - (min pl (3 * wGr w m) - min pl (3 * (g + 1))).toNat = N' + 1 := ⟨N - (min pl (3 * wGr w m) - min pl (3 * (g + 1))).toNat - 1, by omega⟩
            obtain ⟨h2, g1, g2, g3⟩ := c_advNo ht f2 (lp b_X8_advance_7 (fun _ _ _ => none) N') (p := 3 * g + 2) (g := g) (k := 2) (by omega) (by omega) (by omega) (by omega) (by omega) (by omega) (by omega) (by omega)
            refine ⟨h2, ?_, _, _, g2, f3.tr g3, GL_congr _ _ (fun i i0 i1 => uZ_ne _ (by omega)) f4, ?_, ?_, ?_, ?_, fun i i0 i1 => ?_⟩
            · rw [f1, hN', show min (pl - 1) (3 * (g + 1) - 1) = 3 * g + 2 by omega, lp_succ, g1, show 3 * g + 2 - 1 = 3 * g + 1 by omega, show N - (min pl (3 * wGr w m) - (3 * g + 2)).toNat = N' by omega]
            · rw [uZ_same]; omega
            · rw [uZ_ne _ (by omega), f5]
            · rw [uZ_ne _ (by omega), f6]
            · rw [uZ_same]; omega
            · rw [uZ_ne _ (by omega)]; exact f8 i i0 (by omega)
        obtain ⟨h2, a1, gl2, cl2, a2, a3, a4, a5, a6, a7, a8, a9⟩ := stepA
        obtain ⟨N2, hN2⟩ : ∃ N', N - (min pl (3 * wGr w m) - (3 * g + 2)).toNat = N' + 1 + 1 := ⟨N - (min pl (3 * wGr w m) - (3 * g + 2)).toNat - 2, by omega⟩
        rw [hN2] at a1
        by_cases z1 : q + 1 ≤ min (wG w (12 * m + b0) g - p) y
        · show (match (if _ then _ else _ : Option (List TR)) with | some t' => _ | none => _)
          rw [if_pos z1]
          have n0 : n = 0 → (x - p) + (y - q) + (z - s) = 0 := fun e => by subst e; exact k4
          obtain ⟨h3, d1, d2, d3⟩ := c_advYes ht a2 (lp b_X8_advance_7 (fun _ _ _ => none) (N2 + 1)) (p := 3 * g + 1) (g := g) (k := 1) (by omega) (by omega) (by omega) (by omega) (by omega) (by omega) (by omega) (by omega)
          obtain ⟨h', r1, c', gl', cl', r2, r3, r4, r5, r6, r7, r8, r9, r10, r11, r12⟩ := c_fill2 ht hl b00 tb hW hpl d2 (n := n) (g := g) (x := x - p) (y := y - (q + 1)) (z := z) (v := s - 1) g0 (by omega) (by omega) (by rw [uZ_same]; omega) (by omega) (by omega) (GL_congr _ _ (fun i i0 i1 => uZ_ne _ (by omega)) a4) (by rw [uZ_ne _ (by omega), a6]) (by rw [uZ_same]; omega) (by rw [uZ_ne _ (by omega), a8]) (by omega) (by omega) (by omega) (by omega) (fun e => by have := hzz e; omega) (by omega) (by omega) (by omega) (fun p' p0 p1 => by rw [uZ_ne _ (by omega), hz p' p0 p1]) (N := FU) (FU_gt (by omega))
          refine ⟨h', ?_, c', gl', cl', r2, (a3.tr d3).tr r3, ⟨?_, ?_, ?_, ?_⟩, fun i hi => ?_, r7, fun i i0 i1 => ?_, r10, r11, r12⟩
          · rw [a1, lp_succ]; exact d1 h' (by rw [show 3 * g + 1 + 1 = 3 * g + 2 by omega]; exact r1)
          · rw [r6 _ (by omega), uZ_ne _ (by omega), u1]
          · rw [r6 _ (by omega), uZ_same, u2]
          · rw [r4]; omega
          · rw [show z - (wG w (12 * m + b0) g - p - (q + 1)) = z - (s - 1) by omega]; exact r5
          · rw [r6 i (by omega), uZ_ne _ (by omega)]
          · by_cases e : i < g
            · rw [r8 i e, uZ_ne _ (by omega)]; exact a9 i i0 e
            · exact r9 i (by omega) i1
        · show (match (if _ then _ else if _ then _ else _ : Option (List TR)) with | some t' => _ | none => _)
          rw [if_neg z1]
          obtain ⟨h3, d1, d2, d3⟩ := c_advNo ht a2 (lp b_X8_advance_7 (fun _ _ _ => none) (N2 + 1)) (p := 3 * g + 1) (g := g) (k := 1) (by omega) (by omega) (by omega) (by omega) (by omega) (by omega) (by omega) (by omega)
          rw [show 3 * g + 1 - 1 = 3 * g by omega] at d1
          have v0 : uZ gl2 g (gl2 g + c (3 * g + 1)) g = wG w (12 * m + b0) g - p := by rw [uZ_same]; omega
          have v1 : uZ cl2 1 (cl2 1 + c (3 * g + 1)) 0 = x - p := by rw [uZ_ne _ (by omega), a6]
          have v2 : uZ cl2 1 (cl2 1 + c (3 * g + 1)) 1 = y := by rw [uZ_same]; omega
          have v3 : uZ cl2 1 (cl2 1 + c (3 * g + 1)) 2 = z := by rw [uZ_ne _ (by omega), a8]
          by_cases z2 : p + 1 ≤ min (wG w (12 * m + b0) g) x
          · rw [if_pos z2]
            have n0 : n = 0 → (x - p) + (y - q) + (z - s) = 0 := fun e => by subst e; exact k4
            have hgoal := c_goodP ht hl b00 tb hW hpl d2 (lp b_X8_advance_7 (fun _ _ _ => none) N2) (n := n) (g := g) (x := x) (y := y) (z := z) (p := p) g0 (by omega) v0 v1 v2 v3 u1 t1 (by omega) (by omega) (GL_congr _ _ (fun i i0 i1 => by rw [uZ_ne _ (by omega)]) a4) ⟨q, t2, by omega, by omega, by omega⟩ (by omega) rgn.2 hzz (by omega) x1 y1 z1' hz (fun i i0 i1 => by rw [uZ_ne _ (by omega)]; exact a9 i i0 i1)
            obtain ⟨h', r1, c', gl', cl', r2, r3, r4, r5, r6, r7⟩ := hgoal
            exact ⟨h', by rw [a1, lp_succ, d1, lp_succ]; exact r1, c', gl', cl', r2, (a3.tr d3).tr r3, r4, r5, r6, r7⟩
          · rw [if_neg z2]
            obtain ⟨h4, e1, e2, e3⟩ := c_advNo ht d2 (lp b_X8_advance_7 (fun _ _ _ => none) N2) (p := 3 * g) (g := g) (k := 0) (by omega) (by omega) (by omega) (by omega) (by omega) (by omega) (by omega) (by omega)
            refine ⟨h4, ?_, _, _, e2, (a3.tr d3).tr e3, ⟨?_, GL_congr _ _ (fun i i0 i1 => by rw [uZ_ne _ (by omega), uZ_ne _ (by omega)]) a4⟩, ?_, ?_, ?_, fun i i0 i1 => ?_⟩
            · rw [a1, lp_succ, d1, lp_succ, e1, show min (pl - 1) (3 * g - 1) = 3 * g - 1 by omega, show N - (min pl (3 * wGr w m) - min pl (3 * g)).toNat = N2 by omega]
            · rw [uZ_same, v0]; omega
            · rw [uZ_same, v1]; omega
            · rw [uZ_ne _ (by omega), v2]
            · rw [uZ_ne _ (by omega), v3]
            · rw [uZ_ne _ (by omega), uZ_ne _ (by omega)]; exact a9 i i0 i1
end Q
