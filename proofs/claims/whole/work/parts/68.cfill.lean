/-- groups from one on have these sums left -/
def GL (gl : Int → Int) : Int → List Int → Prop
  | _, [] => True
  | g, r :: rs => gl g = r ∧ GL gl (g + 1) rs
theorem GL_congr {gl gl' : Int → Int} : ∀ (rs : List Int) (g : Int), (∀ i : Int, g ≤ i → i < g + rs.length → gl' i = gl i) → GL gl g rs → GL gl' g rs := by
  intro rs
  induction rs with
  | nil => intro g _ _; exact trivial
  | cons r rs ih =>
    intro g h H
    rw [List.length_cons] at h
    exact ⟨by rw [h g (by omega) (by omega), H.1], ih (g + 1) (fun i q1 q2 => h i (by omega) (by omega)) H.2⟩
section Q
variable {w : WD} {A : Int → Nat} {h hh : AH} {t : Nat} {pl : Int} {c gl cl : Int → Int}
set_option maxRecDepth 100000 in
theorem c_fillEnd (ht : Tt t) (T : TS w A h hh t pl c gl cl) (k2 : Nat → Int32 → AH → Option AH) {p : Int} (p0 : 0 ≤ p) (p1 : p ≤ 12) (h1 : pl ≤ p) (h2 : 0 ≤ pl) : b_X8_fillFrom_2 k2 t (iv p) hh = some hh := by
  obtain ⟨q1, -⟩ := ht.ok T.2.1.F
  have pl0 := T.2.2.1
  simp -implicitDefEqProofs (disch := omega) only [F_b_X8_fillFrom_2, q1, pl0, iv_add, iv_sub, iv_mul, iv_neg, iv_zero, iv_ltT, iv_ltF, iv_leT, iv_leF, iv_eqT, iv_eqF, iv_div, rm_iv, tn_iv, ib_iv, some_cb, some_cbv, ↓nm_eq, ↓reduceIte, true_and, and_true, Bool.true_eq_false, Bool.false_eq_true, not_false_eq_true, not_true_eq_false]
theorem fvZ0 (gl cl : Int → Int) (g : Int) : fvZ gl cl g 0 = max 0 (gl g - cl 1 - cl 2) := by
  unfold fvZ; rw [if_pos rfl]; congr 1; omega
theorem fvZ1 (gl cl : Int → Int) (g : Int) : fvZ gl cl g 1 = max 0 (gl g - cl 2) := by
  unfold fvZ; rw [if_neg (by omega), if_pos rfl]
theorem fvZ2 (gl cl : Int → Int) (g : Int) : fvZ gl cl g 2 = max 0 (gl g) := by
  unfold fvZ; rw [if_neg (by omega), if_neg (by omega), Int.sub_zero]
/-- the result of a filling from a group on -/
def Fil (w : WD) (A : Int → Nat) (h hh : AH) (t : Nat) (pl : Int) (c gl : Int → Int) (g : Int) (T : List TR) (G : Int) (h' : AH) : Prop := ∃ (c' gl' cl' : Int → Int), TS w A h h' t pl c' gl' cl' ∧ Fr t hh h' ∧ HT c' (3 * g) T ∧ (∀ i : Int, i < 3 * g → c' i = c i) ∧ (∀ p : Int, pl ≤ p → p < 12 → c' p = 0) ∧ (∀ i : Int, i < g → gl' i = gl i) ∧ (∀ i : Int, g ≤ i → i < G → gl' i = 0) ∧ cl' 0 = 0 ∧ cl' 1 = 0 ∧ cl' 2 = 0
set_option maxRecDepth 100000 in
theorem c_fillRows (ht : Tt t) {m b0 : Int} (hl : lvM w m) (b00 : 0 ≤ b0) (tb : b0 < wBx w m) (hW : WI w) (hpl : pl = 3 * (wGr w m - 1) + wCh w m) : ∀ (n N : Nat), 3 * n < N → ∀ (hh : AH) (c gl cl : Int → Int) (g x y z : Int), TS w A h hh t pl c gl cl → 0 ≤ g → g + n = wGr w m → GL gl g (rwL w (12 * m + b0) g n) → cl 0 = x → cl 1 = y → cl 2 = z → 0 ≤ x → 0 ≤ y → 0 ≤ z → x + y + z = sumL (rwL w (12 * m + b0) g n) → (wCh w m = 2 → z = 0) → x ≤ 500 → y ≤ 500 → z ≤ 500 → (∀ p : Int, pl ≤ p → p < 12 → c p = 0) → ∃ h' : AH, lp b_X8_fillFrom_2 (fun _ _ _ => none) N t (iv (3 * g)) hh = some h' ∧ Fil w A h hh t pl c gl g (fst1 (rwL w (12 * m + b0) g n) x y z) (wGr w m) h' := by
  obtain ⟨⟨gg1, gg2⟩, ⟨gc1, gc2⟩, -⟩ := hW.mat hl
  intro n
  induction n with
  | zero =>
    intro N hN; obtain ⟨N, rfl⟩ : ∃ N', N = N' + 1 := ⟨N - 1, (by omega)⟩
    intro hh c gl cl g x y z T g0 hg hG e0 e1 e2 x0 y0 z0 hs hz x1 y1 z1 hc
    have hs : x + y + z = 0 := hs
    exact ⟨hh, by rw [lp_succ, c_fillEnd ht T _ (by omega) (by omega) (by omega) (by omega)], c, gl, cl, T, Fr.rf t hh, trivial, fun _ _ => rfl, hc, fun _ _ => rfl, fun i i0 i1 => by omega, by omega, by omega, by omega⟩
  | succ n ih =>
    intro N hN hh c gl cl g x y z T g0 hg hG e0 e1 e2 x0 y0 z0 hs hz x1 y1 z1 hc
    obtain ⟨N, rfl⟩ : ∃ N', N = N' + 1 + 1 + 1 := ⟨N - 3, by omega⟩
    obtain ⟨r0, r1⟩ := oB_g (hW.box hl b00 tb) (g := g) g0 (by omega) (by omega)
    have hs : x + y + z = wG w (12 * m + b0) g + sumL (rwL w (12 * m + b0) (g + 1) n) := hs
    have hln := sumL_nn _ (rwL_nn hW hl b00 tb n (g + 1) (by omega) (by omega))
    obtain ⟨hG0, hG1⟩ := hG
    obtain ⟨v0, hv0⟩ : ∃ v, max 0 (wG w (12 * m + b0) g - y - z) = v := ⟨_, rfl⟩
    obtain ⟨v1, hv1⟩ : ∃ v, max 0 (wG w (12 * m + b0) g - v0 - z) = v := ⟨_, rfl⟩
    -- choice 0
    obtain ⟨h1, f1, T1, F1⟩ := c_fillStep ht T (lp b_X8_fillFrom_2 (fun _ _ _ => none) (N + 1 + 1)) (p := 3 * g) (g := g) (k := 0) (by omega) (by omega) (by omega) (by omega) (by omega) (by omega) (by omega) (by omega)
    have w0 : fvZ gl cl g 0 = v0 := by rw [fvZ0, hG0, e1, e2, hv0]
    rw [w0, hG0, e0] at T1
    -- choice 1
    have a0 : uZ gl g (wG w (12 * m + b0) g - v0) g = wG w (12 * m + b0) g - v0 := uZ_same _ _ _
    have a1 : uZ cl 0 (x - v0) 1 = y := by rw [uZ_ne _ (by omega), e1]
    have a2 : uZ cl 0 (x - v0) 2 = z := by rw [uZ_ne _ (by omega), e2]
    have a3 : uZ cl 0 (x - v0) 0 = x - v0 := uZ_same _ _ _
    obtain ⟨h2, f2, T2, F2⟩ := c_fillStep ht T1 (lp b_X8_fillFrom_2 (fun _ _ _ => none) (N + 1)) (p := 3 * g + 1) (g := g) (k := 1) (by omega) (by omega) (by omega) (by omega) (by omega) (by omega) (by omega) (by omega)
    have w1 : fvZ (uZ gl g (wG w (12 * m + b0) g - v0)) (uZ cl 0 (x - v0)) g 1 = v1 := by rw [fvZ1, a0, a2, hv1]
    rw [w1, a0, a1] at T2
    have b0' : uZ (uZ gl g (wG w (12 * m + b0) g - v0)) g (wG w (12 * m + b0) g - v0 - v1) g = wG w (12 * m + b0) g - v0 - v1 := uZ_same _ _ _
    have b1 : uZ (uZ cl 0 (x - v0)) 1 (y - v1) 1 = y - v1 := uZ_same _ _ _
    have b2 : uZ (uZ cl 0 (x - v0)) 1 (y - v1) 2 = z := by rw [uZ_ne _ (by omega), a2]
    have b3 : uZ (uZ cl 0 (x - v0)) 1 (y - v1) 0 = x - v0 := by rw [uZ_ne _ (by omega), a3]
    by_cases last : wCh w m = 2 ∧ n = 0
    · -- no choice 2, and no group behind
      obtain ⟨lc, ln⟩ := last
      subst ln
      have hs : x + y + z = wG w (12 * m + b0) g + 0 := hs
      have hz0 := hz lc
      have f3 := c_fillEnd ht T2 (lp b_X8_fillFrom_2 (fun _ _ _ => none) N) (p := 3 * g + 1 + 1) (by omega) (by omega) (by omega) (by omega)
      refine ⟨h2, by rw [lp_succ, f1, lp_succ, f2, lp_succ, f3], _, _, _, T2, F1.tr F2, ?_, fun i hi => ?_, fun p p0 p1 => ?_, fun i hi => ?_, fun i i0 i1 => ?_, ?_, ?_, ?_⟩
      · show HT _ _ (fst1 [wG w (12 * m + b0) g] x y z)
        rw [fst1_cons, hv0, hv1]
        refine ⟨?_, ?_, ?_, trivial⟩
        · rw [uZ_ne _ (by omega), uZ_same]
        · rw [uZ_same]
        · rw [uZ_ne _ (by omega), uZ_ne _ (by omega), hc _ (by omega) (by omega)]; omega
      · rw [uZ_ne _ (by omega), uZ_ne _ (by omega)]
      · rw [uZ_ne _ (by omega), uZ_ne _ (by omega), hc p p0 p1]
      · rw [uZ_ne _ (by omega), uZ_ne _ (by omega)]
      · rw [show i = g by omega, b0']; omega
      · rw [b3]; omega
      · rw [b1]; omega
      · rw [b2]; exact hz0
    · -- choice 2
      obtain ⟨h3, f3, T3, F3⟩ := c_fillStep ht T2 (lp b_X8_fillFrom_2 (fun _ _ _ => none) N) (p := 3 * g + 1 + 1) (g := g) (k := 2) (by omega) (by omega) (by omega) (by omega) (by omega) (by omega) (by omega) (by omega)
      have w2 : fvZ (uZ (uZ gl g (wG w (12 * m + b0) g - v0)) g (wG w (12 * m + b0) g - v0 - v1)) (uZ (uZ cl 0 (x - v0)) 1 (y - v1)) g 2 = wG w (12 * m + b0) g - v0 - v1 := by rw [fvZ2, b0']; omega
      rw [w2, b0', b2] at T3
      obtain ⟨h', g1, c', gl', cl', g2, g3, g4, g5, g6, g7, g8, g9, g10, g11⟩ := ih N (by omega) h3 _ _ _ (g + 1) (x - v0) (y - v1) (z - (wG w (12 * m + b0) g - v0 - v1)) T3 (by omega) (by omega) (GL_congr _ _ (fun i i0 i1 => by rw [uZ_ne _ (by omega), uZ_ne _ (by omega), uZ_ne _ (by omega)]) hG1) (by rw [uZ_ne _ (by omega), b3]) (by rw [uZ_ne _ (by omega), b1]) (uZ_same _ _ _) (by omega) (by omega) (by omega) (by omega) (fun e => by have := hz e; omega) (by omega) (by omega) (by omega) (fun p p0 p1 => by rw [uZ_ne _ (by omega), uZ_ne _ (by omega), uZ_ne _ (by omega), hc p p0 p1])
      refine ⟨h', by rw [lp_succ, f1, lp_succ, f2, lp_succ, f3, ← g1, show 3 * g + 1 + 1 + 1 = 3 * (g + 1) by omega], c', gl', cl', g2, ((F1.tr F2).tr F3).tr g3, ?_, fun i hi => ?_, g6, fun i hi => ?_, fun i i0 i1 => ?_, g9, g10, g11⟩
      · show HT c' (3 * g) (fst1 (wG w (12 * m + b0) g :: rwL w (12 * m + b0) (g + 1) n) x y z)
        rw [fst1_cons, hv0, hv1]
        refine ⟨?_, ?_, ?_, ?_⟩
        · rw [g5 _ (by omega), uZ_ne _ (by omega), uZ_ne _ (by omega), uZ_same]
        · rw [g5 _ (by omega), uZ_ne _ (by omega), uZ_same]
        · rw [g5 _ (by omega), show 3 * g + 2 = 3 * g + 1 + 1 by omega, uZ_same]
        · rw [show 3 * g + 3 = 3 * (g + 1) by omega]; exact g4
      · rw [g5 i (by omega), uZ_ne _ (by omega), uZ_ne _ (by omega), uZ_ne _ (by omega)]
      · rw [g7 i (by omega), uZ_ne _ (by omega), uZ_ne _ (by omega), uZ_ne _ (by omega)]
      · by_cases e : i = g
        · rw [e, g7 g (by omega), uZ_same]; omega
        · exact g8 i (by omega) i1
end Q
