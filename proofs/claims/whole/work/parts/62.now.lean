/-! the reference's table in mind -/
def HT (c : Int → Int) : Int → List TR → Prop
  | _, [] => True
  | z, (p, q, s) :: t => c z = p ∧ c (z + 1) = q ∧ c (z + 2) = s ∧ HT c (z + 3) t
theorem HT_congr {c c' : Int → Int} : ∀ (t : List TR) (z : Int), (∀ i : Int, z ≤ i → i < z + 3 * t.length → c' i = c i) → HT c z t → HT c' z t := by
  intro t
  induction t with
  | nil => intro z _ _; exact trivial
  | cons x t ih =>
    intro z h H
    obtain ⟨p, q, s⟩ := x
    obtain ⟨h1, h2, h3, h4⟩ := H
    rw [List.length_cons] at h
    exact ⟨by rw [h z (by omega) (by omega), h1], by rw [h (z + 1) (by omega) (by omega), h2], by rw [h (z + 2) (by omega) (by omega), h3], ih (z + 3) (fun i q1 q2 => h i (by omega) (by omega)) h4⟩
def ly (c : Int → Int) (z p q s : Int) : Int → Int := uZ (uZ (uZ c z p) (z + 1) q) (z + 2) s
theorem ly_0 (c : Int → Int) (z p q s : Int) : ly c z p q s z = p := by unfold ly; rw [uZ_ne _ (by omega), uZ_ne _ (by omega), uZ_same]
theorem ly_1 (c : Int → Int) (z p q s : Int) : ly c z p q s (z + 1) = q := by unfold ly; rw [uZ_ne _ (by omega), uZ_same]
theorem ly_2 (c : Int → Int) (z p q s : Int) : ly c z p q s (z + 2) = s := by unfold ly; rw [uZ_same]
theorem ly_o (c : Int → Int) {z p q s i : Int} (h : i < z ∨ z + 2 < i) : ly c z p q s i = c i := by unfold ly; rw [uZ_ne _ (by omega), uZ_ne _ (by omega), uZ_ne _ (by omega)]
def LY (h : AH) (z p q s : Int) : AH := sI (sI (sI h 116 z.toNat (iv p)) 116 (z + 1).toNat (iv q)) 116 (z + 2).toNat (iv s)
theorem LY_o (h : AH) (z p q s : Int) {a : Nat} (i : Nat) (ha : a ≠ 116) : gI (LY h z p q s) a i = gI h a i := by
  unfold LY; rw [gI_sIo _ _ (Or.inl ha), gI_sIo _ _ (Or.inl ha), gI_sIo _ _ (Or.inl ha)]
def N16 (h : AH) (c : Int → Int) : Prop := ∀ z : Int, 0 ≤ z → gI h 116 z.toNat = iv (c z)
theorem N16.up {h : AH} {c : Int → Int} (H : N16 h c) {y v : Int} (hy : 0 ≤ y) : N16 (sI h 116 y.toNat (iv v)) (uZ c y v) := by
  intro z hz
  by_cases e : z = y
  · subst e; rw [gI_sIs, uZ_same]
  · rw [gI_sIo _ _ (Or.inr (by omega)), uZ_ne _ e, H z hz]
theorem N16_self (h : AH) : N16 h (rd h 116) := fun z _ => (iv_self _).symm
def NS (w : WD) (A : Int → Nat) (h hh : AH) (c : Int → Int) : Prop := Sc w A h hh ∧ Sim w A hh ∧ N16 hh c
section Q
variable {w : WD} {A : Int → Nat} {h hh : AH} {c : Int → Int}
theorem NS.start (hS : Sim w A h) : NS w A h h (rd h 116) := ⟨Sc.rf hS, hS, N16_self h⟩
theorem NS.ly (N : NS w A h hh c) {z : Int} (hz : 0 ≤ z) (p q s : Int) : NS w A h (LY hh z p q s) (ly c z p q s) := by
  obtain ⟨n1, n2, n3⟩ := N
  have k : ∀ i : Nat, ¬ kpI 116 i := fun i => by unfold kpI; omega
  have s1 : Sc w A hh (LY hh z p q s) := (((Sc.rf n2).sI (k _)).sI (k _)).sI (k _)
  exact ⟨n1.tr s1, n2.sc s1, ((n3.up hz).up (by omega)).up (by omega)⟩
set_option maxRecDepth 100000 in
theorem q_lays (hS : QS w hh) {b g r p q : Int} (b0 : 0 ≤ b) (b1 : b ≤ 11) (g0 : 0 ≤ g) (g1 : g ≤ 3) : f_X12_lays 91 (iv b) (iv g) (iv r) (iv p) (iv q) hh = some (LY hh (12 * b + 3 * g) p q (r - p - q)) := by
  have hF := hS.F
  simp -implicitDefEqProofs (disch := omega) only [F_f_X12_lays, K91 hF, R91_29 hF, K116 hF, N116 hF, gK_sI, gN_sI, gR_sI, iv_add, iv_sub, iv_mul, iv_neg, iv_zero, iv_ltT, iv_ltF, iv_leT, iv_leF, iv_eqT, iv_eqF, iv_div, rm_iv, tn_iv, ib_iv, some_cb, some_cbv, ↓nm_eq, ↓reduceIte, true_and, and_true, Bool.true_eq_false, Bool.false_eq_true, not_false_eq_true, not_true_eq_false]
  rfl
set_option maxRecDepth 100000 in
theorem q_nowAt (N : NS w A h hh c) {b x g k : Int} (b0 : 0 ≤ b) (b1 : b ≤ 11) (x0 : 0 ≤ x) (x1 : x ≤ 2147483647) (hg : x / 10 = g) (hk : x % 10 = k) (g1 : g ≤ 3) (k1 : k ≤ 2) : f_X12_nowAt 91 (iv b) (iv x) hh = some (iv (c (12 * b + 3 * g + k)), hh) := by
  have hF := N.2.1.F
  have hn := N.2.2 (12 * b + 3 * g + k) (by omega)
  simp -implicitDefEqProofs (disch := omega) only [F_f_X12_nowAt, K91 hF, R91_29 hF, K116 hF, N116 hF, hg, hk, hn, iv_add, iv_sub, iv_mul, iv_neg, iv_zero, iv_ltT, iv_ltF, iv_leT, iv_leF, iv_eqT, iv_eqF, iv_div, rm_iv, tn_iv, ib_iv, some_cb, some_cbv, ↓nm_eq, ↓reduceIte, true_and, and_true, Bool.true_eq_false, Bool.false_eq_true, not_false_eq_true, not_true_eq_false]
theorem rwL_nn (hW : WI w) {m b0 : Int} (hl : lvM w m) (b00 : 0 ≤ b0) (tb : b0 < wBx w m) : ∀ (k : Nat) (u : Int), 0 ≤ u → u + k ≤ wGr w m → allN (rwL w (12 * m + b0) u k) := by
  obtain ⟨⟨gg1, gg2⟩, -⟩ := hW.mat hl
  intro k
  induction k with
  | zero => intro u _ _; exact trivial
  | succ k ihk => intro u u0 u1; exact ⟨(oB_g (hW.box hl b00 tb) (g := u) u0 (by omega) (by omega)).1, ihk (u + 1) (by omega) (by omega)⟩
set_option maxRecDepth 100000 in
theorem q_lowest14 {m b0 : Int} (hl : lvM w m) (b00 : 0 ≤ b0) (tb : b0 < wBx w m) : ∀ (n N : Nat), n < N → ∀ (hh : AH) (c : Int → Int) (g x y z : Int), NS w A h hh c → 0 ≤ g → g + n = wGr w m → 0 ≤ x → 0 ≤ y → 0 ≤ z → x + y + z = sumL (rwL w (12 * m + b0) g n) → x ≤ 1000 → y ≤ 1000 → z ≤ 1000 → ∃ (h' : AH) (c' : Int → Int), lp b_X12_lowest_14 (fun _ _ _ _ _ _ _ => none) N 91 (iv (12 * m + b0)) (iv x) (iv y) (iv z) (iv g) hh = some h' ∧ NS w A h h' c' ∧ HT c' (12 * b0 + 3 * g) (fst1 (rwL w (12 * m + b0) g n) x y z) ∧ (∀ i : Int, (i < 12 * b0 + 3 * g ∨ 12 * b0 + 12 ≤ i) → c' i = c i) ∧ ∀ (a i : Nat), a ≠ 116 → gI h' a i = gI hh a i := by
  intro n
  induction n with
  | zero =>
    intro N hN; obtain ⟨N, rfl⟩ : ∃ N', N = N' + 1 := ⟨N - 1, (by omega)⟩
    intro hh c g x y z hN g0 hg x0 y0 z0 hs x1 y1 z1
    have hF := hN.2.1.F
    have hR := hN.2.1.R
    have hW := hN.2.1.W
    obtain ⟨⟨w1, w2⟩, -⟩ := id hW
    obtain ⟨⟨gg1, gg2⟩, -, ⟨b2, b3⟩, -⟩ := hW.mat hl
    obtain ⟨l1, l2⟩ := id hl
    have hx : iv (12 * m + b0) / iv 12 = iv m := (by rw [iv_div (by omega) (by omega) (by omega) (by omega)]; congr 1; omega)
    exact ⟨hh, c, by simp -implicitDefEqProofs (disch := omega) only [lp_succ, F_b_X12_lowest_14, K91 hF, R91_1 hF, K92 hF, N92 hF, RR_Gr hR, hx, iv_add, iv_sub, iv_mul, iv_neg, iv_zero, iv_ltT, iv_ltF, iv_leT, iv_leF, iv_eqT, iv_eqF, iv_div, rm_iv, tn_iv, ib_iv, some_cb, some_cbv, ↓nm_eq, ↓reduceIte, true_and, and_true, Bool.true_eq_false, Bool.false_eq_true, not_false_eq_true, not_true_eq_false], hN, trivial, fun _ _ => rfl, fun _ _ _ => rfl⟩
  | succ n ih =>
    intro N hN; obtain ⟨N, rfl⟩ : ∃ N', N = N' + 1 := ⟨N - 1, (by omega)⟩
    intro hh c g x y z hN g0 hg x0 y0 z0 hs x1 y1 z1
    have hF := hN.2.1.F
    have hR := hN.2.1.R
    have hW := hN.2.1.W
    obtain ⟨⟨w1, w2⟩, -⟩ := id hW
    obtain ⟨⟨gg1, gg2⟩, -, ⟨b2, b3⟩, -⟩ := hW.mat hl
    obtain ⟨l1, l2⟩ := id hl
    have hx : iv (12 * m + b0) / iv 12 = iv m := (by rw [iv_div (by omega) (by omega) (by omega) (by omega)]; congr 1; omega)
    have hxm : rmI (iv (12 * m + b0)) (iv 12) = iv b0 := (by rw [rm_iv (by omega) (by omega) (by omega) (by omega)]; congr 1; omega)
    obtain ⟨r0, r1⟩ := oB_g (hW.box hl b00 tb) (g := g) g0 (by omega) (by omega)
    have hs : x + y + z = wG w (12 * m + b0) g + sumL (rwL w (12 * m + b0) (g + 1) n) := hs
    have hln : 0 ≤ sumL (rwL w (12 * m + b0) (g + 1) n) := sumL_nn _ (by
      have key : ∀ (k : Nat) (u : Int), 0 ≤ u → u + k ≤ wGr w m → allN (rwL w (12 * m + b0) u k) := by
        intro k
        induction k with
        | zero => intro u _ _; exact trivial
        | succ k ihk => intro u u0 u1; exact ⟨(oB_g (hW.box hl b00 tb) (g := u) u0 (by omega) (by omega)).1, ihk (u + 1) (by omega) (by omega)⟩
      exact key n (g + 1) (by omega) (by omega))
    obtain ⟨p, hp⟩ : ∃ p, max 0 (wG w (12 * m + b0) g - y - z) = p := ⟨_, rfl⟩
    obtain ⟨q, hq⟩ : ∃ q, max 0 (wG w (12 * m + b0) g - p - z) = q := ⟨_, rfl⟩
    obtain ⟨h', c', f1, f2, f3, f4, f5⟩ := ih N (by omega) (LY hh (12 * b0 + 3 * g) p q (wG w (12 * m + b0) g - p - q)) (ly c (12 * b0 + 3 * g) p q (wG w (12 * m + b0) g - p - q)) (g + 1) (x - p) (y - q) (z - (wG w (12 * m + b0) g - p - q)) (hN.ly (by omega) _ _ _) (by omega) (by omega) (by omega) (by omega) (by omega) (by omega) (by omega) (by omega) (by omega)
    refine ⟨h', c', ?_, f2, ?_, fun i hi => ?_, fun a i ha => ?_⟩
    · rw [← f1]
      simp -implicitDefEqProofs (disch := omega) only [lp_succ, F_b_X12_lowest_14, k_X12_lowest_14_1, k_X12_lowest_14_2, k_X12_lowest_14_3, K91 hF, R91_1 hF, K92 hF, N92 hF, RR_Gr hR, R91_4 hF, K95 hF, N95 hF, RR_G hR, hx, hxm, q_greater, hp, hq, q_lays hN.2.1.Q, iv_add, iv_sub, iv_mul, iv_neg, iv_zero, iv_ltT, iv_ltF, iv_leT, iv_leF, iv_eqT, iv_eqF, iv_div, rm_iv, tn_iv, ib_iv, some_cb, some_cbv, ↓nm_eq, ↓reduceIte, true_and, and_true, Bool.true_eq_false, Bool.false_eq_true, not_false_eq_true, not_true_eq_false]
    · show HT c' (12 * b0 + 3 * g) (fst1 (wG w (12 * m + b0) g :: rwL w (12 * m + b0) (g + 1) n) x y z)
      rw [fst1_cons, hp, hq]
      refine ⟨?_, ?_, ?_, ?_⟩
      · rw [f4 _ (by omega), ly_0]
      · rw [f4 _ (by omega), ly_1]
      · rw [f4 _ (by omega), ly_2]
      · rw [show 12 * b0 + 3 * g + 3 = 12 * b0 + 3 * (g + 1) by omega]; exact f3
    · rw [f4 i (by omega), ly_o c (by omega)]
    · rw [f5 a i ha, LY_o _ _ _ _ _ _ ha]
end Q
