/-! a line drawn: both -/
section Q
variable {w : WD} {A : Int → Nat} {h h1 : AH} {m : Int}
set_option maxRecDepth 100000 in
theorem c_spread {a : Nat} {n sx xx s : Int} (k : gK h1 a = 105) (g0 : gJ h1 a 0 = jv n) (g1 : gJ h1 a 1 = jv sx) (g3 : gJ h1 a 3 = jv xx) (es : n * xx - sx * sx = s) : f_X5_spread a h1 = some (jv s, h1) := by
  simp -implicitDefEqProofs (disch := omega) only [F_f_X5_spread, k, g0, g1, g3, es, iv_add, iv_sub, iv_mul, iv_neg, iv_zero, iv_ltT, iv_ltF, iv_leT, iv_leF, iv_eqT, iv_eqF, iv_div, rm_iv, tn_iv, ib_iv, lc_lt, lc_le, lc_gt, lc_ge, lc_eq, iv_l, jv_add, jv_sub, jv_mul, jv_zero, if_pos, if_neg, some_cb, some_cbv, ↓nm_eq, ↓reduceIte, true_and, and_true, Bool.true_eq_false, Bool.false_eq_true, not_false_eq_true, not_true_eq_false]
set_option maxRecDepth 100000 in
theorem c_at {a : Nat} {n sx sy xx xy s co x : Int} (k : gK h1 a = 105) (g0 : gJ h1 a 0 = jv n) (g1 : gJ h1 a 1 = jv sx) (g2 : gJ h1 a 2 = jv sy) (g3 : gJ h1 a 3 = jv xx) (g4 : gJ h1 a 4 = jv xy) (es : n * xx - sx * sx = s) (ec : n * xy - sx * sy = co) (n0 : 1 ≤ n) (n1 : n ≤ 12) (x0 : 0 ≤ sx) (x1 : sx ≤ 12000) (y0 : 0 ≤ sy) (y1 : sy ≤ 12000) (s0 : 0 < s) (s1 : s ≤ 144000000) (c0 : -144000000 ≤ co) (c1 : co ≤ 144000000) (z0 : 0 ≤ x) (z1 : x ≤ 1000) : f_X5_at a (iv x) h1 = some (iv ((s * sy + co * (x * n - sx)) / (s * n)), h1) := by
  have r1 := mul_rng (a := s) (b := sy) (A := 144000000) (B := 12000) (by omega) (by omega) (by omega) (by omega)
  have r2 := mul_rng (a := x) (b := n) (A := 1000) (B := 12) (by omega) (by omega) (by omega) (by omega)
  have r2' := Int.mul_nonneg z0 (show 0 ≤ n by omega)
  have r3 := mul_rng (a := co) (b := x * n - sx) (A := 144000000) (B := 12000) (by omega) (by omega) (by omega) (by omega)
  have r4 := mul_rng (a := s) (b := n) (A := 144000000) (B := 12) (by omega) (by omega) (by omega) (by omega)
  have r5 : 0 < s * n := Int.mul_pos s0 (by omega)
  have sp := c_spread k g0 g1 g3 es
  have fl := c_floor (h := h1) (a := s * sy + co * (x * n - sx)) (b := s * n) (by omega) (by omega) r5 (by omega)
  simp -implicitDefEqProofs (disch := omega) only [k_X5_at_1, k_X5_at_2, F_f_X5_at, k, g0, g1, g2, g4, sp, ec, fl, jv_i, iv_add, iv_sub, iv_mul, iv_neg, iv_zero, iv_ltT, iv_ltF, iv_leT, iv_leF, iv_eqT, iv_eqF, iv_div, rm_iv, tn_iv, ib_iv, lc_lt, lc_le, lc_gt, lc_ge, lc_eq, iv_l, jv_add, jv_sub, jv_mul, jv_zero, if_pos, if_neg, some_cb, some_cbv, ↓nm_eq, ↓reduceIte, true_and, and_true, Bool.true_eq_false, Bool.false_eq_true, not_false_eq_true, not_true_eq_false]
set_option maxRecDepth 100000 in
theorem q_at {n sx sy s co x : Int} (hF : Fix h1) (g36 : gJ h1 91 36 = jv co) (g37 : gJ h1 91 37 = jv s) (g38 : gJ h1 91 38 = jv n) (g39 : gJ h1 91 39 = jv sx) (g40 : gJ h1 91 40 = jv sy) (n0 : 1 ≤ n) (n1 : n ≤ 12) (x0 : 0 ≤ sx) (x1 : sx ≤ 12000) (y0 : 0 ≤ sy) (y1 : sy ≤ 12000) (s0 : 0 < s) (s1 : s ≤ 144000000) (c0 : -144000000 ≤ co) (c1 : co ≤ 144000000) (z0 : 0 ≤ x) (z1 : x ≤ 1000) : f_X12_lineAt 91 (iv x) h1 = some (jv ((s * sy + co * (x * n - sx)) / (s * n)), h1) := by
  have r1 := mul_rng (a := s) (b := sy) (A := 144000000) (B := 12000) (by omega) (by omega) (by omega) (by omega)
  have r2 := mul_rng (a := x) (b := n) (A := 1000) (B := 12) (by omega) (by omega) (by omega) (by omega)
  have r2' := Int.mul_nonneg z0 (show 0 ≤ n by omega)
  have r3 := mul_rng (a := co) (b := x * n - sx) (A := 144000000) (B := 12000) (by omega) (by omega) (by omega) (by omega)
  have r4 := mul_rng (a := s) (b := n) (A := 144000000) (B := 12) (by omega) (by omega) (by omega) (by omega)
  have r5 : 0 < s * n := Int.mul_pos s0 (by omega)
  have key : f_X12_lineAt 91 (iv x) h1 = (if iv 0 ≤ lg_cmp (rmJ (jv (s * sy + co * (x * n - sx))) (jv (s * n))) (jv 0) then some (jv (s * sy + co * (x * n - sx)) / jv (s * n), h1) else some (jv (s * sy + co * (x * n - sx)) / jv (s * n) - jv 1, h1)) := by
    simp -implicitDefEqProofs (disch := omega) only [F_f_X12_lineAt, K91 hF, g36, g37, g38, g39, g40, jv_eqF, iv_zero, iv_l, jv_add, jv_sub, jv_mul, jv_zero, some_cb, some_cbv, ↓nm_eq, ↓reduceIte, true_and, and_true, Bool.true_eq_false, Bool.false_eq_true, not_false_eq_true, not_true_eq_false]
  rw [key]
  have hzb : -4000000000000 ≤ s * sy + co * (x * n - sx) ∧ s * sy + co * (x * n - sx) ≤ 4000000000000 := by omega
  generalize s * sy + co * (x * n - sx) = z at *
  generalize s * n = d at *
  by_cases q : 0 ≤ z
  · have e1 := jv_div (a := z) (b := d) q (by omega) r5 (by omega)
    have e2 := rm_jv (a := z) (b := d) q (by omega) r5 (by omega)
    have r0 := Int.emod_nonneg z (show d ≠ 0 by omega)
    have r1 := Int.emod_lt_of_pos z r5
    rw [e1, e2]
    exact if_pos ((lc_ge (by omega)).mpr r0)
  · obtain ⟨c, rfl⟩ : ∃ c, z = -c := ⟨-z, by omega⟩
    have e1 := jv_divn (c := c) (b := d) (by omega) (by omega) r5 (by omega)
    have e2 := rm_jvn (c := c) (b := d) (by omega) (by omega) r5 (by omega)
    have r0 := Int.emod_nonneg c (show d ≠ 0 by omega)
    have r1 := Int.emod_lt_of_pos c r5
    rw [e1, e2, neg_fl (by omega) r5]
    by_cases p : c % d = 0
    · rw [if_pos p]
      exact if_pos ((lc_ge (by omega)).mpr (by omega))
    · rw [if_neg p, jv_sub]
      exact if_neg (fun y => by have := (lc_ge (by omega)).mp y; omega)
theorem sq_lt {a b : Int} (a0 : 0 ≤ a) (h : a < b) : a * a < b * b := by
  have : 0 < (b - a) * (b + a) := Int.mul_pos (by omega) (by omega)
  grind
/-- all that is known of a line's numbers -/
theorem lin_all (hW : WI w) (hl : lvM w m) {J : Nat} (hJ : (J : Int) = wBx w m) : (0 ≤ lnN w m J ∧ lnN w m J ≤ 12) ∧ (0 ≤ lSx w m J ∧ lSx w m J ≤ 12000) ∧ (0 ≤ lSy w m J ∧ lSy w m J ≤ 12000) ∧ (0 ≤ lSp w m J ∧ lSp w m J ≤ 144000000) ∧ (-144000000 ≤ lCo w m J ∧ lCo w m J ≤ 144000000) ∧ (0 < lSp w m J → 1 ≤ lnN w m J ∧ -(12000 * lSp w m J) ≤ lCo w m J ∧ lCo w m J ≤ 12000 * lSp w m J) := by
  have bb := (hW.mat hl).2.2.1
  obtain ⟨r1, r2, r3, r4, r5, r6⟩ := lin_rng hW hl (j := J) (by omega)
  have s0 := liT_cs0 (v := lV w m) (f := lX w m) J
  have t0 := liT_cs0 (v := lV w m) (f := lY w m) J
  have cs := liT_cs (v := lV w m) (f := lX w m) (g := lY w m) J
  unfold lSp lCo
  change 0 ≤ lnN w m J * lXX w m J - lSx w m J * lSx w m J at s0
  change 0 ≤ lnN w m J * liT (lV w m) (fun x => lY w m x * lY w m x) J - lSy w m J * lSy w m J at t0
  change 0 < lnN w m J * lXX w m J - lSx w m J * lSx w m J → (lnN w m J * lXY w m J - lSx w m J * lSy w m J) * (lnN w m J * lXY w m J - lSx w m J * lSy w m J) ≤ (lnN w m J * lXX w m J - lSx w m J * lSx w m J) * (lnN w m J * liT (lV w m) (fun x => lY w m x * lY w m x) J - lSy w m J * lSy w m J) at cs
  generalize liT (lV w m) (fun x => lY w m x * lY w m x) J = yy at *
  generalize lnN w m J = n at *
  generalize lSx w m J = sx at *
  generalize lSy w m J = sy at *
  generalize lXX w m J = xx at *
  generalize lXY w m J = xy at *
  have a1 := mul_rng (a := n) (b := xx) (A := 12) (B := 12000000) (by omega) (by omega) (by omega) (by omega)
  have a2 := mul_rng (a := n) (b := xy) (A := 12) (B := 12000000) (by omega) (by omega) (by omega) (by omega)
  have a3 := mul_rng (a := n) (b := yy) (A := 12) (B := 12000000) (by omega) (by omega) (by omega) (by omega)
  have a4 := mul_rng (a := sx) (b := sy) (A := 12000) (B := 12000) (by omega) (by omega) (by omega) (by omega)
  have b1 := Int.mul_nonneg r2.1 r2.1
  have b2 := Int.mul_nonneg r3.1 r3.1
  have b3 := Int.mul_nonneg r2.1 r3.1
  have b4 := Int.mul_nonneg r1.1 r5.1
  refine ⟨⟨r1.1, by omega⟩, ⟨r2.1, by omega⟩, ⟨r3.1, by omega⟩, ⟨s0, by omega⟩, ⟨by omega, by omega⟩, fun hp => ?_⟩
  have n1 : 1 ≤ n := by
    by_cases q : n = 0
    · rw [q, Int.zero_mul] at hp; omega
    · omega
  have c1 := cs hp
  have hs : n * xx - sx * sx ≤ 144000000 := by omega
  have ht : n * yy - sy * sy ≤ 144000000 := by omega
  generalize n * xx - sx * sx = s at *
  generalize n * yy - sy * sy = t at *
  generalize n * xy - sx * sy = co at *
  refine ⟨n1, ?_⟩
  have u1 : s * t ≤ s * 144000000 := Int.mul_le_mul_of_nonneg_left ht (by omega)
  have u2 : s * 144000000 ≤ (12000 * s) * (12000 * s) := by
    have : s * 1 ≤ s * s := Int.mul_le_mul_of_nonneg_left (by omega) (by omega)
    grind
  have u3 : co * co ≤ (12000 * s) * (12000 * s) := by omega
  constructor
  · by_cases q : -(12000 * s) ≤ co
    · exact q
    · have : (12000 * s) * (12000 * s) < (-co) * (-co) := sq_lt (by omega) (by omega)
      rw [Int.neg_mul_neg] at this
      omega
  · by_cases q : co ≤ 12000 * s
    · exact q
    · have : (12000 * s) * (12000 * s) < co * co := sq_lt (by omega) (by omega)
      omega
set_option maxRecDepth 100000 in
theorem c_line (hS : Sim w A h) (hl : lvM w m) {J : Nat} (hJ : (J : Int) = wBx w m) : ∃ h1, f_X5_init (gC h) (A m) (nw h 105 5) = some h1 ∧ LiC w m h J h1 := by
  have hG := hS.gc
  have bb := (hS.W.mat hl).2.2.1
  have gc0 : ¬ gC h = 0 := by omega
  obtain ⟨h2, e2, L2⟩ := c_dots hS hl J FU 0 (nw h 105 5) (FU_gt (by omega)) (by omega) ⟨(Lw.rf h).nw 105 5, rfl, rfl, gK_nws _ _ _, gJ_nws _ _ _ _, gJ_nws _ _ _ _, gJ_nws _ _ _ _, gJ_nws _ _ _ _, gJ_nws _ _ _ _⟩
  rw [Nat.zero_add] at L2
  change lp b_X5_init_6 (fun _ _ _ _ => none) FU (gC h) (A m) (iv 0) (nw h 105 5) = some h2 at e2
  refine ⟨h2, ?_, L2⟩
  simp -implicitDefEqProofs (disch := omega) only [f_X5_init_6, F_f_X5_init, gK_nws, nz105, e2, some_cb, some_cbv, ↓nm_eq, ↓reduceIte, true_and, and_true, Bool.true_eq_false, Bool.false_eq_true, not_false_eq_true, not_true_eq_false]
set_option maxRecDepth 100000 in
theorem q_draws (hS : Sim w A h) (hl : lvM w m) {J : Nat} (hJ : (J : Int) = wBx w m) : ∃ h2, f_X12_draws 91 (iv m) h = some h2 ∧ Sc w A h h2 ∧ LiQ w m J h2 := by
  have n91 : ∀ m b : Int, lvM w m → 0 ≤ b → b < wBx w m → A (10 + (12 * m + b)) ≠ 91 := fun m b hm b0 b1 => by have := hS.aB hm b0 b1; omega
  have bb := (hS.W.mat hl).2.2.1
  have hF := hS.F
  obtain ⟨h2, e2, s2, L2⟩ := q_dots hS hl J FU 0 (sJ (sJ (sJ h 91 38 (jv 0)) 91 39 (jv 0)) 91 40 (jv 0)) (FU_gt (by omega)) (by omega) ((((Sc.rf hS).sJ91 n91).sJ91 n91).sJ91 n91) (by rw [gJ_sJo _ _ (by omega), gJ_sJo _ _ (by omega), gJ_sJs]; rfl) (by rw [gJ_sJo _ _ (by omega), gJ_sJs]; rfl) (by rw [gJ_sJs]; rfl)
  rw [Nat.zero_add] at L2
  change lp b_X12_draws_23 (fun _ _ _ _ _ _ => none) FU 91 (iv m) (jv 0) (jv 0) (iv 0) (sJ (sJ (sJ h 91 38 (jv 0)) 91 39 (jv 0)) 91 40 (jv 0)) = some h2 at e2
  refine ⟨h2, ?_, s2, L2⟩
  simp -implicitDefEqProofs (disch := omega) only [f_X12_draws_23, F_f_X12_draws, K91 hF, gK_sJ, e2, some_cb, some_cbv, ↓nm_eq, ↓reduceIte, true_and, and_true, Bool.true_eq_false, Bool.false_eq_true, not_false_eq_true, not_true_eq_false]
theorem LiC.ext {n : Nat} (L : LiC w m h n h1) (hS : Sim w A h) {h2 : AH} (s : Sc w A h1 h2) : Ext h h2 := by
  have hG := hS.gc
  obtain ⟨s1, s2, s3, s4, s5, s6, s7, s8⟩ := s
  obtain ⟨⟨l1, l2, l3, l4, l5, l6⟩, a2, a3, -⟩ := L
  refine ⟨by omega, by omega, by rw [s2, l2 _ (by omega)], ?_⟩
  funext i
  rw [s3 2 i (by unfold kpI; omega), l3 2 i (by omega)]
set_option maxRecDepth 100000 in
theorem M_line (hS : Sim w A h) (x1 x2 : Int32) : Both (f_X11_line 3 x1 x2) (f_X12_line 91 x1 x2) h := by
  obtain ⟨m, rfl, m1, m2⟩ := iv_ex x1
  obtain ⟨x, rfl, t1, t2⟩ := iv_ex x2
  have hF := hS.F
  have hR := hS.R
  have hG := hS.gc
  have gc0 : ¬ gC h = 0 := by omega
  by_cases hl : lvM w m
  · have hA := hS.aM hl
    have mA0 : ¬ A m = 0 := by omega
    by_cases hx : 0 ≤ x ∧ x ≤ 1000
    · obtain ⟨x0, x1⟩ := hx
      have bb := (hS.W.mat hl).2.2.1
      obtain ⟨J, hJ⟩ : ∃ J : Nat, (J : Int) = wBx w m := ⟨(wBx w m).toNat, by omega⟩
      obtain ⟨h1, e1, L⟩ := c_line hS hl hJ
      have sim1 := hS.low L.1
      obtain ⟨h2, e2, s2, g36, g37, g38, g39, g40⟩ := q_draws sim1 hl hJ
      have hF2 := (sim1.sc s2).F
      obtain ⟨b1, b2, b3, b4, b5, b6⟩ := lin_all hS.W hl hJ
      obtain ⟨a1, a2, a3, a4, a5, a6, a7, a8, a9⟩ := id L
      have sp := c_spread a4 a5 a6 a8 (s := lSp w m J) rfl
      have hq := q_isMatter1 sim1.F sim1.R sim1.W m1 m2 hl
      have ext := LiC.ext L hS s2
      have exb : Exb h h1 := ⟨a1.2.1 2 (by have := hS.gc; omega), funext (fun i => a1.2.2.1 2 i (by have := hS.gc; omega)), K91 sim1.F⟩
      by_cases z : lSp w m J = 0
      · rw [z] at sp g37
        refine ⟨iv (-2000000000), h1, h2, w, A, ?_, ?_, sim1.sc s2, ext, exb⟩
        · simp -implicitDefEqProofs (disch := omega) only [k_X11_line_1, k_X11_line_2, k_X11_line_3, k_X11_line_4, F_f_X11_line, k_X5_stands_1, F_f_X5_stands, K3 hF, c_matterAt1 hF hS.C hS.W, hl, mA0, gc0, gK_nws, nz105, e1, a4, sp, zret0, zret1, iv_add, iv_sub, iv_mul, iv_neg, iv_zero, iv_ltT, iv_ltF, iv_leT, iv_leF, iv_eqT, iv_eqF, iv_div, rm_iv, tn_iv, ib_iv, lc_lt, lc_le, lc_gt, lc_ge, lc_eq, iv_l, jv_add, jv_sub, jv_mul, jv_zero, if_pos, if_neg, some_cb, some_cbv, ↓nm_eq, ↓reduceIte, true_and, and_true, Bool.true_eq_false, Bool.false_eq_true, not_false_eq_true, not_true_eq_false]
        · simp -implicitDefEqProofs (disch := omega) only [k_X12_line_1, k_X12_line_2, k_X12_line_3, k_X12_line_4, F_f_X12_line, hq, q_in1, K91 sim1.F, e2, K91 hF2, g37, iv_add, iv_sub, iv_mul, iv_neg, iv_zero, iv_ltT, iv_ltF, iv_leT, iv_leF, iv_eqT, iv_eqF, iv_div, rm_iv, tn_iv, ib_iv, lc_lt, lc_le, lc_gt, lc_ge, lc_eq, iv_l, jv_add, jv_sub, jv_mul, jv_zero, if_pos, if_neg, some_cb, some_cbv, ↓nm_eq, ↓reduceIte, true_and, and_true, Bool.true_eq_false, Bool.false_eq_true, not_false_eq_true, not_true_eq_false]
      · have z' : 0 < lSp w m J := by omega
        obtain ⟨n1, c1, c2⟩ := b6 z'
        have ca := c_at a4 a5 a6 a7 a8 a9 (s := lSp w m J) (co := lCo w m J) (x := x) rfl rfl n1 b1.2 b2.1 b2.2 b3.1 b3.2 z' b4.2 b5.1 b5.2 x0 x1
        have qa := q_at hF2 g36 g37 g38 g39 g40 n1 b1.2 b2.1 b2.2 b3.1 b3.2 z' b4.2 b5.1 b5.2 x0 x1
        generalize (lSp w m J * lSy w m J + lCo w m J * (x * lnN w m J - lSx w m J)) / (lSp w m J * lnN w m J) = y at *
        refine ⟨iv y, h1, h2, w, A, ?_, ?_, sim1.sc s2, ext, exb⟩
        · simp -implicitDefEqProofs (disch := omega) only [k_X11_line_1, k_X11_line_2, k_X11_line_3, k_X11_line_4, F_f_X11_line, k_X5_stands_1, F_f_X5_stands, K3 hF, c_matterAt1 hF hS.C hS.W, hl, mA0, gc0, gK_nws, nz105, e1, a4, sp, ca, zret0, zret1, iv_add, iv_sub, iv_mul, iv_neg, iv_zero, iv_ltT, iv_ltF, iv_leT, iv_leF, iv_eqT, iv_eqF, iv_div, rm_iv, tn_iv, ib_iv, lc_lt, lc_le, lc_gt, lc_ge, lc_eq, iv_l, jv_add, jv_sub, jv_mul, jv_zero, if_pos, if_neg, some_cb, some_cbv, ↓nm_eq, ↓reduceIte, true_and, and_true, Bool.true_eq_false, Bool.false_eq_true, not_false_eq_true, not_true_eq_false]
        · simp -implicitDefEqProofs (disch := omega) only [k_X12_line_1, k_X12_line_2, k_X12_line_3, k_X12_line_4, F_f_X12_line, hq, q_in1, K91 sim1.F, e2, K91 hF2, g37, qa, jv_i, iv_add, iv_sub, iv_mul, iv_neg, iv_zero, iv_ltT, iv_ltF, iv_leT, iv_leF, iv_eqT, iv_eqF, iv_div, rm_iv, tn_iv, ib_iv, lc_lt, lc_le, lc_gt, lc_ge, lc_eq, iv_l, jv_add, jv_sub, jv_mul, jv_zero, if_pos, if_neg, some_cb, some_cbv, ↓nm_eq, ↓reduceIte, true_and, and_true, Bool.true_eq_false, Bool.false_eq_true, not_false_eq_true, not_true_eq_false]
    · have hq := q_isMatter1 hF hR hS.W m1 m2 hl
      refine Both.still hS (r := iv (-2000000000)) ?_ (by simp -implicitDefEqProofs (disch := omega) only [k_X12_line_1, k_X12_line_2, k_X12_line_3, k_X12_line_4, F_f_X12_line, hq, q_in0, K91 hF, iv_add, iv_sub, iv_mul, iv_neg, iv_zero, iv_ltT, iv_ltF, iv_leT, iv_leF, iv_eqT, iv_eqF, iv_div, rm_iv, tn_iv, ib_iv, some_cb, some_cbv, ↓nm_eq, ↓reduceIte, true_and, and_true, Bool.true_eq_false, Bool.false_eq_true, not_false_eq_true, not_true_eq_false])
      by_cases q : 0 ≤ x <;> simp -implicitDefEqProofs (disch := omega) only [k_X11_line_1, k_X11_line_2, k_X11_line_3, k_X11_line_4, F_f_X11_line, K3 hF, c_matterAt1 hF hS.C hS.W, hl, mA0, iv_add, iv_sub, iv_mul, iv_neg, iv_zero, iv_ltT, iv_ltF, iv_leT, iv_leF, iv_eqT, iv_eqF, iv_div, rm_iv, tn_iv, ib_iv, some_cb, some_cbv, ↓nm_eq, ↓reduceIte, true_and, and_true, Bool.true_eq_false, Bool.false_eq_true, not_false_eq_true, not_true_eq_false]
  · have hq := q_isMatter0 hF hR hS.W m1 m2 hl
    exact Both.still hS (r := iv (-2000000000)) (by simp -implicitDefEqProofs (disch := omega) only [k_X11_line_1, k_X11_line_2, k_X11_line_3, k_X11_line_4, F_f_X11_line, K3 hF, c_matterAt0 hF hS.C hS.W, hl, iv_add, iv_sub, iv_mul, iv_neg, iv_zero, iv_ltT, iv_ltF, iv_leT, iv_leF, iv_eqT, iv_eqF, iv_div, rm_iv, tn_iv, ib_iv, some_cb, some_cbv, ↓nm_eq, ↓reduceIte, true_and, and_true, Bool.true_eq_false, Bool.false_eq_true, not_false_eq_true, not_true_eq_false]) (by simp -implicitDefEqProofs (disch := omega) only [k_X12_line_1, k_X12_line_2, k_X12_line_3, k_X12_line_4, F_f_X12_line, hq, K91 hF, iv_add, iv_sub, iv_mul, iv_neg, iv_zero, iv_ltT, iv_ltF, iv_leT, iv_leF, iv_eqT, iv_eqF, iv_div, rm_iv, tn_iv, ib_iv, some_cb, some_cbv, ↓nm_eq, ↓reduceIte, true_and, and_true, Bool.true_eq_false, Bool.false_eq_true, not_false_eq_true, not_true_eq_false])
end Q
