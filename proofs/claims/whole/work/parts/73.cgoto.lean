section Q
variable {w : WD} {A : Int → Nat} {h hh : AH} {t : Nat} {pl : Int} {c gl cl : Int → Int}
set_option maxRecDepth 100000 in
theorem c_go84 (ht : Tt t) (T : TS w A h hh t pl c gl cl) (self : Nat → Int64 → Int32 → AH → Option AH) {p g k v : Int} {l : Int64} (p0 : 0 ≤ p) (p1 : p < 12) (hg : p / 3 = g) (hk : p % 3 = k) : ∃ h' : AH, f_X8_goTo_84 self t l (iv p) (iv v) hh = self t l (iv (p + 1)) h' ∧ TS w A h h' t pl (uZ c p v) (uZ gl g (gl g - v)) (uZ cl k (cl k - v)) ∧ Fr t hh h' := by
  obtain ⟨q1, q2, q3, q4, ⟨q5, q6⟩, -⟩ := ht.ok T.2.1.F
  have T1 := T.s1 ht (y := p) v p0
  obtain ⟨h', f1, f2, f3⟩ := c_set ht T1 v p0 p1 hg hk
  refine ⟨h', ?_, f2, ((Fr.rf t hh).sI (by omega)).tr f3⟩
  simp -implicitDefEqProofs (disch := omega) only [F_f_X8_goTo_84, k_X8_goTo_84_1, F_f_X8_goTo_84, k_X8_goTo_48_1, k_X8_goTo_48_2, k_X8_goTo_11_1, k_X8_goTo_1, gK_sI, gN_sI, gR_sI, q1, q2, q5, q6, f1, iv_add, iv_sub, iv_mul, iv_neg, iv_zero, iv_ltT, iv_ltF, iv_leT, iv_leF, iv_eqT, iv_eqF, iv_div, rm_iv, tn_iv, ib_iv, some_cb, some_cbv, ↓nm_eq, ↓reduceIte, true_and, and_true, Bool.true_eq_false, Bool.false_eq_true, not_false_eq_true, not_true_eq_false]
set_option maxRecDepth 100000 in
theorem c_go01 (ht : Tt t) (T : TS w A h hh t pl c gl cl) (self : Nat → Int64 → Int32 → AH → Option AH) {p g k : Int} (p0 : 0 ≤ p) (p1 : p < pl) (p12 : pl ≤ 12) (hg : p / 3 = g) (hk : p % 3 = k) (k1 : k ≤ 1) (b1 : Bd gl 4 0 300) (b2 : Bd cl 3 0 300) (hs : sm4 gl = sm3 cl) (F : Int → Int) (hi : Int) (hi1 : hi ≤ 300) (hF : ∀ v : Int, 0 ≤ v → v ≤ 300 → wfV gl cl g k v = Sr F v hi) (nn : ∀ v : Int, 0 ≤ v → v ≤ hi → 0 ≤ F v) {i : Int} (hT : Sr F 0 hi ≤ 1000000000000) (i0 : 0 ≤ i) (i1 : i < Sr F 0 hi) (hr : min (gl g) (cl k) ≤ hi) (hz : ∀ v : Int, min (gl g) (cl k) < v → v ≤ hi → F v = 0) : ∃ (h' : AH) (j : Int), b_X8_goTo_11 self t (jv i) (iv p) hh = self t (jv (i - Sr F 0 (j - 1))) (iv (p + 1)) h' ∧ TS w A h h' t pl (uZ c p j) (uZ gl g (gl g - j)) (uZ cl k (cl k - j)) ∧ Fr t hh h' ∧ 0 ≤ j ∧ j ≤ min (gl g) (cl k) ∧ Sr F 0 (j - 1) ≤ i ∧ i < Sr F 0 (j - 1) + F j := by
  obtain ⟨q1, -⟩ := ht.ok T.2.1.F
  have pl0 := T.2.2.1
  obtain ⟨h1, j, f1, T1, F1, j0, j1, j2, j3⟩ := c_valueAt ht T p0 (by omega) hg hk k1 b1 b2 hs F hi hi1 hF nn hT i0 i1 hr hz
  have bg := b1 g (by omega) (by omega)
  by_cases z : j = 0
  · subst z
    obtain ⟨h2, f2, T2, F2⟩ := c_go84 ht T1 self (v := 0) (l := jv i) p0 (by omega) hg hk
    refine ⟨h2, 0, ?_, T2, F1.tr F2, by omega, j1, j2, j3⟩
    rw [Sr_none (show (0 : Int) - 1 < 0 by omega), Int.sub_zero, ← f2]
    simp -implicitDefEqProofs (disch := omega) only [F_b_X8_goTo_11, F_f_X8_goTo_48, k_X8_goTo_84_1, k_X8_goTo_48_1, k_X8_goTo_48_2, F_f_X8_goTo_48, k_X8_goTo_11_1, F_b_X8_goTo_11, k_X8_goTo_1, q1, pl0, hk, f1, iv_add, iv_sub, iv_mul, iv_neg, iv_zero, iv_ltT, iv_ltF, iv_leT, iv_leF, iv_eqT, iv_eqF, iv_div, rm_iv, tn_iv, ib_iv, some_cb, some_cbv, ↓nm_eq, ↓reduceIte, true_and, and_true, Bool.true_eq_false, Bool.false_eq_true, not_false_eq_true, not_true_eq_false]
  · obtain ⟨h2, f2, T2, F2⟩ := c_waysFrom ht T1 p0 (by omega) hg hk k1 (v := 0) (by omega) (by omega) b1 b2 hs
    obtain ⟨h3, f3, T3, F3⟩ := c_waysFrom ht T2 p0 (by omega) hg hk k1 (v := j) (by omega) (by omega) b1 b2 hs
    rw [hF 0 (by omega) (by omega)] at f2
    rw [hF j (by omega) (by omega)] at f3
    have q2 := (ht.ok T1.2.1.F).1
    have q3 := (ht.ok T2.2.1.F).1
    have sp : Sr F 0 hi = Sr F 0 (j - 1) + Sr F (j - 1 + 1) hi := Sr_split (by omega) (by omega)
    rw [show j - 1 + 1 = j by omega] at sp
    obtain ⟨h4, f4, T4, F4⟩ := c_go84 ht T3 self (v := j) (l := jv (i - (Sr F 0 hi - Sr F j hi))) p0 (by omega) hg hk
    refine ⟨h4, j, ?_, T4, ((F1.tr F2).tr F3).tr F4, j0, j1, j2, j3⟩
    rw [show i - Sr F 0 (j - 1) = i - (Sr F 0 hi - Sr F j hi) by omega, ← f4]
    simp -implicitDefEqProofs (disch := omega) only [F_b_X8_goTo_11, F_f_X8_goTo_48, k_X8_goTo_84_1, k_X8_goTo_48_1, k_X8_goTo_48_2, F_f_X8_goTo_48, k_X8_goTo_11_1, F_b_X8_goTo_11, k_X8_goTo_1, q1, q2, q3, pl0, hk, f1, f2, f3, iv_add, iv_sub, iv_mul, iv_neg, iv_zero, iv_ltT, iv_ltF, iv_leT, iv_leF, iv_eqT, iv_eqF, iv_div, rm_iv, tn_iv, ib_iv, jv_sub, some_cb, some_cbv, ↓nm_eq, ↓reduceIte, true_and, and_true, Bool.true_eq_false, Bool.false_eq_true, not_false_eq_true, not_true_eq_false]
set_option maxRecDepth 100000 in
theorem c_go2 (ht : Tt t) (T : TS w A h hh t pl c gl cl) (self : Nat → Int64 → Int32 → AH → Option AH) {p g : Int} {l : Int64} (p0 : 0 ≤ p) (p1 : p < pl) (p12 : pl ≤ 12) (hg : p / 3 = g) (hk : p % 3 = 2) : ∃ h' : AH, b_X8_goTo_11 self t l (iv p) hh = self t l (iv (p + 1)) h' ∧ TS w A h h' t pl (uZ c p (gl g)) (uZ gl g 0) (uZ cl 2 (cl 2 - gl g)) ∧ Fr t hh h' := by
  obtain ⟨q1, q2, q3, q4, ⟨q5, q6⟩, ⟨q7, q8⟩, -⟩ := ht.ok T.2.1.F
  have pl0 := T.2.2.1
  have g0 := T.2.2.2.2.1 g (by omega) (by omega)
  obtain ⟨h', f1, T1, F1⟩ := c_go84 ht T self (v := gl g) (l := l) p0 (by omega) hg hk
  rw [show gl g - gl g = 0 by omega] at T1
  refine ⟨h', ?_, T1, F1⟩
  rw [← f1]
  simp -implicitDefEqProofs (disch := omega) only [F_b_X8_goTo_11, F_f_X8_goTo_48, q1, q3, q7, q8, pl0, hg, hk, g0, iv_add, iv_sub, iv_mul, iv_neg, iv_zero, iv_ltT, iv_ltF, iv_leT, iv_leF, iv_eqT, iv_eqF, iv_div, rm_iv, tn_iv, ib_iv, some_cb, some_cbv, ↓nm_eq, ↓reduceIte, true_and, and_true, Bool.true_eq_false, Bool.false_eq_true, not_false_eq_true, not_true_eq_false]
/-- where a going to a table stands: groups from one on have their sums left -/
def AtG (gl cl : Int → Int) (g : Int) (rs : List Int) (x y z : Int) : Prop := (∀ i : Int, 0 ≤ i → i < g → gl i = 0) ∧ GL gl g rs ∧ (∀ i : Int, g + (rs.length : Int) ≤ i → i < 4 → gl i = 0) ∧ cl 0 = x ∧ cl 1 = y ∧ cl 2 = z ∧ Bd gl 4 0 300 ∧ Bd cl 3 0 300 ∧ sm4 gl = sm3 cl
set_option maxRecDepth 100000 in
theorem c_goRows (ht : Tt t) {m b0 : Int} (hl : lvM w m) (b00 : 0 ≤ b0) (tb : b0 < wBx w m) (hW : WI w) (hpl : pl = 3 * (wGr w m - 1) + wCh w m) : ∀ (n N : Nat), 3 * n < N → ∀ (hh : AH) (c gl cl : Int → Int) (g x y z k : Int), TS w A h hh t pl c gl cl → 0 ≤ g → g + n = wGr w m → AtG gl cl g (rwL w (12 * m + b0) g n) x y z → 0 ≤ k → k < cn (rwL w (12 * m + b0) g n) x y z → cn (rwL w (12 * m + b0) g n) x y z ≤ 1000000000000 → (wCh w m = 2 → z = 0) → (∀ p : Int, pl ≤ p → p < 12 → c p = 0) → ∃ h' : AH, lp b_X8_goTo_11 (fun _ _ _ _ => none) N t (jv k) (iv (3 * g)) hh = some h' ∧ ∃ (c' gl' cl' : Int → Int) (T : List TR), TS w A h h' t pl c' gl' cl' ∧ Fr t hh h' ∧ (Tb (rwL w (12 * m + b0) g n) x y z)[k.toNat]? = some T ∧ HT c' (3 * g) T ∧ ∀ i : Int, i < 3 * g → c' i = c i := by
  obtain ⟨⟨gg1, gg2⟩, ⟨gc1, gc2⟩, -⟩ := hW.mat hl
  intro n
  induction n with
  | zero =>
    intro N hN; obtain ⟨N, rfl⟩ : ∃ N', N = N' + 1 := ⟨N - 1, (by omega)⟩
    intro hh c gl cl g x y z k T g0 hg hA k0 hk hT hzz hc
    have hk : k < (if x = 0 ∧ y = 0 ∧ z = 0 then 1 else 0) := hk
    have e : x = 0 ∧ y = 0 ∧ z = 0 := Classical.byContradiction (fun e => by rw [if_neg e] at hk; omega)
    rw [if_pos e] at hk
    obtain ⟨q1, -⟩ := ht.ok T.2.1.F
    have pl0 := T.2.2.1
    refine ⟨hh, by simp -implicitDefEqProofs (disch := omega) only [lp_succ, F_b_X8_goTo_11, q1, pl0, iv_add, iv_sub, iv_mul, iv_neg, iv_zero, iv_ltT, iv_ltF, iv_leT, iv_leF, iv_eqT, iv_eqF, iv_div, rm_iv, tn_iv, ib_iv, some_cb, some_cbv, ↓nm_eq, ↓reduceIte, true_and, and_true, Bool.true_eq_false, Bool.false_eq_true, not_false_eq_true, not_true_eq_false], c, gl, cl, [], T, Fr.rf t hh, ?_, trivial, fun _ _ => rfl⟩
    show (if x = 0 ∧ y = 0 ∧ z = 0 then [[]] else [] : List (List TR))[k.toNat]? = some []
    rw [if_pos e, show k.toNat = 0 by omega]
    rfl
  | succ n ih =>
    intro N hN hh c gl cl g x y z k T g0 hg hA k0 hk hT hzz hc
    obtain ⟨N, rfl⟩ : ∃ N', N = N' + 1 + 1 + 1 := ⟨N - 3, by omega⟩
    obtain ⟨a1, ⟨a2, a3⟩, a4, a5, a6, a7, a8, a9, a10⟩ := hA
    have hlen : ((rwL w (12 * m + b0) (g + 1) n).length : Int) = n := by
      have : ∀ (n : Nat) (g : Int), (rwL w (12 * m + b0) g n).length = n := by
        intro n
        induction n with
        | zero => intro g; rfl
        | succ n ih => intro g; show (rwL w (12 * m + b0) (g + 1) n).length + 1 = _; rw [ih]
      rw [this]
    have a4' : ∀ i : Int, g + 1 + ((rwL w (12 * m + b0) (g + 1) n).length : Int) ≤ i → i < 4 → gl i = 0 := fun i i0 i1 => a4 i (by show g + (((rwL w (12 * m + b0) (g + 1) n).length + 1 : Nat) : Int) ≤ i; omega) i1
    have rgn := oB_g (hW.box hl b00 tb) (g := g) g0 (by omega) (by omega)
    obtain ⟨r, hr⟩ : ∃ r, wG w (12 * m + b0) g = r := ⟨_, rfl⟩
    rw [hr] at rgn a2
    obtain ⟨rs, hrs⟩ : ∃ rs, rwL w (12 * m + b0) (g + 1) n = rs := ⟨_, rfl⟩
    have hrw : rwL w (12 * m + b0) g (n + 1) = r :: rs := by rw [← hr, ← hrs]; rfl
    rw [hrw] at hk hT ⊢
    rw [hrs] at a3 a4' hlen
    have bx := a9 0 (by omega) (by omega)
    have by' := a9 1 (by omega) (by omega)
    have bz := a9 2 (by omega) (by omega)
    rw [a5] at bx
    rw [a6] at by'
    rw [a7] at bz
    have nnW := fun (i : Int) (_ : 0 ≤ i) (_ : i ≤ r) => tbW_nn rs r x y z i
    -- choice 0
    obtain ⟨h1, p, f1, T1, F1, p0, p1, p2, p3⟩ := c_go01 ht T (lp b_X8_goTo_11 (fun _ _ _ _ => none) (N + 1 + 1)) (p := 3 * g) (g := g) (k := 0) (by omega) (by omega) (by omega) (by omega) (by omega) (by omega) a8 a9 a10 (fun p => tbW rs r x y z p) r (by omega) (fun v v0 v1 => by
      unfold wfV cn4
      rw [if_neg (by omega), c4_row g0 (by omega) a1 a3 a4', a2, a5, uZ_same, uZ_ne _ (by omega), uZ_ne _ (by omega), a6, a7]
      exact cn_from0 rs r x y z v) nnW (i := k) hT k0 hk (by omega) (fun v v0 v1 => Sr_z (fun q _ _ => cn_neg _ _ _ _ (by omega)))
    rw [a2, a5] at T1
    rw [a2, a5] at p1
    have p2 : Sr (fun p => tbW rs r x y z p) 0 (p - 1) ≤ k := p2
    have p3 : k < Sr (fun p => tbW rs r x y z p) 0 (p - 1) + tbW rs r x y z p := p3
    obtain ⟨k1, hk1⟩ : ∃ k1, k - Sr (fun p => tbW rs r x y z p) 0 (p - 1) = k1 := ⟨_, rfl⟩
    have hWT : tbW rs r x y z p ≤ 1000000000000 := Int.le_trans (Sr_single (W := fun p => tbW rs r x y z p) p0 (by omega) nnW) hT
    have nnV := fun (i : Int) (_ : 0 ≤ i) (_ : i ≤ r - p) => tbV_nn rs r x y z p i
    -- choice 1
    obtain ⟨h2, q, f2, T2, F2, q0, q1, q2, q3⟩ := c_go01 ht T1 (lp b_X8_goTo_11 (fun _ _ _ _ => none) (N + 1)) (p := 3 * g + 1) (g := g) (k := 1) (by omega) (by omega) (by omega) (by omega) (by omega) (by omega) (Bd.uZ a8 (by omega) (by omega)) (Bd.uZ a9 (by omega) (by omega)) (by rw [sm4_uZ _ (by omega) (by omega), sm3_uZ _ (by omega) (by omega), a10, a2, a5]; omega) (fun q => tbV rs r x y z p q) (r - p) (by omega) (fun v v0 v1 => by
      unfold wfV cn4
      rw [if_pos rfl, c4_row g0 (by omega) (fun i i0 i1 => by rw [uZ_ne _ (by omega)]; exact a1 i i0 i1) (GL_congr _ _ (fun i i0 i1 => uZ_ne _ (by omega)) a3) (fun i i0 i1 => by rw [uZ_ne _ (by omega)]; exact a4' i i0 i1), c4_row g0 (by omega) (fun i i0 i1 => by rw [uZ_ne _ (by omega)]; exact a1 i i0 i1) (GL_congr _ _ (fun i i0 i1 => uZ_ne _ (by omega)) a3) (fun i i0 i1 => by rw [uZ_ne _ (by omega)]; exact a4' i i0 i1)]
      have u1 : uZ gl g (r - p) g = r - p := uZ_same _ _ _
      have u2 : uZ cl 0 (x - p) 0 = x - p := uZ_same _ _ _
      have u3 : uZ cl 0 (x - p) 1 = y := by rw [uZ_ne _ (by omega), a6]
      have u4 : uZ cl 0 (x - p) 2 = z := by rw [uZ_ne _ (by omega), a7]
      have v1 : uZ (uZ cl 0 (x - p)) 1 (y - v) 0 = x - p := by rw [uZ_ne _ (by omega), u2]
      have v2 : uZ (uZ cl 0 (x - p)) 1 (y - v) 1 = y - v := uZ_same _ _ _
      have v3 : uZ (uZ cl 0 (x - p)) 1 (y - v) 2 = z := by rw [uZ_ne _ (by omega), u4]
      have v4 : uZ (uZ (uZ cl 0 (x - p)) 1 (y - v)) 0 (x - p - 1) 0 = x - p - 1 := uZ_same _ _ _
      have v5 : uZ (uZ (uZ cl 0 (x - p)) 1 (y - v)) 0 (x - p - 1) 1 = y - v := by rw [uZ_ne _ (by omega), v2]
      have v6 : uZ (uZ (uZ cl 0 (x - p)) 1 (y - v)) 0 (x - p - 1) 2 = z := by rw [uZ_ne _ (by omega), v3]
      rw [u1, u2, u3, v1, v2, v3, v4, v5, v6]
      exact cn_from1 rs) nnV (i := k1) hWT (by omega) (by show k1 < tbW rs r x y z p; omega) (by rw [uZ_same]; omega) (fun v v0 v1 => by
      rw [uZ_same, uZ_ne _ (by omega), a6] at v0
      exact cn_neg _ _ _ _ (by omega))
    rw [uZ_same, uZ_uZ, uZ_ne _ (show (1 : Int) ≠ 0 by omega), a6] at T2
    rw [uZ_same, uZ_ne _ (show (1 : Int) ≠ 0 by omega), a6] at q1
    have q2 : Sr (fun q => tbV rs r x y z p q) 0 (q - 1) ≤ k1 := q2
    have q3 : k1 < Sr (fun q => tbV rs r x y z p q) 0 (q - 1) + tbV rs r x y z p q := q3
    obtain ⟨k2, hk2⟩ : ∃ k2, k1 - Sr (fun q => tbV rs r x y z p q) 0 (q - 1) = k2 := ⟨_, rfl⟩
    have hVT : cn rs (x - p) (y - q) (z - (r - p - q)) ≤ 1000000000000 := Int.le_trans (Sr_single (W := fun q => tbV rs r x y z p q) q0 (by omega) nnV) hWT
    have hV : k2 < cn rs (x - p) (y - q) (z - (r - p - q)) := by show k2 < tbV rs r x y z p q; omega
    have hpos : ¬ (x - p < 0 ∨ y - q < 0 ∨ z - (r - p - q) < 0) := fun e => by
      rw [cn_neg _ _ _ _ e] at hV; omega
    have n1 : 0 ≤ Sr (fun p => tbW rs r x y z p) 0 (p - 1) := Sr_nonneg (fun _ _ _ => tbW_nn _ _ _ _ _ _)
    have n2 : 0 ≤ Sr (fun q => tbV rs r x y z p q) 0 (q - 1) := Sr_nonneg (fun _ _ _ => tbV_nn _ _ _ _ _ _ _)
    have hget := Tb_get (rs := rs) (r := r) (a := x) (b := y) (c := z) (p := p) (q := q) (k := k2.toNat) p0 (by omega) q0 (by omega) (by show _ < tbV rs r x y z p q; omega)
    rw [show (Sr (fun p => tbW rs r x y z p) 0 (p - 1)).toNat + ((Sr (fun q => tbV rs r x y z p q) 0 (q - 1)).toNat + k2.toNat) = k.toNat by omega] at hget
    by_cases last : pl ≤ 3 * g + 2
    · have hn0 : n = 0 := (by omega)
      have hz0 := hzz (by omega)
      subst hn0
      have hrs0 : rs = [] := by rw [← hrs]; rfl
      subst hrs0
      have e : x - p = 0 ∧ y - q = 0 ∧ z - (r - p - q) = 0 := Classical.byContradiction (fun e => by
        have hV : k2 < (if x - p = 0 ∧ y - q = 0 ∧ z - (r - p - q) = 0 then 1 else 0) := hV
        rw [if_neg e] at hV; omega)
      have hV1 : k2 < (if x - p = 0 ∧ y - q = 0 ∧ z - (r - p - q) = 0 then 1 else 0) := hV
      rw [if_pos e] at hV1
      have hg2 : (Tb [] (x - p) (y - q) (z - (r - p - q)))[k2.toNat]? = some [] := by
        show (if x - p = 0 ∧ y - q = 0 ∧ z - (r - p - q) = 0 then [[]] else [] : List (List TR))[k2.toNat]? = some []
        rw [if_pos e, show k2.toNat = 0 by omega]
        rfl
      rw [hg2] at hget
      obtain ⟨w1, -⟩ := ht.ok T2.2.1.F
      have pl0 := T2.2.2.1
      have f3 : b_X8_goTo_11 (lp b_X8_goTo_11 (fun _ _ _ _ => none) N) t (jv k2) (iv (3 * g + 1 + 1)) h2 = some h2 := by
        simp -implicitDefEqProofs (disch := omega) only [F_b_X8_goTo_11, w1, pl0, iv_add, iv_sub, iv_mul, iv_neg, iv_zero, iv_ltT, iv_ltF, iv_leT, iv_leF, iv_eqT, iv_eqF, iv_div, rm_iv, tn_iv, ib_iv, some_cb, some_cbv, ↓nm_eq, ↓reduceIte, true_and, and_true, Bool.true_eq_false, Bool.false_eq_true, not_false_eq_true, not_true_eq_false]
      refine ⟨h2, by rw [lp_succ, f1, hk1, lp_succ, f2, hk2, lp_succ, f3], _, _, _, [(p, q, r - p - q)], T2, F1.tr F2, hget, ⟨?_, ?_, ?_, trivial⟩, fun i hi => ?_⟩
      · rw [uZ_ne _ (by omega), uZ_same]
      · rw [uZ_same]
      · rw [uZ_ne _ (by omega), uZ_ne _ (by omega), hc _ (by omega) (by omega)]; omega
      · rw [uZ_ne _ (by omega), uZ_ne _ (by omega)]
    · obtain ⟨h3, f3, T3, F3⟩ := c_go2 ht T2 (lp b_X8_goTo_11 (fun _ _ _ _ => none) N) (p := 3 * g + 1 + 1) (g := g) (l := jv k2) (by omega) (by omega) (by omega) (by omega) (by omega)
      rw [uZ_same, uZ_uZ, uZ_ne _ (show (2 : Int) ≠ 1 by omega), uZ_ne _ (show (2 : Int) ≠ 0 by omega), a7] at T3
      have hA3 : AtG (uZ gl g 0) (uZ (uZ (uZ cl 0 (x - p)) 1 (y - q)) 2 (z - (r - p - q))) (g + 1) rs (x - p) (y - q) (z - (r - p - q)) := by
        refine ⟨fun i i0 i1 => ?_, GL_congr _ _ (fun i i0 i1 => uZ_ne _ (by omega)) a3, fun i i0 i1 => by rw [uZ_ne _ (by omega)]; exact a4' i i0 i1, ?_, ?_, uZ_same _ _ _, Bd.uZ a8 (by omega) (by omega), Bd.uZ (Bd.uZ (Bd.uZ a9 (by omega) (by omega)) (by omega) (by omega)) (by omega) (by omega), ?_⟩
        · by_cases e : i = g
          · rw [e, uZ_same]
          · rw [uZ_ne _ e]; exact a1 i i0 (by omega)
        · rw [uZ_ne _ (by omega), uZ_ne _ (by omega), uZ_same]
        · rw [uZ_ne _ (by omega), uZ_same]
        · rw [sm4_uZ _ (by omega) (by omega), sm3_uZ _ (by omega) (by omega), sm3_uZ _ (by omega) (by omega), sm3_uZ _ (by omega) (by omega), uZ_ne _ (show (2 : Int) ≠ 1 by omega), uZ_ne _ (show (2 : Int) ≠ 0 by omega), uZ_ne _ (show (1 : Int) ≠ 0 by omega), a10, a2, a5, a6, a7]; omega
      rw [← hrs] at hA3 hV hVT
      obtain ⟨h', g1, c', gl', cl', T', g2, g3, g4, g5, g6⟩ := ih N (by omega) h3 _ _ _ (g + 1) (x - p) (y - q) (z - (r - p - q)) k2 T3 (by omega) (by omega) hA3 (by omega) hV hVT (fun e => by have := hzz e; omega) (fun p' p0 p1 => by rw [uZ_ne _ (by omega), uZ_ne _ (by omega), uZ_ne _ (by omega), hc p' p0 p1])
      rw [hrs] at g4
      rw [g4] at hget
      refine ⟨h', by rw [lp_succ, f1, hk1, lp_succ, f2, hk2, lp_succ, f3, show 3 * g + 1 + 1 + 1 = 3 * (g + 1) by omega, g1], c', gl', cl', _, g2, ((F1.tr F2).tr F3).tr g3, hget, ⟨?_, ?_, ?_, ?_⟩, fun i hi => ?_⟩
      · rw [g6 _ (by omega), uZ_ne _ (by omega), uZ_ne _ (by omega), uZ_same]
      · rw [g6 _ (by omega), uZ_ne _ (by omega), uZ_same]
      · rw [g6 _ (by omega), show 3 * g + 2 = 3 * g + 1 + 1 by omega, uZ_same]
      · rw [show 3 * g + 3 = 3 * (g + 1) by omega]; exact g5
      · rw [g6 i (by omega), uZ_ne _ (by omega), uZ_ne _ (by omega), uZ_ne _ (by omega)]
end Q
