section Q
variable {w : WD} {A : Int → Nat} {h hh : AH} {t : Nat} {pl : Int} {c gl cl : Int → Int}
set_option maxRecDepth 100000 in
theorem c_advance (hW : WI w) (ht : Tt t) {m b : Int} (hl : lvM w m) (b0 : 0 ≤ b) (tb : b < wBx w m) {T : List TR} (H : CT w A h hh t m T) (hT : TOk (bRw w m (12 * m + b)) (wC w (12 * m + b) 0) (wC w (12 * m + b) 1) (wC w (12 * m + b) 2) T) :
    match nxt1 (bRw w m (12 * m + b)) (wC w (12 * m + b) 0) (wC w (12 * m + b) 1) (wC w (12 * m + b) 2) T with
    | some T' => ∃ h' : AH, f_X8_advance t hh = some (iv 1, h') ∧ CT w A h h' t m T' ∧ Fr t hh h'
    | none => ∃ h' : AH, f_X8_advance t hh = some (iv 0, h') ∧ Sc w A h h' ∧ Fr t hh h' := by
  obtain ⟨c, gl, cl, T0, hH, hz, hgl, hc0, hc1, hc2⟩ := H
  obtain ⟨⟨gg1, gg2⟩, ⟨gc1, gc2⟩, -⟩ := hW.mat hl
  obtain ⟨e1, e2, e3, e4, e5, -, -⟩ := box_all hW hl b0 tb
  have hV := hW.box hl b0 tb
  have key := c_adv7 ht hl b0 tb hW rfl T0 hz hgl hc0 hc1 hc2 (wGr w m).toNat 0 (wC w (12 * m + b) 0) (wC w (12 * m + b) 1) (wC w (12 * m + b) 2) T (by omega) (by omega) hT (by rw [Int.mul_zero]; exact hH) hV.2.2.1 (by omega) (by omega) (by omega) FU (FU_gt (by omega))
  have top : ∀ r, lp b_X8_advance_7 (fun _ _ _ => none) FU t (iv (3 * (wGr w m - 1) + wCh w m - 1)) hh = some r → f_X8_advance t hh = some r := fun r hr => by
    obtain ⟨q1, -⟩ := ht.ok T0.2.1.F
    have pl0 := T0.2.2.1
    simp -implicitDefEqProofs (disch := omega) only [F_f_X8_advance, f_X8_advance_7, q1, pl0, hr, iv_add, iv_sub, iv_mul, iv_neg, iv_zero, iv_ltT, iv_ltF, iv_leT, iv_leF, iv_eqT, iv_eqF, iv_div, rm_iv, tn_iv, ib_iv, some_cb, some_cbv, ↓nm_eq, ↓reduceIte, true_and, and_true, Bool.true_eq_false, Bool.false_eq_true, not_false_eq_true, not_true_eq_false]
  show (match nxt1 (rwL w (12 * m + b) 0 (wGr w m).toNat) (wC w (12 * m + b) 0) (wC w (12 * m + b) 1) (wC w (12 * m + b) 2) T with | some T' => _ | none => _)
  cases hx1 : nxt1 (rwL w (12 * m + b) 0 (wGr w m).toNat) (wC w (12 * m + b) 0) (wC w (12 * m + b) 1) (wC w (12 * m + b) 2) T with
  | some T' =>
    rw [hx1] at key
    obtain ⟨h', f1, c', gl', cl', f2, f3, f4, f5, f6, f7, f8, f9, f10⟩ := key
    rw [Int.mul_zero] at f4
    exact ⟨h', top _ f1, ⟨c', gl', cl', f2, f4, f6, fun g g0 g1 => f7 g g0 g1, f8, f9, f10⟩, f3⟩
  | none =>
    rw [hx1] at key
    obtain ⟨h', f1, gl', cl', f2, f3, -⟩ := key
    refine ⟨h', top _ ?_, f2.1, f3⟩
    rw [f1]
    obtain ⟨N', hN'⟩ : ∃ N' : Nat, FU - (min (3 * (wGr w m - 1) + wCh w m) (3 * wGr w m) - min (3 * (wGr w m - 1) + wCh w m) (3 * 0)).toNat = N' + 1 := ⟨FU - (min (3 * (wGr w m - 1) + wCh w m) (3 * wGr w m) - min (3 * (wGr w m - 1) + wCh w m) (3 * 0)).toNat - 1, by have := FU_gt (n := 30) (by omega); omega⟩
    rw [hN', show min (3 * (wGr w m - 1) + wCh w m - 1) (3 * 0 - 1) = -1 by omega]
    simp -implicitDefEqProofs (disch := omega) only [lp_succ, F_b_X8_advance_7, zret0, iv_add, iv_sub, iv_mul, iv_neg, iv_zero, iv_ltT, iv_ltF, iv_leT, iv_leF, iv_eqT, iv_eqF, iv_div, rm_iv, tn_iv, ib_iv, some_cb, some_cbv, ↓nm_eq, ↓reduceIte, true_and, and_true, Bool.true_eq_false, Bool.false_eq_true, not_false_eq_true, not_true_eq_false]
/-- counts of what is left in the class's rows -/
def cn4 (gl cl : Int → Int) : Int := cn [gl 0, gl 1, gl 2, gl 3] (cl 0) (cl 1) (cl 2)
def sm4 (gl : Int → Int) : Int := gl 0 + gl 1 + gl 2 + gl 3
def sm3 (cl : Int → Int) : Int := cl 0 + cl 1 + cl 2
theorem sm4_uZ (gl : Int → Int) {g : Int} (g0 : 0 ≤ g) (g1 : g < 4) (v : Int) : sm4 (uZ gl g v) = sm4 gl - gl g + v := by
  unfold sm4
  rcases (show g = 0 ∨ g = 1 ∨ g = 2 ∨ g = 3 by omega) with e | e | e | e <;> subst e
  · rw [uZ_same, uZ_ne _ (by omega), uZ_ne _ (by omega), uZ_ne _ (by omega)]; omega
  · rw [uZ_same, uZ_ne _ (by omega), uZ_ne _ (by omega), uZ_ne _ (by omega)]; omega
  · rw [uZ_same, uZ_ne _ (by omega), uZ_ne _ (by omega), uZ_ne _ (by omega)]; omega
  · rw [uZ_same, uZ_ne _ (by omega), uZ_ne _ (by omega), uZ_ne _ (by omega)]; omega
theorem sm3_uZ (cl : Int → Int) {k : Int} (k0 : 0 ≤ k) (k1 : k < 3) (v : Int) : sm3 (uZ cl k v) = sm3 cl - cl k + v := by
  unfold sm3
  rcases (show k = 0 ∨ k = 1 ∨ k = 2 by omega) with e | e | e <;> subst e
  · rw [uZ_same, uZ_ne _ (by omega), uZ_ne _ (by omega)]; omega
  · rw [uZ_same, uZ_ne _ (by omega), uZ_ne _ (by omega)]; omega
  · rw [uZ_same, uZ_ne _ (by omega), uZ_ne _ (by omega)]; omega
def Bd (f : Int → Int) (n : Int) (lo hi : Int) : Prop := ∀ i : Int, 0 ≤ i → i < n → lo ≤ f i ∧ f i ≤ hi
theorem Bd.uZ {f : Int → Int} {n lo hi : Int} (H : Bd f n lo hi) {p v : Int} (h1 : lo ≤ v) (h2 : v ≤ hi) : Bd (uZ f p v) n lo hi := by
  intro i i0 i1
  by_cases e : i = p
  · subst e; rw [uZ_same]; exact ⟨h1, h2⟩
  · rw [uZ_ne _ e]; exact H i i0 i1
theorem Bd.wide {f : Int → Int} {n lo hi lo' hi' : Int} (H : Bd f n lo hi) (h1 : lo' ≤ lo) (h2 : hi ≤ hi') : Bd f n lo' hi' := fun i i0 i1 => ⟨by have := (H i i0 i1).1; omega, by have := (H i i0 i1).2; omega⟩
set_option maxRecDepth 100000 in
theorem c_waysT (ht : Tt t) (T : TS w A h hh t pl c gl cl) (b1 : Bd gl 4 (-2000) 1000) (b2 : Bd cl 3 (-2000) 1000) (hs : sm4 gl = sm3 cl) : f_X8_ways (t + 2) (t + 3) hh = some (jv (cn4 gl cl), hh) := by
  obtain ⟨q1, q2, q3, q4, ⟨q5, q6⟩, ⟨q7, q8⟩, q9, q10⟩ := ht.ok T.2.1.F
  obtain ⟨-, -, -, -, r2, r3⟩ := T
  exact c_ways ⟨q7, q8, q9, q10, r2 0 (by omega) (by omega), r2 1 (by omega) (by omega), r2 2 (by omega) (by omega), r2 3 (by omega) (by omega), r3 0 (by omega) (by omega), r3 1 (by omega) (by omega), r3 2 (by omega) (by omega)⟩ (b1 0 (by omega) (by omega)) (b1 1 (by omega) (by omega)) (b1 2 (by omega) (by omega)) (b1 3 (by omega) (by omega)) (b2 0 (by omega) (by omega)) (b2 1 (by omega) (by omega)) (b2 2 (by omega) (by omega)) hs
theorem uZ_back (f : Int → Int) (p v : Int) : uZ (uZ f p (f p - v)) p (f p - v - -v) = f := by
  rw [uZ_uZ]
  funext j
  by_cases e : j = p
  · rw [e, uZ_same]; omega
  · rw [uZ_ne _ e]
/-- how many go on with so many or more in a cell -/
def wfV (gl cl : Int → Int) (g k v : Int) : Int := if k = 1 then cn4 (uZ gl g (gl g - v)) (uZ cl 1 (cl 1 - v)) - cn4 (uZ gl g (gl g - v - 1)) (uZ (uZ cl 1 (cl 1 - v)) 0 (cl 0 - 1)) else cn4 (uZ gl g (gl g - v)) (uZ cl k (cl k - v))
set_option maxRecDepth 100000 in
theorem c_waysFrom (ht : Tt t) (T : TS w A h hh t pl c gl cl) {p g k v : Int} (p0 : 0 ≤ p) (p1 : p < 12) (hg : p / 3 = g) (hk : p % 3 = k) (k1 : k ≤ 1) (v0 : 0 ≤ v) (v1 : v ≤ 300) (b1 : Bd gl 4 0 300) (b2 : Bd cl 3 0 300) (hs : sm4 gl = sm3 cl) : ∃ h' : AH, f_X8_waysFrom t (iv p) (iv v) hh = some (jv (wfV gl cl g k v), h') ∧ TS w A h h' t pl c gl cl ∧ Fr t hh h' := by
  obtain ⟨q1, q2, q3, q4, -⟩ := ht.ok T.2.1.F
  obtain ⟨h1, f1, T1, F1⟩ := c_set ht T v p0 p1 hg hk
  obtain ⟨a1, a2, a3, a4, -⟩ := ht.ok T1.2.1.F
  have bg := b1 g (by omega) (by omega)
  have bk := b2 k (by omega) (by omega)
  have w1 := c_waysT ht T1 (Bd.uZ (b1.wide (by omega) (by omega)) (by omega) (by omega)) (Bd.uZ (b2.wide (by omega) (by omega)) (by omega) (by omega)) (by rw [sm4_uZ _ (by omega) (by omega), sm3_uZ _ (by omega) (by omega), hs]; omega)
  have gs : uZ gl g (gl g - v) g = gl g - v := uZ_same _ _ _
  by_cases z : k = 1
  · subst z
    have b0 := b2 0 (by omega) (by omega)
    obtain ⟨h2, f2, T2, F2⟩ := c_set ht T1 (p := p - 1) (g := g) (k := 0) 1 (by omega) (by omega) (by omega) (by omega)
    rw [gs, uZ_uZ, uZ_ne _ (show (0 : Int) ≠ 1 by omega)] at T2
    obtain ⟨a5, a6, a7, a8, -⟩ := ht.ok T2.2.1.F
    have w2 := c_waysT ht T2 (Bd.uZ (b1.wide (by omega) (by omega)) (by omega) (by omega)) (Bd.uZ (Bd.uZ (b2.wide (by omega) (by omega)) (by omega) (by omega)) (by omega) (by omega)) (by rw [sm4_uZ _ (by omega) (by omega), sm3_uZ _ (by omega) (by omega), sm3_uZ _ (by omega) (by omega), uZ_ne _ (show (0 : Int) ≠ 1 by omega), hs]; omega)
    obtain ⟨h3, f3, T3, F3⟩ := c_set ht T2 (p := p - 1) (g := g) (k := 0) (-1) (by omega) (by omega) (by omega) (by omega)
    rw [uZ_same, uZ_same, uZ_uZ, uZ_uZ, show gl g - v - 1 - -1 = gl g - v by omega, show cl 0 - 1 - -1 = cl 0 by omega] at T3
    have c0 : uZ (uZ cl 1 (cl 1 - v)) 0 (cl 0) = uZ cl 1 (cl 1 - v) := by
      funext j
      by_cases e : j = 0
      · rw [e, uZ_same, uZ_ne _ (by omega)]
      · rw [uZ_ne _ e]
    rw [c0] at T3
    have a9 := (ht.ok T3.2.1.F).1
    obtain ⟨h4, f4, T4, F4⟩ := c_set ht T3 (-v) p0 p1 hg hk
    rw [gs, show uZ cl 1 (cl 1 - v) 1 = cl 1 - v from uZ_same _ _ _, uZ_back, uZ_back] at T4
    refine ⟨h4, ?_, T4, ((F1.tr F2).tr F3).tr F4⟩
    unfold wfV
    rw [if_pos rfl]
    simp -implicitDefEqProofs (disch := omega) only [k_X8_waysFrom_55_1, F_f_X8_waysFrom_55, k_X8_waysFrom_1, k_X8_waysFrom_2, k_X8_waysFrom_3, k_X8_waysFrom_4, k_X8_waysFrom_5, F_f_X8_waysFrom, q1, a1, a3, a4, a5, a7, a8, a9, f1, f2, f3, f4, w1, w2, hk, jv_sub, iv_add, iv_sub, iv_mul, iv_neg, iv_zero, iv_ltT, iv_ltF, iv_leT, iv_leF, iv_eqT, iv_eqF, iv_div, rm_iv, tn_iv, ib_iv, some_cb, some_cbv, ↓nm_eq, ↓reduceIte, true_and, and_true, Bool.true_eq_false, Bool.false_eq_true, not_false_eq_true, not_true_eq_false]
  · obtain ⟨h4, f4, T4, F4⟩ := c_set ht T1 (-v) p0 p1 hg hk
    rw [gs, show uZ cl k (cl k - v) k = cl k - v from uZ_same _ _ _, uZ_back, uZ_back] at T4
    refine ⟨h4, ?_, T4, F1.tr F4⟩
    unfold wfV
    rw [if_neg z]
    simp -implicitDefEqProofs (disch := omega) only [k_X8_waysFrom_55_1, F_f_X8_waysFrom_55, k_X8_waysFrom_1, k_X8_waysFrom_2, k_X8_waysFrom_3, k_X8_waysFrom_4, k_X8_waysFrom_5, F_f_X8_waysFrom, q1, a1, a3, a4, f1, f4, w1, hk, iv_add, iv_sub, iv_mul, iv_neg, iv_zero, iv_ltT, iv_ltF, iv_leT, iv_leF, iv_eqT, iv_eqF, iv_div, rm_iv, tn_iv, ib_iv, some_cb, some_cbv, ↓nm_eq, ↓reduceIte, true_and, and_true, Bool.true_eq_false, Bool.false_eq_true, not_false_eq_true, not_true_eq_false]
end Q
