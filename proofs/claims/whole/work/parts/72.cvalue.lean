theorem c4_row {gl : Int → Int} {g R : Int} {rs : List Int} (g0 : 0 ≤ g) (hg : g + 1 + (rs.length : Int) ≤ 4) (hz : ∀ i : Int, 0 ≤ i → i < g → gl i = 0) (hG : GL gl (g + 1) rs) (ht : ∀ i : Int, g + 1 + (rs.length : Int) ≤ i → i < 4 → gl i = 0) (a b c : Int) : cn [uZ gl g R 0, uZ gl g R 1, uZ gl g R 2, uZ gl g R 3] a b c = cn (R :: rs) a b c := by
  have g4 : g = 0 ∨ g = 1 ∨ g = 2 ∨ g = 3 := by omega
  match rs, hg, hG, ht with
  | [], hg, hG, ht =>
    have hg : g + 1 + ((0 : Nat) : Int) ≤ 4 := hg
    have ht : ∀ i : Int, g + 1 + ((0 : Nat) : Int) ≤ i → i < 4 → gl i = 0 := ht
    rcases (show g = 0 ∨ g = 1 ∨ g = 2 ∨ g = 3 by omega) with e | e | e | e
    · subst e
      have e0 : uZ gl 0 R 0 = R := uZ_same _ _ _
      have e1 : uZ gl 0 R 1 = 0 := (by rw [uZ_ne _ (by omega)]; exact ht 1 (by omega) (by omega))
      have e2 : uZ gl 0 R 2 = 0 := (by rw [uZ_ne _ (by omega)]; exact ht 2 (by omega) (by omega))
      have e3 : uZ gl 0 R 3 = 0 := (by rw [uZ_ne _ (by omega)]; exact ht 3 (by omega) (by omega))
      rw [e0, e1, e2, e3]
      exact (cn_tail [R] (t := [0, 0, 0]) (t' := []) (fun a b c => (cn_lead rfl _ _ _ _).trans ((cn_lead rfl _ _ _ _).trans (cn_zero a b c))) a b c)
    · subst e
      have e0 : uZ gl 1 R 0 = 0 := (by rw [uZ_ne _ (by omega)]; exact hz 0 (by omega) (by omega))
      have e1 : uZ gl 1 R 1 = R := uZ_same _ _ _
      have e2 : uZ gl 1 R 2 = 0 := (by rw [uZ_ne _ (by omega)]; exact ht 2 (by omega) (by omega))
      have e3 : uZ gl 1 R 3 = 0 := (by rw [uZ_ne _ (by omega)]; exact ht 3 (by omega) (by omega))
      rw [e0, e1, e2, e3]
      exact ((cn_lead rfl _ _ _ _).trans (cn_tail [R] (t := [0, 0]) (t' := []) (fun a b c => (cn_lead rfl _ _ _ _).trans (cn_zero a b c)) a b c))
    · subst e
      have e0 : uZ gl 2 R 0 = 0 := (by rw [uZ_ne _ (by omega)]; exact hz 0 (by omega) (by omega))
      have e1 : uZ gl 2 R 1 = 0 := (by rw [uZ_ne _ (by omega)]; exact hz 1 (by omega) (by omega))
      have e2 : uZ gl 2 R 2 = R := uZ_same _ _ _
      have e3 : uZ gl 2 R 3 = 0 := (by rw [uZ_ne _ (by omega)]; exact ht 3 (by omega) (by omega))
      rw [e0, e1, e2, e3]
      exact ((cn_lead rfl _ _ _ _).trans ((cn_lead rfl _ _ _ _).trans (cn_tail [R] (t := [0]) (t' := []) (fun a b c => cn_zero a b c) a b c)))
    · subst e
      have e0 : uZ gl 3 R 0 = 0 := (by rw [uZ_ne _ (by omega)]; exact hz 0 (by omega) (by omega))
      have e1 : uZ gl 3 R 1 = 0 := (by rw [uZ_ne _ (by omega)]; exact hz 1 (by omega) (by omega))
      have e2 : uZ gl 3 R 2 = 0 := (by rw [uZ_ne _ (by omega)]; exact hz 2 (by omega) (by omega))
      have e3 : uZ gl 3 R 3 = R := uZ_same _ _ _
      rw [e0, e1, e2, e3]
      exact ((cn_lead rfl _ _ _ _).trans ((cn_lead rfl _ _ _ _).trans ((cn_lead rfl _ _ _ _).trans rfl)))
  | [x1], hg, hG, ht =>
    have hg : g + 1 + ((1 : Nat) : Int) ≤ 4 := hg
    have ht : ∀ i : Int, g + 1 + ((1 : Nat) : Int) ≤ i → i < 4 → gl i = 0 := ht
    rcases (show g = 0 ∨ g = 1 ∨ g = 2 by omega) with e | e | e
    · subst e
      have e0 : uZ gl 0 R 0 = R := uZ_same _ _ _
      have e1 : uZ gl 0 R 1 = x1 := (by rw [uZ_ne _ (by omega)]; exact hG.1)
      have e2 : uZ gl 0 R 2 = 0 := (by rw [uZ_ne _ (by omega)]; exact ht 2 (by omega) (by omega))
      have e3 : uZ gl 0 R 3 = 0 := (by rw [uZ_ne _ (by omega)]; exact ht 3 (by omega) (by omega))
      rw [e0, e1, e2, e3]
      exact (cn_tail [R, x1] (t := [0, 0]) (t' := []) (fun a b c => (cn_lead rfl _ _ _ _).trans (cn_zero a b c)) a b c)
    · subst e
      have e0 : uZ gl 1 R 0 = 0 := (by rw [uZ_ne _ (by omega)]; exact hz 0 (by omega) (by omega))
      have e1 : uZ gl 1 R 1 = R := uZ_same _ _ _
      have e2 : uZ gl 1 R 2 = x1 := (by rw [uZ_ne _ (by omega)]; exact hG.1)
      have e3 : uZ gl 1 R 3 = 0 := (by rw [uZ_ne _ (by omega)]; exact ht 3 (by omega) (by omega))
      rw [e0, e1, e2, e3]
      exact ((cn_lead rfl _ _ _ _).trans (cn_tail [R, x1] (t := [0]) (t' := []) (fun a b c => cn_zero a b c) a b c))
    · subst e
      have e0 : uZ gl 2 R 0 = 0 := (by rw [uZ_ne _ (by omega)]; exact hz 0 (by omega) (by omega))
      have e1 : uZ gl 2 R 1 = 0 := (by rw [uZ_ne _ (by omega)]; exact hz 1 (by omega) (by omega))
      have e2 : uZ gl 2 R 2 = R := uZ_same _ _ _
      have e3 : uZ gl 2 R 3 = x1 := (by rw [uZ_ne _ (by omega)]; exact hG.1)
      rw [e0, e1, e2, e3]
      exact ((cn_lead rfl _ _ _ _).trans ((cn_lead rfl _ _ _ _).trans rfl))
  | [x1, x2], hg, hG, ht =>
    have hg : g + 1 + ((2 : Nat) : Int) ≤ 4 := hg
    have ht : ∀ i : Int, g + 1 + ((2 : Nat) : Int) ≤ i → i < 4 → gl i = 0 := ht
    rcases (show g = 0 ∨ g = 1 by omega) with e | e
    · subst e
      have e0 : uZ gl 0 R 0 = R := uZ_same _ _ _
      have e1 : uZ gl 0 R 1 = x1 := (by rw [uZ_ne _ (by omega)]; exact hG.1)
      have e2 : uZ gl 0 R 2 = x2 := (by rw [uZ_ne _ (by omega)]; exact hG.2.1)
      have e3 : uZ gl 0 R 3 = 0 := (by rw [uZ_ne _ (by omega)]; exact ht 3 (by omega) (by omega))
      rw [e0, e1, e2, e3]
      exact (cn_tail [R, x1, x2] (t := [0]) (t' := []) (fun a b c => cn_zero a b c) a b c)
    · subst e
      have e0 : uZ gl 1 R 0 = 0 := (by rw [uZ_ne _ (by omega)]; exact hz 0 (by omega) (by omega))
      have e1 : uZ gl 1 R 1 = R := uZ_same _ _ _
      have e2 : uZ gl 1 R 2 = x1 := (by rw [uZ_ne _ (by omega)]; exact hG.1)
      have e3 : uZ gl 1 R 3 = x2 := (by rw [uZ_ne _ (by omega)]; exact hG.2.1)
      rw [e0, e1, e2, e3]
      exact ((cn_lead rfl _ _ _ _).trans rfl)
  | [x1, x2, x3], hg, hG, ht =>
    have hg : g + 1 + ((3 : Nat) : Int) ≤ 4 := hg
    have ht : ∀ i : Int, g + 1 + ((3 : Nat) : Int) ≤ i → i < 4 → gl i = 0 := ht
    rcases (show g = 0 by omega) with e
    · subst e
      have e0 : uZ gl 0 R 0 = R := uZ_same _ _ _
      have e1 : uZ gl 0 R 1 = x1 := (by rw [uZ_ne _ (by omega)]; exact hG.1)
      have e2 : uZ gl 0 R 2 = x2 := (by rw [uZ_ne _ (by omega)]; exact hG.2.1)
      have e3 : uZ gl 0 R 3 = x3 := (by rw [uZ_ne _ (by omega)]; exact hG.2.2.1)
      rw [e0, e1, e2, e3]
  | x1 :: x2 :: x3 :: x4 :: xs, hg, hG, ht =>
    have hg : g + 1 + (((x1 :: x2 :: x3 :: x4 :: xs).length : Nat) : Int) ≤ 4 := hg
    rw [List.length_cons, List.length_cons, List.length_cons, List.length_cons] at hg
    omega
theorem cn_from0 (rs : List Int) (r a b c v : Int) : cn ((r - v) :: rs) (a - v) b c = Sr (fun p => tbW rs r a b c p) v r := by
  have t := Sr_shift (fun p => tbW rs r a b c p) v 0 (r - v)
  rw [show (0 : Int) + v = v by omega, show r - v + v = r by omega] at t
  rw [← t, cn_cons]
  refine Sr_congr (fun p _ _ => ?_)
  show _ = Sr (fun q => tbV rs r a b c (p + v) q) 0 (r - (p + v))
  rw [show r - (p + v) = r - v - p by omega]
  refine Sr_congr (fun q _ _ => ?_)
  show cn rs _ _ _ = cn rs _ _ _
  rw [show a - v - p = a - (p + v) by omega, show c - (r - v - p - q) = c - (r - (p + v) - q) by omega]
theorem cn_from1 (rs : List Int) {r a b c v : Int} : cn ((r - v) :: rs) a (b - v) c - cn ((r - v - 1) :: rs) (a - 1) (b - v) c = Sr (fun q => cn rs a (b - q) (c - (r - q))) v r := by
  by_cases h : r - v < 0
  · rw [cn_cons, cn_cons, Sr_none (by omega), Sr_none (by omega), Sr_none (by omega)]; rfl
  · have e1 : cn ((r - v) :: rs) a (b - v) c = Sr (fun q => cn rs (a - 0) (b - v - q) (c - (r - v - 0 - q))) 0 (r - v - 0) + Sr (fun p => Sr (fun q => cn rs (a - p) (b - v - q) (c - (r - v - p - q))) 0 (r - v - p)) 1 (r - v) := by
      rw [cn_cons]; exact Sr_first (by omega)
    have t := Sr_shift (fun p => Sr (fun q => cn rs (a - p) (b - v - q) (c - (r - v - p - q))) 0 (r - v - p)) 1 0 (r - v - 1)
    rw [show (0 : Int) + 1 = 1 by omega, show r - v - 1 + 1 = r - v by omega] at t
    have e2 : cn ((r - v - 1) :: rs) (a - 1) (b - v) c = Sr (fun p => Sr (fun q => cn rs (a - p) (b - v - q) (c - (r - v - p - q))) 0 (r - v - p)) 1 (r - v) := by
      rw [← t, cn_cons]
      refine Sr_congr (fun p _ _ => ?_)
      show _ = Sr (fun q => cn rs (a - (p + 1)) (b - v - q) (c - (r - v - (p + 1) - q))) 0 (r - v - (p + 1))
      rw [show r - v - (p + 1) = r - v - 1 - p by omega]
      refine Sr_congr (fun q _ _ => ?_)
      rw [show a - 1 - p = a - (p + 1) by omega]
    have u := Sr_shift (fun q => cn rs a (b - q) (c - (r - q))) v 0 (r - v)
    rw [show (0 : Int) + v = v by omega, show r - v + v = r by omega] at u
    have e3 : Sr (fun q => cn rs (a - 0) (b - v - q) (c - (r - v - 0 - q))) 0 (r - v - 0) = Sr (fun q => cn rs a (b - q) (c - (r - q))) v r := by
      rw [← u, show r - v - 0 = r - v by omega]
      refine Sr_congr (fun q _ _ => ?_)
      show cn rs _ _ _ = cn rs a (b - (q + v)) (c - (r - (q + v)))
      rw [Int.sub_zero, show b - v - q = b - (q + v) by omega, show r - v - q = r - (q + v) by omega]
    rw [e1, e2, e3]
    omega
section Q
variable {w : WD} {A : Int → Nat} {h hh : AH} {t : Nat} {pl : Int} {c gl cl : Int → Int}
/- what is found by halving -/
set_option maxRecDepth 100000 in
theorem c_value25 (ht : Tt t) {p g k : Int} (p0 : 0 ≤ p) (p1 : p < 12) (hg : p / 3 = g) (hk : p % 3 = k) (k1 : k ≤ 1) (b1 : Bd gl 4 0 300) (b2 : Bd cl 3 0 300) (hs : sm4 gl = sm3 cl) (F : Int → Int) (hi : Int) (hi1 : hi ≤ 300) (hF : ∀ v : Int, 0 ≤ v → v ≤ 300 → wfV gl cl g k v = Sr F v hi) (nn : ∀ v : Int, 0 ≤ v → v ≤ hi → 0 ≤ F v) {i : Int} (hT : Sr F 0 hi ≤ 1000000000000) (i0 : 0 ≤ i) (i1 : i < Sr F 0 hi) : ∀ (n N : Nat), n < N → ∀ (hh : AH) (lo up : Int), TS w A h hh t pl c gl cl → 0 ≤ lo → lo ≤ up → up - lo ≤ n → up ≤ hi → Sr F 0 (lo - 1) ≤ i → i < Sr F 0 up → ∃ (h' : AH) (j : Int), lp b_X8_valueAt_25 (fun _ _ _ _ _ _ _ => none) N t (iv p) (jv i) (iv lo) (iv up) (jv (Sr F 0 hi)) hh = some (iv j, h') ∧ TS w A h h' t pl c gl cl ∧ Fr t hh h' ∧ 0 ≤ j ∧ j ≤ up ∧ Sr F 0 (j - 1) ≤ i ∧ i < Sr F 0 (j - 1) + F j := by
  intro n
  induction n with
  | zero =>
    intro N hN; obtain ⟨N, rfl⟩ : ∃ N', N = N' + 1 := ⟨N - 1, (by omega)⟩
    intro hh lo up T l0 lu hn uh h1 h2
    have e : lo = up := (by omega)
    subst e
    refine ⟨hh, lo, by simp -implicitDefEqProofs (disch := omega) only [lp_succ, F_b_X8_valueAt_25, iv_add, iv_sub, iv_mul, iv_neg, iv_zero, iv_ltT, iv_ltF, iv_leT, iv_leF, iv_eqT, iv_eqF, iv_div, rm_iv, tn_iv, ib_iv, some_cb, some_cbv, ↓nm_eq, ↓reduceIte, true_and, and_true, Bool.true_eq_false, Bool.false_eq_true, not_false_eq_true, not_true_eq_false], T, Fr.rf t hh, l0, by omega, h1, ?_⟩
    rw [← Sr_last (by omega)]; exact h2
  | succ n ih =>
    intro N hN; obtain ⟨N, rfl⟩ : ∃ N', N = N' + 1 := ⟨N - 1, (by omega)⟩
    intro hh lo up T l0 lu hn uh h1 h2
    by_cases e : lo = up
    · subst e
      refine ⟨hh, lo, by simp -implicitDefEqProofs (disch := omega) only [lp_succ, F_b_X8_valueAt_25, iv_add, iv_sub, iv_mul, iv_neg, iv_zero, iv_ltT, iv_ltF, iv_leT, iv_leF, iv_eqT, iv_eqF, iv_div, rm_iv, tn_iv, ib_iv, some_cb, some_cbv, ↓nm_eq, ↓reduceIte, true_and, and_true, Bool.true_eq_false, Bool.false_eq_true, not_false_eq_true, not_true_eq_false], T, Fr.rf t hh, l0, by omega, h1, ?_⟩
      rw [← Sr_last (by omega)]; exact h2
    · obtain ⟨md, hmd⟩ : ∃ md, (lo + up + 1) / 2 = md := ⟨_, rfl⟩
      have m1 : lo < md ∧ md ≤ up := (by omega)
      obtain ⟨h1', f1, T1, F1⟩ := c_waysFrom ht T p0 p1 hg hk k1 (v := md) (by omega) (by omega) b1 b2 hs
      rw [hF md (by omega) (by omega)] at f1
      have q1 := (ht.ok T.2.1.F).1
      have sp : Sr F 0 hi = Sr F 0 (md - 1) + Sr F (md - 1 + 1) hi := Sr_split (by omega) (by omega)
      rw [show md - 1 + 1 = md by omega] at sp
      have s0 : 0 ≤ Sr F 0 (md - 1) := Sr_nonneg (fun v v0 v1 => nn v v0 (by omega))
      have s1 : 0 ≤ Sr F md hi := Sr_nonneg (fun v v0 v1 => nn v (by omega) v1)
      have e3 : Sr F 0 hi - Sr F md hi = Sr F 0 (md - 1) := (by omega)
      by_cases z : Sr F 0 (md - 1) ≤ i
      · obtain ⟨h', j, g1, g2, g3, g4, g5⟩ := ih N (by omega) h1' md up T1 (by omega) (by omega) (by omega) uh z h2
        refine ⟨h', j, ?_, g2, F1.tr g3, g4, g5⟩
        rw [← g1]
        simp -implicitDefEqProofs (disch := omega) only [lp_succ, F_b_X8_valueAt_25, k_X8_valueAt_25_1, hmd, q1, f1, e3, iv_add, iv_sub, iv_mul, iv_neg, iv_zero, iv_ltT, iv_ltF, iv_leT, iv_leF, iv_eqT, iv_eqF, iv_div, rm_iv, tn_iv, ib_iv, lc_lt, lc_le, lc_gt, lc_ge, lc_eq, iv_l, jv_add, jv_sub, jv_mul, jv_zero, if_pos, if_neg, some_cb, some_cbv, ↓nm_eq, ↓reduceIte, true_and, and_true, Bool.true_eq_false, Bool.false_eq_true, not_false_eq_true, not_true_eq_false]
      · obtain ⟨h', j, g1, g2, g3, g4, g5, g6⟩ := ih N (by omega) h1' lo (md - 1) T1 l0 (by omega) (by omega) (by omega) h1 (by omega)
        refine ⟨h', j, ?_, g2, F1.tr g3, g4, by omega, g6⟩
        rw [← g1]
        simp -implicitDefEqProofs (disch := omega) only [lp_succ, F_b_X8_valueAt_25, k_X8_valueAt_25_1, hmd, q1, f1, e3, iv_add, iv_sub, iv_mul, iv_neg, iv_zero, iv_ltT, iv_ltF, iv_leT, iv_leF, iv_eqT, iv_eqF, iv_div, rm_iv, tn_iv, ib_iv, lc_lt, lc_le, lc_gt, lc_ge, lc_eq, iv_l, jv_add, jv_sub, jv_mul, jv_zero, if_pos, if_neg, some_cb, some_cbv, ↓nm_eq, ↓reduceIte, true_and, and_true, Bool.true_eq_false, Bool.false_eq_true, not_false_eq_true, not_true_eq_false]
set_option maxRecDepth 100000 in
theorem c_valueAt (ht : Tt t) (T : TS w A h hh t pl c gl cl) {p g k : Int} (p0 : 0 ≤ p) (p1 : p < 12) (hg : p / 3 = g) (hk : p % 3 = k) (k1 : k ≤ 1) (b1 : Bd gl 4 0 300) (b2 : Bd cl 3 0 300) (hs : sm4 gl = sm3 cl) (F : Int → Int) (hi : Int) (hi1 : hi ≤ 300) (hF : ∀ v : Int, 0 ≤ v → v ≤ 300 → wfV gl cl g k v = Sr F v hi) (nn : ∀ v : Int, 0 ≤ v → v ≤ hi → 0 ≤ F v) {i : Int} (hT : Sr F 0 hi ≤ 1000000000000) (i0 : 0 ≤ i) (i1 : i < Sr F 0 hi) (hr : min (gl g) (cl k) ≤ hi) (hz : ∀ v : Int, min (gl g) (cl k) < v → v ≤ hi → F v = 0) : ∃ (h' : AH) (j : Int), f_X8_valueAt t (iv p) (jv i) hh = some (iv j, h') ∧ TS w A h h' t pl c gl cl ∧ Fr t hh h' ∧ 0 ≤ j ∧ j ≤ min (gl g) (cl k) ∧ Sr F 0 (j - 1) ≤ i ∧ i < Sr F 0 (j - 1) + F j := by
  have q1 := (ht.ok T.2.1.F).1
  have bg := b1 g (by omega) (by omega)
  have bk := b2 k (by omega) (by omega)
  have hroom := c_room ht T p0 p1 hg hk (by omega) (by omega)
  have e0 : Sr F 0 hi = Sr F 0 (min (gl g) (cl k)) := Sr_wide (by omega) hr (fun _ _ _ => rfl) (fun v v0 v1 v2 => hz v (by omega) v1)
  obtain ⟨ρ, hρ⟩ : ∃ ρ, min (gl g) (cl k) = ρ := ⟨_, rfl⟩
  rw [hρ] at hroom e0 hr ⊢
  by_cases z : ρ = 0
  · have e1 : Sr F 0 ρ = F 0 := by rw [z, Sr_first (by omega), Sr_none (by omega)]; omega
    refine ⟨hh, 0, by simp -implicitDefEqProofs (disch := omega) only [k_X8_valueAt_1, k_X8_valueAt_2, F_f_X8_valueAt, q1, hroom, z, iv_add, iv_sub, iv_mul, iv_neg, iv_zero, iv_ltT, iv_ltF, iv_leT, iv_leF, iv_eqT, iv_eqF, iv_div, rm_iv, tn_iv, ib_iv, some_cb, some_cbv, ↓nm_eq, ↓reduceIte, true_and, and_true, Bool.true_eq_false, Bool.false_eq_true, not_false_eq_true, not_true_eq_false], T, Fr.rf t hh, by omega, by omega, ?_, ?_⟩
    · rw [Sr_none (by omega)]; exact i0
    · rw [Sr_none (by omega)]; omega
  · obtain ⟨h1, f1, T1, F1⟩ := c_waysFrom ht T p0 p1 hg hk k1 (v := 0) (by omega) (by omega) b1 b2 hs
    rw [hF 0 (by omega) (by omega)] at f1
    obtain ⟨h', j, g1, g2, g3, g4, g5, g6⟩ := c_value25 ht p0 p1 hg hk k1 b1 b2 hs F hi hi1 hF nn hT i0 i1 ρ.toNat FU (FU_gt (by omega)) h1 0 ρ T1 (by omega) (by omega) (by omega) hr (by rw [Sr_none (by omega)]; exact i0) (by omega)
    refine ⟨h', j, ?_, g2, F1.tr g3, g4, g5, g6⟩
    rw [← g1]
    simp -implicitDefEqProofs (disch := omega) only [k_X8_valueAt_1, k_X8_valueAt_2, F_f_X8_valueAt, f_X8_valueAt_25, q1, hroom, f1, iv_add, iv_sub, iv_mul, iv_neg, iv_zero, iv_ltT, iv_ltF, iv_leT, iv_leF, iv_eqT, iv_eqF, iv_div, rm_iv, tn_iv, ib_iv, some_cb, some_cbv, ↓nm_eq, ↓reduceIte, true_and, and_true, Bool.true_eq_false, Bool.false_eq_true, not_false_eq_true, not_true_eq_false]
end Q
