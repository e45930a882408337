section Q
variable {w : WD} {A : Int → Nat} {h hh : AH} {t : Nat}
/-- a group's sum less, in the class's rows and in the list -/
theorem red_rows (hW : WI w) {m x : Int} (hl : lvM w m) {g : Int} (g0 : 0 ≤ g) (cg : g < wGr w m) (v a b c : Int) : cn [uZ (fun g => wP w m x g) g (wP w m x g - v) 0, uZ (fun g => wP w m x g) g (wP w m x g - v) 1, uZ (fun g => wP w m x g) g (wP w m x g - v) 2, uZ (fun g => wP w m x g) g (wP w m x g - v) 3] a b c = cn (red (bRw w m x) g.toNat v) a b c := by
  obtain ⟨⟨g1, g2⟩, -⟩ := hW.mat hl
  have pp : ∀ i : Int, i < wGr w m → wP w m x i = wG w x i := fun i hi => if_pos hi
  have pz : ∀ i : Int, wGr w m ≤ i → wP w m x i = 0 := fun i hi => if_neg (by omega)
  have e : ∀ i : Int, uZ (fun g => wP w m x g) g (wP w m x g - v) i = if i = g then wP w m x g - v else wP w m x i := fun i => rfl
  rw [e, e, e, e]
  unfold bRw
  rcases (show wGr w m = 2 ∨ wGr w m = 3 ∨ wGr w m = 4 by omega) with z | z | z
  · rw [pz 2 (by omega), pz 3 (by omega), z, pp 0 (by omega), pp 1 (by omega), pp g (by omega)]
    rcases (show g = 0 ∨ g = 1 by omega) with y | y
    · subst y
      rw [if_pos rfl, if_neg (by omega), if_neg (by omega), if_neg (by omega)]
      exact cn_tail [wG w x 0 - v, wG w x 1] (t := [0, 0]) (t' := []) (fun a b c => (cn_lead rfl _ _ _ _).trans (cn_zero a b c)) a b c
    · subst y
      rw [if_neg (by omega), if_pos rfl, if_neg (by omega), if_neg (by omega)]
      exact cn_tail [wG w x 0, wG w x 1 - v] (t := [0, 0]) (t' := []) (fun a b c => (cn_lead rfl _ _ _ _).trans (cn_zero a b c)) a b c
  · rw [pz 3 (by omega), z, pp 0 (by omega), pp 1 (by omega), pp 2 (by omega), pp g (by omega)]
    rcases (show g = 0 ∨ g = 1 ∨ g = 2 by omega) with y | y | y
    · subst y
      rw [if_pos rfl, if_neg (by omega), if_neg (by omega), if_neg (by omega)]
      exact cn_tail [wG w x 0 - v, wG w x 1, wG w x 2] (t := [0]) (t' := []) (fun a b c => cn_zero a b c) a b c
    · subst y
      rw [if_neg (by omega), if_pos rfl, if_neg (by omega), if_neg (by omega)]
      exact cn_tail [wG w x 0, wG w x 1 - v, wG w x 2] (t := [0]) (t' := []) (fun a b c => cn_zero a b c) a b c
    · subst y
      rw [if_neg (by omega), if_neg (by omega), if_pos rfl, if_neg (by omega)]
      exact cn_tail [wG w x 0, wG w x 1, wG w x 2 - v] (t := [0]) (t' := []) (fun a b c => cn_zero a b c) a b c
  · rw [z, pp 0 (by omega), pp 1 (by omega), pp 2 (by omega), pp 3 (by omega), pp g (by omega)]
    rcases (show g = 0 ∨ g = 1 ∨ g = 2 ∨ g = 3 by omega) with y | y | y | y
    · subst y
      rw [if_pos rfl, if_neg (by omega), if_neg (by omega), if_neg (by omega)]
      rfl
    · subst y
      rw [if_neg (by omega), if_pos rfl, if_neg (by omega), if_neg (by omega)]
      rfl
    · subst y
      rw [if_neg (by omega), if_neg (by omega), if_pos rfl, if_neg (by omega)]
      rfl
    · subst y
      rw [if_neg (by omega), if_neg (by omega), if_neg (by omega), if_pos rfl]
      rfl
/-- tables with so many or more in a cell -/
def cntV (w : WD) (m x g k v : Int) : Nat := (bTb w m x).countP (fun T => decide (v ≤ tcl T g.toNat k))
set_option maxRecDepth 100000 in
theorem c_waysWith (hS : Sim w A h) {m b g k v : Int} (hl : lvM w m) (b0 : 0 ≤ b) (tb : b < wBx w m) (g0 : 0 ≤ g) (cg : g < wGr w m) (k0 : 0 ≤ k) (ck : k < wCh w m) (v0 : 0 ≤ v) (v1 : v ≤ 999) : CSm w A (f_X8_waysWith 12 (A (10 + (12 * m + b))) (iv (3 * g + k)) (iv v)) h (jv (cntV w m (12 * m + b) g k v)) := by
  obtain ⟨⟨gg1, gg2⟩, ⟨gc1, gc2⟩, -⟩ := hS.W.mat hl
  have ht : Tt 12 := Or.inl rfl
  obtain ⟨h1, c1, f1, T1, -, -⟩ := c_empty hS (Sc.rf hS) ht hl b0 tb
  have hV := hS.W.box hl b0 tb
  obtain ⟨h2, f2, T2, -⟩ := c_set ht T1 (p := 3 * g + k) (g := g) (k := k) v (by omega) (by omega) (by omega) (by omega)
  have bP : Bd (fun g => wP w m (12 * m + b) g) 4 0 300 := fun i i0 i1 => by
    have := oB_v hV i0 i1
    show 0 ≤ wP w m (12 * m + b) i ∧ wP w m (12 * m + b) i ≤ 300
    omega
  have bC : Bd (fun k => wC w (12 * m + b) k) 3 0 300 := fun i i0 i1 => by
    have := oB_c hV i0 i1
    show 0 ≤ wC w (12 * m + b) i ∧ wC w (12 * m + b) i ≤ 300
    omega
  have hsm : sm4 (fun g => wP w m (12 * m + b) g) = sm3 (fun k => wC w (12 * m + b) k) := by
    have v1 := hV.2.2.2.1
    have v2 := hV.2.2.2.2.1
    show wP w m (12 * m + b) 0 + wP w m (12 * m + b) 1 + wP w m (12 * m + b) 2 + wP w m (12 * m + b) 3 = wC w (12 * m + b) 0 + wC w (12 * m + b) 1 + wC w (12 * m + b) 2
    omega
  have p1 : 0 ≤ wP w m (12 * m + b) g ∧ wP w m (12 * m + b) g ≤ 300 := bP g g0 (by omega)
  have p2 : 0 ≤ wC w (12 * m + b) k ∧ wC w (12 * m + b) k ≤ 300 := bC k k0 (by omega)
  have w1 := c_waysT ht T2 (Bd.uZ (bP.wide (by omega) (by omega)) (by omega) (by omega)) (Bd.uZ (bC.wide (by omega) (by omega)) (by omega) (by omega)) (by rw [sm4_uZ _ g0 (by omega), sm3_uZ _ k0 (by omega), hsm]; omega)
  have e : cn4 (uZ (fun g => wP w m (12 * m + b) g) g (wP w m (12 * m + b) g - v)) (uZ (fun k => wC w (12 * m + b) k) k (wC w (12 * m + b) k - v)) = (cntV w m (12 * m + b) g k v : Int) := by
    unfold cn4 cntV bTb
    rw [red_rows hS.W hl g0 cg, Tb_cnt _ _ _ _ _ _ _ (by unfold bRw; rw [rwL_len]; omega) v0 k0 (by omega)]
    rcases (show k = 0 ∨ k = 1 ∨ k = 2 by omega) with z | z | z
    · subst z
      rw [uZ_same, uZ_ne _ (by omega), uZ_ne _ (by omega), if_pos rfl, if_neg (by omega), if_neg (by omega), Int.sub_zero, Int.sub_zero]
    · subst z
      rw [uZ_same, uZ_ne _ (by omega), uZ_ne _ (by omega), if_pos rfl, if_neg (by omega), if_neg (by omega), Int.sub_zero, Int.sub_zero]
    · subst z
      rw [uZ_same, uZ_ne _ (by omega), uZ_ne _ (by omega), if_pos rfl, if_neg (by omega), if_neg (by omega), Int.sub_zero, Int.sub_zero]
  have w1' : f_X8_ways 14 15 h2 = some (jv (cntV w m (12 * m + b) g k v : Int), h2) := by rw [← e]; exact w1
  obtain ⟨q1, -⟩ := ht.ok hS.F
  obtain ⟨q2, -⟩ := ht.ok T1.2.1.F
  obtain ⟨q3, -, q5, q6, -⟩ := ht.ok T2.2.1.F
  exact ⟨h2, by simp -implicitDefEqProofs (disch := omega) only [k_X8_waysWith_1, k_X8_waysWith_2, k_X8_waysWith_3, F_f_X8_waysWith, q1, q2, q3, q5, q6, f1, f2, w1', Nat.reduceAdd, iv_add, iv_sub, iv_mul, iv_neg, iv_zero, iv_ltT, iv_ltF, iv_leT, iv_leF, iv_eqT, iv_eqF, iv_div, rm_iv, tn_iv, ib_iv, some_cb, some_cbv, ↓nm_eq, ↓reduceIte, true_and, and_true, Bool.true_eq_false, Bool.false_eq_true, not_false_eq_true, not_true_eq_false], T2.1⟩
set_option maxRecDepth 100000 in
theorem q_ch67 (hS : Sim w A h) {m b cc g k v : Int} (hl : lvM w m) (b0 : 0 ≤ b) (tb : b < wBx w m) (c0 : 0 ≤ cc) (c1 : cc ≤ 2147483647) (eg : cc / 10 = g) (ek : cc % 10 = k) (cg : g < wGr w m) (ck : k < wCh w m) (v0 : 0 ≤ v) (v1 : v ≤ 999) : ∀ (l : List (List TR)) (y : List TR) (N : Nat), l.length + 1 < N → Cs (nxt1 (bRw w m (12 * m + b)) (wC w (12 * m + b) 0) (wC w (12 * m + b) 1) (wC w (12 * m + b) 2)) (y :: l) none → (∀ T ∈ y :: l, TOk (bRw w m (12 * m + b)) (wC w (12 * m + b) 0) (wC w (12 * m + b) 1) (wC w (12 * m + b) 2) T) → ∀ (hh : AH) (c : Int → Int) (n al : Int), NS w A h hh c → HT c (12 * b) y → 0 ≤ n → n ≤ al → al + l.length + 1 ≤ 20000 → ∃ h' : AH, lp b_X12_chance_67 (fun _ _ _ _ _ _ _ _ => none) N 91 (iv cc) (iv v) (iv (12 * m + b)) (iv n) (iv al) (iv 1) hh = some (iv (1000 * (n + ((y :: l).countP (fun T => decide (v ≤ tcl T g.toNat k)) : Nat)) / (al + l.length + 1)), h') ∧ Sc w A h h' := by
  obtain ⟨⟨gg1, gg2⟩, ⟨gc1, gc2⟩, ⟨b2, b3⟩, -⟩ := hS.W.mat hl
  obtain ⟨⟨x0, x1⟩, -⟩ := box_ran hS.W hl b0 tb
  obtain ⟨e1, e2, e3, e4, e5, -, -⟩ := box_all hS.W hl b0 tb
  have hxm : rmI (iv (12 * m + b)) (iv 12) = iv b := (by rw [rm_iv (by omega) (by omega) (by omega) (by omega)]; congr 1; omega)
  intro l
  induction l with
  | nil =>
    intro y N hN hC hok hh c n al hNS hH n0 n1 hal
    obtain ⟨N, rfl⟩ : ∃ N', N = N' + 1 + 1 := ⟨N - 2, by simp at hN; omega⟩
    obtain ⟨hC1, -⟩ := hC
    have hC1 : nxt1 (bRw w m (12 * m + b)) (wC w (12 * m + b) 0) (wC w (12 * m + b) 1) (wC w (12 * m + b) 2) y = none := hC1
    have hy := hok y (by simp)
    have hlen := (TOk_rng _ _ _ _ _ hy).2.2.2.2
    unfold bRw at hlen
    rw [rwL_len] at hlen
    have hcell := HT_cell y (12 * b) g.toNat k hH (by omega) (by omega) (by omega)
    rw [show 12 * b + 3 * (g.toNat : Int) + k = 12 * b + 3 * g + k by omega] at hcell
    have hn := q_nowAt hNS (b := b) (x := cc) b0 (by omega) c0 c1 eg ek (by omega) (by omega)
    rw [hcell] at hn
    have hr := tcl_rng hy g.toNat k
    have hF := hNS.2.1.F
    have hx := q_nextT hNS hl b0 tb hy hH
    rw [hC1] at hx
    obtain ⟨h', f1, f2, -⟩ := hx
    have hF' := f2.2.1.F
    have ecnt : (([y].countP (fun T => decide (v ≤ tcl T g.toNat k)) : Nat) : Int) = if v ≤ tcl y g.toNat k then 1 else 0 := by
      rw [List.countP_cons, List.countP_nil]
      by_cases z : v ≤ tcl y g.toNat k
      · rw [if_pos z, if_pos (by simpa using z)]; rfl
      · rw [if_neg z, if_neg (by simpa using z)]; rfl
    rw [ecnt]
    refine ⟨h', ?_, f2.1⟩
    have hal : al + 0 + 1 ≤ 20000 := hal
    show _ = some (iv (1000 * (n + _) / (al + 0 + 1)), h')
    by_cases z : v ≤ tcl y g.toNat k
    · rw [if_pos z]
      simp -implicitDefEqProofs (disch := omega) only [lp_succ, F_b_X12_chance_67, k_X12_chance_96_1, F_f_X12_chance_96, k_X12_chance_67_1, k_X12_chance_1, k_X12_chance_2, k_X12_chance_3, k_X12_chance_4, k_X12_chance_5, K91 hF, hxm, hn, f1, iv_add, iv_sub, iv_mul, iv_neg, iv_zero, iv_ltT, iv_ltF, iv_leT, iv_leF, iv_eqT, iv_eqF, iv_div, rm_iv, tn_iv, ib_iv, lc_lt, lc_le, lc_gt, lc_ge, lc_eq, iv_l, jv_add, jv_sub, jv_mul, jv_zero, if_pos, if_neg, some_cb, some_cbv, ↓nm_eq, ↓reduceIte, true_and, and_true, Bool.true_eq_false, Bool.false_eq_true, not_false_eq_true, not_true_eq_false]
      rw [show al + 0 + 1 = al + 1 by omega]
    · rw [if_neg z]
      simp -implicitDefEqProofs (disch := omega) only [lp_succ, F_b_X12_chance_67, k_X12_chance_96_1, F_f_X12_chance_96, k_X12_chance_67_1, k_X12_chance_1, k_X12_chance_2, k_X12_chance_3, k_X12_chance_4, k_X12_chance_5, K91 hF, hxm, hn, f1, iv_add, iv_sub, iv_mul, iv_neg, iv_zero, iv_ltT, iv_ltF, iv_leT, iv_leF, iv_eqT, iv_eqF, iv_div, rm_iv, tn_iv, ib_iv, lc_lt, lc_le, lc_gt, lc_ge, lc_eq, iv_l, jv_add, jv_sub, jv_mul, jv_zero, if_pos, if_neg, some_cb, some_cbv, ↓nm_eq, ↓reduceIte, true_and, and_true, Bool.true_eq_false, Bool.false_eq_true, not_false_eq_true, not_true_eq_false]
      rw [show al + 0 + 1 = al + 1 by omega, Int.add_zero]
  | cons y2 l ih =>
    intro y N hN hC hok hh c n al hNS hH n0 n1 hal
    obtain ⟨N, rfl⟩ : ∃ N', N = N' + 1 := ⟨N - 1, by simp at hN; omega⟩
    obtain ⟨hC1, hC2⟩ := hC
    have hC1 : nxt1 (bRw w m (12 * m + b)) (wC w (12 * m + b) 0) (wC w (12 * m + b) 1) (wC w (12 * m + b) 2) y = some y2 := hC1
    have hy := hok y (by simp)
    have hlen := (TOk_rng _ _ _ _ _ hy).2.2.2.2
    unfold bRw at hlen
    rw [rwL_len] at hlen
    have hcell := HT_cell y (12 * b) g.toNat k hH (by omega) (by omega) (by omega)
    rw [show 12 * b + 3 * (g.toNat : Int) + k = 12 * b + 3 * g + k by omega] at hcell
    have hn := q_nowAt hNS (b := b) (x := cc) b0 (by omega) c0 c1 eg ek (by omega) (by omega)
    rw [hcell] at hn
    have hr := tcl_rng hy g.toNat k
    have hF := hNS.2.1.F
    have hx := q_nextT hNS hl b0 tb hy hH
    rw [hC1] at hx
    obtain ⟨h', c', f1, f2, f3, -⟩ := hx
    rw [List.length_cons] at hal hN
    have ecnt : ((y :: y2 :: l).countP (fun T => decide (v ≤ tcl T g.toNat k)) : Nat) = (y2 :: l).countP (fun T => decide (v ≤ tcl T g.toNat k)) + if v ≤ tcl y g.toNat k then 1 else 0 := by
      rw [List.countP_cons]
      congr 1
      by_cases z : v ≤ tcl y g.toNat k
      · rw [if_pos z, if_pos (by simpa using z)]
      · rw [if_neg z, if_neg (by simpa using z)]
    rw [ecnt]
    by_cases z : v ≤ tcl y g.toNat k
    · obtain ⟨h2, g1, g2⟩ := ih y2 N (by omega) hC2 (fun T hT => hok T (List.mem_cons_of_mem _ hT)) h' c' (n + 1) (al + 1) f2 f3 (by omega) (by omega) (by omega)
      refine ⟨h2, ?_, g2⟩
      rw [if_pos z, show 1000 * (n + (((y2 :: l).countP (fun T => decide (v ≤ tcl T g.toNat k)) + 1 : Nat) : Int)) / (al + ((y2 :: l).length : Int) + 1) = 1000 * (n + 1 + (((y2 :: l).countP (fun T => decide (v ≤ tcl T g.toNat k)) : Nat) : Int)) / (al + 1 + (l.length : Int) + 1) by
        rw [List.length_cons]; congr 1 <;> omega, ← g1]
      simp -implicitDefEqProofs (disch := omega) only [lp_succ, F_b_X12_chance_67, k_X12_chance_96_1, F_f_X12_chance_96, k_X12_chance_67_1, k_X12_chance_1, k_X12_chance_2, k_X12_chance_3, k_X12_chance_4, k_X12_chance_5, K91 hF, hxm, hn, f1, iv_add, iv_sub, iv_mul, iv_neg, iv_zero, iv_ltT, iv_ltF, iv_leT, iv_leF, iv_eqT, iv_eqF, iv_div, rm_iv, tn_iv, ib_iv, lc_lt, lc_le, lc_gt, lc_ge, lc_eq, iv_l, jv_add, jv_sub, jv_mul, jv_zero, if_pos, if_neg, some_cb, some_cbv, ↓nm_eq, ↓reduceIte, true_and, and_true, Bool.true_eq_false, Bool.false_eq_true, not_false_eq_true, not_true_eq_false]
    · obtain ⟨h2, g1, g2⟩ := ih y2 N (by omega) hC2 (fun T hT => hok T (List.mem_cons_of_mem _ hT)) h' c' n (al + 1) f2 f3 n0 (by omega) (by omega)
      refine ⟨h2, ?_, g2⟩
      rw [if_neg z, show 1000 * (n + (((y2 :: l).countP (fun T => decide (v ≤ tcl T g.toNat k)) + 0 : Nat) : Int)) / (al + ((y2 :: l).length : Int) + 1) = 1000 * (n + (((y2 :: l).countP (fun T => decide (v ≤ tcl T g.toNat k)) : Nat) : Int)) / (al + 1 + (l.length : Int) + 1) by
        rw [List.length_cons]; congr 1; omega, ← g1]
      simp -implicitDefEqProofs (disch := omega) only [lp_succ, F_b_X12_chance_67, k_X12_chance_96_1, F_f_X12_chance_96, k_X12_chance_67_1, k_X12_chance_1, k_X12_chance_2, k_X12_chance_3, k_X12_chance_4, k_X12_chance_5, K91 hF, hxm, hn, f1, Int.add_zero, iv_add, iv_sub, iv_mul, iv_neg, iv_zero, iv_ltT, iv_ltF, iv_leT, iv_leF, iv_eqT, iv_eqF, iv_div, rm_iv, tn_iv, ib_iv, lc_lt, lc_le, lc_gt, lc_ge, lc_eq, iv_l, jv_add, jv_sub, jv_mul, jv_zero, if_pos, if_neg, some_cb, some_cbv, ↓nm_eq, ↓reduceIte, true_and, and_true, Bool.true_eq_false, Bool.false_eq_true, not_false_eq_true, not_true_eq_false]
end Q
