/-! the start: the greater ones -/
theorem nz5z : (¬ iv 5 < 0 ∧ (iv 5).toNatClampNeg ≤ 10000) ∧ (iv 5).toNatClampNeg = 5 := by decide
theorem nz6z : (¬ iv 6 < 0 ∧ (iv 6).toNatClampNeg ≤ 10000) ∧ (iv 6).toNatClampNeg = 6 := by decide
theorem nz7z : (¬ iv 7 < 0 ∧ (iv 7).toNatClampNeg ≤ 10000) ∧ (iv 7).toNatClampNeg = 7 := by decide
theorem nz8z : (¬ iv 8 < 0 ∧ (iv 8).toNatClampNeg ≤ 10000) ∧ (iv 8).toNatClampNeg = 8 := by decide
theorem nz13z : (¬ iv 13 < 0 ∧ (iv 13).toNatClampNeg ≤ 10000) ∧ (iv 13).toNatClampNeg = 13 := by decide
theorem nz24z : (¬ iv 24 < 0 ∧ (iv 24).toNatClampNeg ≤ 10000) ∧ (iv 24).toNatClampNeg = 24 := by decide
theorem nz50z : (¬ iv 50 < 0 ∧ (iv 50).toNatClampNeg ≤ 10000) ∧ (iv 50).toNatClampNeg = 50 := by decide
theorem nz84z : (¬ iv 84 < 0 ∧ (iv 84).toNatClampNeg ≤ 10000) ∧ (iv 84).toNatClampNeg = 84 := by decide
theorem nz144z : (¬ iv 144 < 0 ∧ (iv 144).toNatClampNeg ≤ 10000) ∧ (iv 144).toNatClampNeg = 144 := by decide
theorem nz180z : (¬ iv 180 < 0 ∧ (iv 180).toNatClampNeg ≤ 10000) ∧ (iv 180).toNatClampNeg = 180 := by decide
theorem nz200z : (¬ iv 200 < 0 ∧ (iv 200).toNatClampNeg ≤ 10000) ∧ (iv 200).toNatClampNeg = 200 := by decide
theorem nz240z : (¬ iv 240 < 0 ∧ (iv 240).toNatClampNeg ≤ 10000) ∧ (iv 240).toNatClampNeg = 240 := by decide
theorem nz256z : (¬ iv 256 < 0 ∧ (iv 256).toNatClampNeg ≤ 10000) ∧ (iv 256).toNatClampNeg = 256 := by decide
theorem nz360z : (¬ iv 360 < 0 ∧ (iv 360).toNatClampNeg ≤ 10000) ∧ (iv 360).toNatClampNeg = 360 := by decide
theorem nz720z : (¬ iv 720 < 0 ∧ (iv 720).toNatClampNeg ≤ 10000) ∧ (iv 720).toNatClampNeg = 720 := by decide
section St
variable {g : AH} {p q : List OpH} {x k n i kx c c0 v d a : Nat} {z u : Int32} {K : AH → Option AH} {R : Option AH}
theorem stW {E : Nat → AH → Option AH} (hz : (¬ z < 0 ∧ z.toNatClampNeg ≤ 10000) ∧ z.toNatClampNeg = n) (hC : gC (dnH g p) = c) (H : E c (dnH g (p ++ [(0, k, n, 0)])) = R) : (if ¬ z < 0 ∧ z.toNatClampNeg ≤ 10000 then nm (gC (dnH g p)) fun a => nm (nw (dnH g p) k z.toNatClampNeg) fun g2 => E a g2 else none) = R := by
  rw [if_pos hz.1, nm_eq, nm_eq, hz.2, hC, ← H, dnH_app]
  rfl
theorem stU (hI : (ib u 6 = true) ∧ u.toNatClampNeg = i) (hK : gK (dnH g p) a = 1) (hN : gN (dnH g p) a = 6) (H : K (dnH g (p ++ [(2, a, i, 0)])) = R) : (if gK (dnH g p) a = 1 ∧ ib u (gN (dnH g p) a) = true then nm (sI (dnH g p) a u.toNatClampNeg (iv (-1))) fun g4 => K g4 else none) = R := by
  rw [if_pos ⟨hK, by rw [hN]; exact hI.1⟩, nm_eq, hI.2, ← H, dnH_app]
  rfl
theorem nH_old {a d : Nat} : ∀ (l : List OpH) (c : Nat), a < c → nH c l a d = d := by
  intro l
  induction l with
  | nil => intro c _; rfl
  | cons o l ih =>
    intro c hc
    rw [nH_c]
    by_cases e : o.1 = 0
    · rw [if_pos e, if_neg (by omega)]; exact ih (c + 1) (by omega)
    · rw [if_neg e]; exact ih c hc
theorem dNo {a k : Nat} (ha : a < gC g) (h : gN g a = k) : gN (dnH g p) a = k := by rw [nH_ok, nH_old _ _ ha]; exact h
end St
section Sm
variable {g : AH} {x c : Nat}
def o9 (x c : Nat) : List OpH := [(0, 1, 200, 0), (1, x, 0, c), (0, 1, 84, 0), (1, x, 1, c + 1)]
set_option maxRecDepth 100000 in
theorem c_tape (hC : gC g = c) (hx : x < c) (hK : gK g x = 109) : f_X9_init x g = some (dnH g (o9 x c)) := by
  rw [F_f_X9_init, if_neg (by rw [hK]; decide)]
  have hx' : x < gC g := by omega
  refine stA (g := g) (p := []) (c := c) nz200z (dC hC rfl) (dKo hx' hK) (by omega) ?_
  refine stA (g := g) (c := c + 1) nz84z (dC hC rfl) (dKo hx' hK) (by omega) ?_
  rfl
def o10 (x c : Nat) : List OpH := [(0, 1, 24, 0), (1, x, 0, c)]
set_option maxRecDepth 100000 in
theorem c_trac (hC : gC g = c) (hx : x < c) (hK : gK g x = 110) : f_X10_init x g = some (dnH g (o10 x c)) := by
  rw [F_f_X10_init, if_neg (by rw [hK]; decide)]
  have hx' : x < gC g := by omega
  refine stA (g := g) (p := []) (c := c) nz24z (dC hC rfl) (dKo hx' hK) (by omega) ?_
  rfl
def o4 (x c : Nat) : List OpH := [(0, 1, 12, 0), (1, x, 0, c), (0, 108, 4, 0)] ++ o8 (c + 1) (c + 2) ++ [(1, x, 4, c + 1)]
set_option maxRecDepth 100000 in
theorem c_likl (hC : gC g = c) (hx : x < c) (hK : gK g x = 104) : f_X4_init x g = some (dnH g (o4 x c)) := by
  rw [F_f_X4_init, if_neg (by rw [hK]; decide)]
  have hx' : x < gC g := by omega
  refine stA (g := g) (p := []) (c := c) nz12 (dC hC rfl) (dKo hx' hK) (by omega) ?_
  refine stN (g := g) (c := c + 1) (E := k_X4_init_1 x) (f := f_X8_init) (q := o8 (c + 1) (c + 2)) (by decide) (dC hC rfl) (c_tabs (dC hC rfl) (by omega) (dK (d := gK g (c + 1)) hC rfl ?_)) ?_
  · show (if c + 1 = c + 1 then 108 else _) = 108
    exact if_pos rfl
  rw [k_X4_init_1]
  refine stR (dKo hx' hK) ?_
  rfl
def o65 : Nat → Nat → List OpH
  | 0, _ => []
  | n + 1, j => (0, 108, 4, 0) :: (o8 (24 + 4 * j) (25 + 4 * j) ++ (1, 17, j, 24 + 4 * j) :: o65 n (j + 1))
set_option maxRecDepth 100000 in
theorem c_l65 : ∀ (n L j : Nat) (hh : AH), n < L → j + n = 12 → gC hh = 24 + 4 * j → gK hh 16 = 103 → gR hh 16 3 = 17 → gK hh 17 = 18 → gN hh 17 = 12 → lp b_X3_init_65 (fun _ _ _ => none) L 16 (iv (j : Int)) hh = some (dnH hh (o65 n j)) := by
  intro n
  induction n with
  | zero =>
    intro L j hh hL hj _ _ _ _ _
    obtain ⟨L, rfl⟩ : ∃ L', L = L' + 1 := ⟨L - 1, by omega⟩
    simp -implicitDefEqProofs (disch := omega) only [lp_succ, F_b_X3_init_65, iv_add, iv_sub, iv_mul, iv_neg, iv_zero, iv_ltT, iv_ltF, iv_leT, iv_leF, iv_eqT, iv_eqF, iv_div, rm_iv, tn_iv, ib_iv, some_cb, some_cbv, ↓nm_eq, ↓reduceIte, true_and, and_true, Bool.true_eq_false, Bool.false_eq_true, not_false_eq_true, not_true_eq_false]
    rfl
  | succ n ih =>
    intro L j hh hL hj hC hK hR h17 hN
    obtain ⟨L, rfl⟩ : ∃ L', L = L' + 1 := ⟨L - 1, by omega⟩
    have gc : gC (nw hh 108 4) = 25 + 4 * j := by rw [gC_nw, hC]; omega
    have k0 : gK (nw hh 108 4) (24 + 4 * j) = 108 := by rw [← hC]; exact gK_nws _ _ _
    have tb := c_tabs (x := 24 + 4 * j) gc (by omega) k0
    have a1 : gK (dnH (nw hh 108 4) (o8 (24 + 4 * j) (25 + 4 * j))) 17 = 18 := dKo (by omega) (by rw [gK_nwo _ _ _ (by omega)]; exact h17)
    have a2 : gN (dnH (nw hh 108 4) (o8 (24 + 4 * j) (25 + 4 * j))) 17 = 12 := dNo (by omega) (by rw [gN_nwo _ _ _ (by omega)]; exact hN)
    have a3 : gK (dnH (nw hh 108 4) (o8 (24 + 4 * j) (25 + 4 * j))) (24 + 4 * j) = 108 := dKo (by omega) k0
    have a4 : gK (dnH (nw hh 108 4) (o8 (24 + 4 * j) (25 + 4 * j))) 16 = 103 := dKo (by omega) (by rw [gK_nwo _ _ _ (by omega)]; exact hK)
    have a5 : gC (dnH (nw hh 108 4) (o8 (24 + 4 * j) (25 + 4 * j))) = 24 + 4 * (j + 1) := by rw [cH_ok, gc]; show 25 + 4 * j + 1 + 1 + 1 = _; omega
    have a6 : gR (dnH (nw hh 108 4) (o8 (24 + 4 * j) (25 + 4 * j))) 16 3 = 17 := by
      rw [rH_ok, gc, gR_nwo _ _ _ _ (by omega), hR]
      show (if 16 = 24 + 4 * j ∧ 3 = 2 then _ else if 16 = _ then 0 else if 16 = 24 + 4 * j ∧ 3 = 1 then _ else if 16 = _ then 0 else if 16 = 24 + 4 * j ∧ 3 = 0 then _ else if 16 = _ then 0 else 17) = 17
      rw [if_neg (by omega), if_neg (by omega), if_neg (by omega), if_neg (by omega), if_neg (by omega), if_neg (by omega)]
    have i := ih L (j + 1) (sR (dnH (nw hh 108 4) (o8 (24 + 4 * j) (25 + 4 * j))) 17 j (24 + 4 * j)) (by omega) (by omega) a5 a4 (by rw [gR_sRo _ _ (by omega)]; exact a6) a1 a2
    have e1 : (j : Int) + 1 = ((j + 1 : Nat) : Int) := by omega
    have st : lp b_X3_init_65 (fun _ _ _ => none) (L + 1) 16 (iv (j : Int)) hh = lp b_X3_init_65 (fun _ _ _ => none) L 16 (iv ((j + 1 : Nat) : Int)) (sR (dnH (nw hh 108 4) (o8 (24 + 4 * j) (25 + 4 * j))) 17 j (24 + 4 * j)) := by
      rw [← e1]
      simp -implicitDefEqProofs (disch := omega) only [lp_succ, F_b_X3_init_65, k_X3_init_65_1, hK, hC, hR, k0, nz108, tb, a1, a2, a3, Int.toNat_natCast, iv_add, iv_sub, iv_mul, iv_neg, iv_zero, iv_ltT, iv_ltF, iv_leT, iv_leF, iv_eqT, iv_eqF, iv_div, rm_iv, tn_iv, ib_iv, some_cb, some_cbv, ↓nm_eq, ↓reduceIte, true_and, and_true, Bool.true_eq_false, Bool.false_eq_true, not_false_eq_true, not_true_eq_false]
    rw [st, i]
    rfl

def o3a : List OpH := (((((((([] : List OpH) ++ [(0, 18, 12, 0), (1, 16, 3, 17)]) ++ [(0, 10, 12, 0), (1, 16, 4, 18)]) ++ [(0, 1, 12, 0), (1, 16, 5, 19)]) ++ [(0, 1, 13, 0), (1, 16, 6, 20)]) ++ [(0, 1, 13, 0), (1, 16, 7, 21)]) ++ [(0, 1, 13, 0), (1, 16, 8, 22)]) ++ [(0, 1, 256, 0), (1, 16, 9, 23)])
def o3 : List OpH := o3a ++ o65 12 0
set_option maxRecDepth 100000 in
theorem c_known (hC : gC g = 17) (hK : gK g 16 = 103) : f_X3_init 16 g = some (dnH g o3) := by
  rw [F_f_X3_init, if_neg (by rw [hK]; decide)]
  have hx : 16 < gC g := by omega
  refine stA (g := g) (p := []) (c := 17) nz12 (dC hC rfl) (dKo hx hK) (by decide) ?_
  refine stA (g := g) (p := _) (c := 18) nz12 (dC hC rfl) (dKo hx hK) (by decide) ?_
  refine stA (g := g) (p := _) (c := 19) nz12 (dC hC rfl) (dKo hx hK) (by decide) ?_
  refine stA (g := g) (p := _) (c := 20) nz13z (dC hC rfl) (dKo hx hK) (by decide) ?_
  refine stA (g := g) (p := _) (c := 21) nz13z (dC hC rfl) (dKo hx hK) (by decide) ?_
  refine stA (g := g) (p := _) (c := 22) nz13z (dC hC rfl) (dKo hx hK) (by decide) ?_
  refine stA (g := g) (p := _) (c := 23) nz256z (dC hC rfl) (dKo hx hK) (by decide) ?_
  rw [nm_eq]
  have l := c_l65 12 FU 0 (dnH g o3a) (FU_gt (by omega)) (by omega) (dC hC rfl) (dKo hx hK) (dR hC rfl rfl) (dK hC rfl rfl) (dN hC rfl rfl)
  change lp b_X3_init_65 (fun _ _ _ => none) FU 16 (iv 0) (dnH g o3a) = _ at l
  show lp b_X3_init_65 (fun _ _ _ => none) FU 16 (iv 0) (dnH g o3a) = _
  rw [l, o3, dnH_app]
def o95 : Nat → Nat → List OpH
  | 0, _ => []
  | n + 1, j => (0, 107, 4, 0) :: (o7 (79 + 2 * j) (80 + 2 * j) ++ (1, 9, j, 79 + 2 * j) :: o95 n (j + 1))
set_option maxRecDepth 100000 in
theorem c_l95 : ∀ (n L j : Nat) (hh : AH), n < L → j + n = 6 → gC hh = 79 + 2 * j → gK hh 3 = 111 → gR hh 3 3 = 9 → gK hh 9 = 17 → gN hh 9 = 6 → lp b_X11_init_95 (fun _ _ _ => none) L 3 (iv (j : Int)) hh = some (dnH hh (o95 n j)) := by
  intro n
  induction n with
  | zero =>
    intro L j hh hL hj _ _ _ _ _
    obtain ⟨L, rfl⟩ : ∃ L', L = L' + 1 := ⟨L - 1, by omega⟩
    simp -implicitDefEqProofs (disch := omega) only [lp_succ, F_b_X11_init_95, iv_add, iv_sub, iv_mul, iv_neg, iv_zero, iv_ltT, iv_ltF, iv_leT, iv_leF, iv_eqT, iv_eqF, iv_div, rm_iv, tn_iv, ib_iv, some_cb, some_cbv, ↓nm_eq, ↓reduceIte, true_and, and_true, Bool.true_eq_false, Bool.false_eq_true, not_false_eq_true, not_true_eq_false]
    rfl
  | succ n ih =>
    intro L j hh hL hj hC hK hR h17 hN
    obtain ⟨L, rfl⟩ : ∃ L', L = L' + 1 := ⟨L - 1, by omega⟩
    have gc : gC (nw hh 107 4) = 80 + 2 * j := by rw [gC_nw, hC]; omega
    have k0 : gK (nw hh 107 4) (79 + 2 * j) = 107 := by rw [← hC]; exact gK_nws _ _ _
    have tb := c_shf (x := 79 + 2 * j) gc (by omega) k0
    have a1 : gK (dnH (nw hh 107 4) (o7 (79 + 2 * j) (80 + 2 * j))) 9 = 17 := dKo (by omega) (by rw [gK_nwo _ _ _ (by omega)]; exact h17)
    have a2 : gN (dnH (nw hh 107 4) (o7 (79 + 2 * j) (80 + 2 * j))) 9 = 6 := dNo (by omega) (by rw [gN_nwo _ _ _ (by omega)]; exact hN)
    have a3 : gK (dnH (nw hh 107 4) (o7 (79 + 2 * j) (80 + 2 * j))) (79 + 2 * j) = 107 := dKo (by omega) k0
    have a4 : gK (dnH (nw hh 107 4) (o7 (79 + 2 * j) (80 + 2 * j))) 3 = 111 := dKo (by omega) (by rw [gK_nwo _ _ _ (by omega)]; exact hK)
    have a5 : gC (dnH (nw hh 107 4) (o7 (79 + 2 * j) (80 + 2 * j))) = 79 + 2 * (j + 1) := by rw [cH_ok, gc]; show 80 + 2 * j + 1 = _; omega
    have a6 : gR (dnH (nw hh 107 4) (o7 (79 + 2 * j) (80 + 2 * j))) 3 3 = 9 := by
      rw [rH_ok, gc, gR_nwo _ _ _ _ (by omega), hR]
      show (if 3 = 79 + 2 * j ∧ 3 = 0 then _ else if 3 = _ then 0 else 9) = 9
      rw [if_neg (by omega), if_neg (by omega)]
    have i := ih L (j + 1) (sR (dnH (nw hh 107 4) (o7 (79 + 2 * j) (80 + 2 * j))) 9 j (79 + 2 * j)) (by omega) (by omega) a5 a4 (by rw [gR_sRo _ _ (by omega)]; exact a6) a1 a2
    have e1 : (j : Int) + 1 = ((j + 1 : Nat) : Int) := by omega
    have st : lp b_X11_init_95 (fun _ _ _ => none) (L + 1) 3 (iv (j : Int)) hh = lp b_X11_init_95 (fun _ _ _ => none) L 3 (iv ((j + 1 : Nat) : Int)) (sR (dnH (nw hh 107 4) (o7 (79 + 2 * j) (80 + 2 * j))) 9 j (79 + 2 * j)) := by
      rw [← e1]
      simp -implicitDefEqProofs (disch := omega) only [lp_succ, F_b_X11_init_95, k_X11_init_95_1, hK, hC, hR, k0, nz107z, tb, a1, a2, a3, Int.toNat_natCast, iv_add, iv_sub, iv_mul, iv_neg, iv_zero, iv_ltT, iv_ltF, iv_leT, iv_leF, iv_eqT, iv_eqF, iv_div, rm_iv, tn_iv, ib_iv, some_cb, some_cbv, ↓nm_eq, ↓reduceIte, true_and, and_true, Bool.true_eq_false, Bool.false_eq_true, not_false_eq_true, not_true_eq_false]
    rw [st, i]
    rfl

def o11a : List OpH := ((((((((((((((([] : List OpH) ++ [(0, 109, 7, 0)] ++ o9 4 5) ++ [(1, 3, 0, 4)]) ++ [(0, 16, 4, 0), (1, 3, 1, 7)]) ++ [(0, 12, 50, 0), (1, 3, 2, 8)]) ++ [(0, 17, 6, 0), (1, 3, 3, 9)]) ++ [(0, 110, 2, 0)] ++ o10 10 11) ++ [(1, 3, 4, 10)]) ++ [(0, 108, 4, 0)] ++ o8 12 13) ++ [(1, 3, 5, 12)]) ++ [(0, 103, 16, 0)] ++ o3) ++ [(1, 3, 6, 16)]) ++ [(0, 104, 5, 0)] ++ o4 72 73) ++ [(1, 3, 7, 72)]) ++ [(0, 1, 7, 0), (1, 3, 8, 78)])
def o11 : List OpH := o11a ++ o95 6 0
set_option maxRecDepth 100000 in
theorem c_made (hC : gC g = 4) (hK : gK g 3 = 111) : f_X11_init 3 g = some (dnH g o11) := by
  rw [F_f_X11_init, if_neg (by rw [hK]; decide)]
  have hx : 3 < gC g := by omega
  refine stN (g := g) (p := []) (c := 4) (E := k_X11_init_5 3) (f := f_X9_init) (q := o9 4 5) (by decide) (dC hC rfl) (c_tape (dC hC rfl) (by decide) (dK (d := gK g 4) hC rfl rfl)) ?_
  rw [k_X11_init_5]
  refine stR (dKo hx hK) ?_
  refine stA (g := g) (c := 7) nz4 (dC hC rfl) (dKo hx hK) (by decide) ?_
  refine stA (g := g) (c := 8) nz50z (dC hC rfl) (dKo hx hK) (by decide) ?_
  refine stA (g := g) (c := 9) nz6z (dC hC rfl) (dKo hx hK) (by decide) ?_
  refine stN (g := g) (p := _) (c := 10) (E := k_X11_init_4 3) (f := f_X10_init) (q := o10 10 11) (by decide) (dC hC rfl) (c_trac (dC hC rfl) (by decide) (dK (d := gK g 10) hC rfl rfl)) ?_
  rw [k_X11_init_4]
  refine stR (dKo hx hK) ?_
  refine stN (g := g) (p := _) (c := 12) (E := k_X11_init_3 3) (f := f_X8_init) (q := o8 12 13) (by decide) (dC hC rfl) (c_tabs (dC hC rfl) (by decide) (dK (d := gK g 12) hC rfl rfl)) ?_
  rw [k_X11_init_3]
  refine stR (dKo hx hK) ?_
  refine stN (g := g) (p := _) (c := 16) (E := k_X11_init_2 3) (f := f_X3_init) (q := o3) (by decide) (dC hC rfl) (c_known (dC hC rfl) (dK (d := gK g 16) hC rfl rfl)) ?_
  rw [k_X11_init_2]
  refine stR (dKo hx hK) ?_
  refine stN (g := g) (p := _) (c := 72) (E := k_X11_init_1 3) (f := f_X4_init) (q := o4 72 73) (by decide) (dC hC rfl) (c_likl (dC hC rfl) (by decide) (dK (d := gK g 72) hC rfl rfl)) ?_
  rw [k_X11_init_1]
  refine stR (dKo hx hK) ?_
  refine stA (g := g) (c := 78) nz7z (dC hC rfl) (dKo hx hK) (by decide) ?_
  rw [nm_eq]
  have l := c_l95 6 FU 0 (dnH g o11a) (FU_gt (by omega)) (by omega) (dC hC (by decide +kernel)) (dKo hx hK) (dR (d := gR g 3 3) hC rfl rfl) (dK (d := gK g 9) hC rfl rfl) (dN (d := gN g 9) hC rfl rfl)
  change lp b_X11_init_95 (fun _ _ _ => none) FU 3 (iv 0) (dnH g o11a) = _ at l
  show lp b_X11_init_95 (fun _ _ _ => none) FU 3 (iv 0) (dnH g o11a) = _
  rw [l, o11, dnH_app]

def o12 : List OpH := (((((((((((((((((((((((((((((((((((((((((((([] : List OpH) ++ [(0, 1, 5, 0), (1, 91, 1, 92)]) ++ [(0, 1, 5, 0), (1, 91, 2, 93)]) ++ [(0, 1, 5, 0), (1, 91, 3, 94)]) ++ [(0, 1, 240, 0), (1, 91, 4, 95)]) ++ [(0, 1, 180, 0), (1, 91, 5, 96)]) ++ [(0, 1, 60, 0), (1, 91, 6, 97)]) ++ [(0, 3, 60, 0), (1, 91, 7, 98)]) ++ [(0, 1, 720, 0), (1, 91, 8, 99)]) ++ [(0, 3, 60, 0), (1, 91, 9, 100)]) ++ [(0, 1, 180, 0), (1, 91, 10, 101)]) ++ [(0, 1, 60, 0), (1, 91, 11, 102)]) ++ [(0, 1, 5, 0), (1, 91, 12, 103)]) ++ [(0, 1, 60, 0), (1, 91, 13, 104)]) ++ [(0, 1, 60, 0), (1, 91, 14, 105)]) ++ [(0, 1, 60, 0), (1, 91, 15, 106)]) ++ [(0, 1, 60, 0), (1, 91, 16, 107)]) ++ [(0, 1, 60, 0), (1, 91, 17, 108)]) ++ [(0, 1, 200, 0), (1, 91, 18, 109)]) ++ [(0, 1, 50, 0), (1, 91, 21, 110)]) ++ [(0, 1, 24, 0), (1, 91, 22, 111)]) ++ [(0, 1, 6, 0)]) ++ [(2, 112, 0, 0)]) ++ [(2, 112, 1, 0)]) ++ [(2, 112, 2, 0)]) ++ [(2, 112, 3, 0)]) ++ [(2, 112, 4, 0)]) ++ [(2, 112, 5, 0)]) ++ [(1, 91, 24, 112)]) ++ [(0, 1, 6, 0)]) ++ [(2, 113, 0, 0)]) ++ [(2, 113, 1, 0)]) ++ [(2, 113, 2, 0)]) ++ [(2, 113, 3, 0)]) ++ [(2, 113, 4, 0)]) ++ [(2, 113, 5, 0)]) ++ [(1, 91, 25, 113)]) ++ [(0, 1, 6, 0), (1, 91, 26, 114)]) ++ [(0, 2, 360, 0), (1, 91, 27, 115)]) ++ [(0, 1, 144, 0), (1, 91, 29, 116)]) ++ [(0, 1, 4, 0), (1, 91, 30, 117)]) ++ [(0, 1, 4, 0), (1, 91, 31, 118)]) ++ [(0, 1, 4, 0), (1, 91, 32, 119)]) ++ [(0, 1, 12, 0), (1, 91, 44, 120)])
set_option maxRecDepth 100000 in
theorem q_made (hC : gC g = 92) (hK : gK g 91 = 112) : f_X12_init 91 g = some (dnH g o12) := by
  rw [F_f_X12_init, if_neg (by rw [hK]; decide)]
  have hx : 91 < gC g := by omega
  refine stA (g := g) (p := []) (c := 92) nz5z (dC hC rfl) (dKo hx hK) (by decide) ?_
  refine stA (g := g) (c := 93) nz5z (dC hC rfl) (dKo hx hK) (by decide) ?_
  refine stA (g := g) (c := 94) nz5z (dC hC rfl) (dKo hx hK) (by decide) ?_
  refine stA (g := g) (c := 95) nz240z (dC hC rfl) (dKo hx hK) (by decide) ?_
  refine stA (g := g) (c := 96) nz180z (dC hC rfl) (dKo hx hK) (by decide) ?_
  refine stA (g := g) (c := 97) nz60 (dC hC rfl) (dKo hx hK) (by decide) ?_
  refine stA (g := g) (c := 98) nz60 (dC hC rfl) (dKo hx hK) (by decide) ?_
  refine stA (g := g) (c := 99) nz720z (dC hC rfl) (dKo hx hK) (by decide) ?_
  refine stA (g := g) (c := 100) nz60 (dC hC rfl) (dKo hx hK) (by decide) ?_
  refine stA (g := g) (c := 101) nz180z (dC hC rfl) (dKo hx hK) (by decide) ?_
  refine stA (g := g) (c := 102) nz60 (dC hC rfl) (dKo hx hK) (by decide) ?_
  refine stA (g := g) (c := 103) nz5z (dC hC rfl) (dKo hx hK) (by decide) ?_
  refine stA (g := g) (c := 104) nz60 (dC hC rfl) (dKo hx hK) (by decide) ?_
  refine stA (g := g) (c := 105) nz60 (dC hC rfl) (dKo hx hK) (by decide) ?_
  refine stA (g := g) (c := 106) nz60 (dC hC rfl) (dKo hx hK) (by decide) ?_
  refine stA (g := g) (c := 107) nz60 (dC hC rfl) (dKo hx hK) (by decide) ?_
  refine stA (g := g) (c := 108) nz60 (dC hC rfl) (dKo hx hK) (by decide) ?_
  refine stA (g := g) (c := 109) nz200z (dC hC rfl) (dKo hx hK) (by decide) ?_
  refine stA (g := g) (c := 110) nz50z (dC hC rfl) (dKo hx hK) (by decide) ?_
  refine stA (g := g) (c := 111) nz24z (dC hC rfl) (dKo hx hK) (by decide) ?_
  refine stW (g := g) (c := 112) nz6z (dC hC rfl) ?_
  refine stU (g := g) (a := 112) (i := 0) (by decide) (dK (d := gK g 112) hC rfl rfl) (dN (d := gN g 112) hC rfl rfl) ?_
  refine stU (g := g) (a := 112) (i := 1) (by decide) (dK (d := gK g 112) hC rfl rfl) (dN (d := gN g 112) hC rfl rfl) ?_
  refine stU (g := g) (a := 112) (i := 2) (by decide) (dK (d := gK g 112) hC rfl rfl) (dN (d := gN g 112) hC rfl rfl) ?_
  refine stU (g := g) (a := 112) (i := 3) (by decide) (dK (d := gK g 112) hC rfl rfl) (dN (d := gN g 112) hC rfl rfl) ?_
  refine stU (g := g) (a := 112) (i := 4) (by decide) (dK (d := gK g 112) hC rfl rfl) (dN (d := gN g 112) hC rfl rfl) ?_
  refine stU (g := g) (a := 112) (i := 5) (by decide) (dK (d := gK g 112) hC rfl rfl) (dN (d := gN g 112) hC rfl rfl) ?_
  refine stR (dKo hx hK) ?_
  refine stW (g := g) (c := 113) nz6z (dC hC rfl) ?_
  refine stU (g := g) (a := 113) (i := 0) (by decide) (dK (d := gK g 113) hC rfl rfl) (dN (d := gN g 113) hC rfl rfl) ?_
  refine stU (g := g) (a := 113) (i := 1) (by decide) (dK (d := gK g 113) hC rfl rfl) (dN (d := gN g 113) hC rfl rfl) ?_
  refine stU (g := g) (a := 113) (i := 2) (by decide) (dK (d := gK g 113) hC rfl rfl) (dN (d := gN g 113) hC rfl rfl) ?_
  refine stU (g := g) (a := 113) (i := 3) (by decide) (dK (d := gK g 113) hC rfl rfl) (dN (d := gN g 113) hC rfl rfl) ?_
  refine stU (g := g) (a := 113) (i := 4) (by decide) (dK (d := gK g 113) hC rfl rfl) (dN (d := gN g 113) hC rfl rfl) ?_
  refine stU (g := g) (a := 113) (i := 5) (by decide) (dK (d := gK g 113) hC rfl rfl) (dN (d := gN g 113) hC rfl rfl) ?_
  refine stR (dKo hx hK) ?_
  refine stA (g := g) (c := 114) nz6z (dC hC rfl) (dKo hx hK) (by decide) ?_
  refine stA (g := g) (c := 115) nz360z (dC hC rfl) (dKo hx hK) (by decide) ?_
  refine stA (g := g) (c := 116) nz144z (dC hC rfl) (dKo hx hK) (by decide) ?_
  refine stA (g := g) (c := 117) nz4 (dC hC rfl) (dKo hx hK) (by decide) ?_
  refine stA (g := g) (c := 118) nz4 (dC hC rfl) (dKo hx hK) (by decide) ?_
  refine stA (g := g) (c := 119) nz4 (dC hC rfl) (dKo hx hK) (by decide) ?_
  refine stA (g := g) (c := 120) nz12 (dC hC rfl) (dKo hx hK) (by decide) ?_
  rfl
end Sm
