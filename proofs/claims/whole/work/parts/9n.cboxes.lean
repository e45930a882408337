/-! boxes from a row: the one side -/
def boH (h : AH) (M B G C : Nat) (u : Nat → Nat → Int) : Nat → AH
  | 0 => h
  | j + 1 => abC (fiC (boH h M B G C u j) 78 (u j) (G + C)) M (B + j) G C (u j)
section R
variable {h : AH} {M B G C : Nat} {u : Nat → Nat → Int}
theorem boH_inv (hM : 121 ≤ M ∧ M + 4 ≤ gC h) (f5 : gI h M 5 = iv B) (j : Nat) : gC (boH h M B G C u j) = gC h + 5 * j ∧ gS (boH h M B G C u j) = gS h + 31 * j ∧ (∀ a, a < gC h → gK (boH h M B G C u j) a = gK h a ∧ gN (boH h M B G C u j) a = gN h a ∧ (∀ i, (a ≠ M ∨ i ≠ 5) → a ≠ 78 → gI (boH h M B G C u j) a i = gI h a i) ∧ (∀ i, gJ (boH h M B G C u j) a i = gJ h a i) ∧ ∀ i, a ≠ M + 1 → gR (boH h M B G C u j) a i = gR h a i) ∧ gI (boH h M B G C u j) M 5 = iv ((B : Int) + j) := by
  induction j with
  | zero => exact ⟨rfl, rfl, fun a _ => ⟨rfl, rfl, fun _ _ _ => rfl, fun _ => rfl, fun _ _ => rfl⟩, by rw [show (B : Int) + ((0 : Nat) : Int) = B by omega]; exact f5⟩
  | succ j ih =>
    obtain ⟨i1, i2, i3, i4⟩ := ih
    have g1 : gC (fiC (boH h M B G C u j) 78 (u j) (G + C)) = gC h + 5 * j := (fiC_C _).trans i1
    have low := fun a (ha : a < gC h) => abC_low (h := fiC (boH h M B G C u j) 78 (u j) (G + C)) (M := M) (b := B + j) (G := G) (C := C) (u := u j) (by omega) a (by omega)
    refine ⟨?_, ?_, fun a ha => ?_, ?_⟩
    · show gC (abC (fiC (boH h M B G C u j) 78 (u j) (G + C)) M (B + j) G C (u j)) = _
      rw [abC_C, g1]; omega
    · show gS (abC (fiC (boH h M B G C u j) 78 (u j) (G + C)) M (B + j) G C (u j)) = _
      rw [abC_S, fiC_S, i2]; omega
    · obtain ⟨k1, k2, k3, k4, k5⟩ := i3 a ha
      obtain ⟨l1, l2, l3, l4, l5⟩ := low a ha
      exact ⟨l1.trans ((fiC_K _ _).trans k1), l2.trans ((fiC_N _ _).trans k2), fun i y z => (l3 i y).trans ((fiC_I _ z).trans (k3 i y z)), fun i => (l4 i).trans ((fiC_J _ _ _).trans (k4 i)), fun i y => (l5 i (Or.inl y)).trans ((fiC_R _ _ _).trans (k5 i y))⟩
    · have := abC_5 (h := fiC (boH h M B G C u j) 78 (u j) (G + C)) (M := M) (b := B + j) (G := G) (C := C) (u := u j) (by omega)
      rw [show (B : Int) + ((j + 1 : Nat) : Int) = ((B + j : Nat) : Int) + 1 by omega]
      exact this
end R
section Q
variable {w w' : WD} {A A' : Int → Nat} {h h' h1 : AH} {m s i : Int}
set_option maxRecDepth 100000 in
theorem c_hasL {a : Nat} {i n z : Int} (sk : gK h a = 107) (s3 : gI h a 3 = iv z) (i0 : -4000000000 ≤ i) (i1 : i ≤ 4000000000) (n0 : 0 ≤ n) (n1 : n ≤ 2147483647) (z0 : 0 ≤ z) (z1 : z ≤ 60) (e : ¬ (0 ≤ i ∧ i + n ≤ z)) : f_X7_has a (jv i) (iv n) h = some (iv 0, h) := by
  by_cases q : i < 0
  · simp -implicitDefEqProofs (disch := omega) only [F_f_X7_has, sk, s3, zret0, zret1, iv_add, iv_sub, iv_mul, iv_neg, iv_zero, iv_ltT, iv_ltF, iv_leT, iv_leF, iv_eqT, iv_eqF, iv_div, rm_iv, tn_iv, ib_iv, lc_lt, lc_le, lc_gt, lc_ge, lc_eq, iv_l, jv_add, jv_sub, jv_mul, jv_zero, if_pos, if_neg, some_cb, some_cbv, ↓nm_eq, ↓reduceIte, true_and, and_true, Bool.true_eq_false, Bool.false_eq_true, not_false_eq_true, not_true_eq_false]
  · simp -implicitDefEqProofs (disch := omega) only [F_f_X7_has, sk, s3, zret0, zret1, iv_add, iv_sub, iv_mul, iv_neg, iv_zero, iv_ltT, iv_ltF, iv_leT, iv_leF, iv_eqT, iv_eqF, iv_div, rm_iv, tn_iv, ib_iv, lc_lt, lc_le, lc_gt, lc_ge, lc_eq, iv_l, jv_add, jv_sub, jv_mul, jv_zero, if_pos, if_neg, some_cb, some_cbv, ↓nm_eq, ↓reduceIte, true_and, and_true, Bool.true_eq_false, Bool.false_eq_true, not_false_eq_true, not_true_eq_false]
/-- the k-th number of the j-th box that a row holds from i on -/
def boU (w : WD) (s i : Int) (W : Nat) (j k : Nat) : Int := (sEl w (60 * s + i + ((j * W + k : Nat) : Int))).toInt
/-- whether the j-th box comes -/
def boG (w : WD) (m s i : Int) (G C j : Nat) : Prop := (0 ≤ i ∧ i + ((j * (G + C) + (G + C) : Nat) : Int) ≤ sSz w s) ∧ wBx w m + j < 12 ∧ AdOK G C (boU w s i (G + C) j)
set_option maxRecDepth 100000 in
theorem c_boxes (hS : Sim w A h) (hl : lvM w m) {G C B a n : Nat} (hG : (G : Int) = wGr w m) (hC : (C : Int) = wCh w m) (hB : (B : Int) = wBx w m) (s0 : 0 ≤ s) (s1 : s < 6) (so : sSo w s = 1) (i0 : -2147483648 ≤ i) (i1 : i ≤ 2147483647) (n12 : n ≤ 12) (ha : a < 90) (sk : gK h a = 107) (sr : gR h a 0 = a + 1) (sk1 : gK h (a + 1) = 2) (sn1 : gN h (a + 1) = 60) (s3 : gI h a 3 = iv (sSz w s)) (sd : ∀ z : Int, 0 ≤ z → z < 60 → gJ h (a + 1) z.toNat = sEl w (60 * s + z)) (a12 : a ≠ 78) (k : Nat) : ∀ (N j : Nat), k < N → j + k = n → (j = 0 ∨ 0 ≤ i) → B + j ≤ 12 → ∃ (K : Nat) (hf : AH), lp b_X11_boxes_77 (fun _ _ _ _ _ _ _ _ => none) N 3 (iv i) (iv n) (A m) a (iv ((G + C : Nat) : Int)) (iv j) (boH h (A m) B G C (boU w s i (G + C)) j) = some (iv K, hf) ∧ j ≤ K ∧ K ≤ n ∧ (∀ j', j ≤ j' → j' < K → boG w m s i G C j') ∧ (K < n → ¬ boG w m s i G C K) ∧ (hf = boH h (A m) B G C (boU w s i (G + C)) K ∨ hf = fiC (boH h (A m) B G C (boU w s i (G + C)) K) 78 (boU w s i (G + C) K) (G + C)) := by
  have hF := hS.F
  have hM := hS.M hl
  have am := hS.aM hl
  have tm := hS.tM hl
  have hG0 := hS.gc
  obtain ⟨⟨gg1, gg2⟩, ⟨gc1, gc2⟩, bb, -⟩ := hS.W.mat hl
  obtain ⟨-, -, ⟨y5, y6⟩, -⟩ := hS.W.sh s0 s1
  have f5 : gI h (A m) 5 = iv B := by rw [oM_5 hM, hB]
  induction k with
  | zero =>
    intro N j hN hj hj0 hbj
    obtain ⟨N, rfl⟩ : ∃ N', N = N' + 1 := ⟨N - 1, by omega⟩
    obtain rfl : j = n := by omega
    exact ⟨j, _, by simp -implicitDefEqProofs (disch := omega) only [lp_succ, F_b_X11_boxes_77, iv_add, iv_sub, iv_mul, iv_neg, iv_zero, iv_ltT, iv_ltF, iv_leT, iv_leF, iv_eqT, iv_eqF, iv_div, rm_iv, tn_iv, ib_iv, some_cb, some_cbv, ↓nm_eq, ↓reduceIte, true_and, and_true, Bool.true_eq_false, Bool.false_eq_true, not_false_eq_true, not_true_eq_false], Nat.le_refl _, Nat.le_refl _, fun j' y z => by omega, fun y => by omega, Or.inl rfl⟩
  | succ k ih =>
    intro N j hN hj hj0 hbj
    obtain ⟨N, rfl⟩ : ∃ N', N = N' + 1 := ⟨N - 1, by omega⟩
    obtain ⟨v1, v2, v3, v4⟩ := boH_inv (h := h) (M := A m) (B := B) (G := G) (C := C) (u := boU w s i (G + C)) ⟨am, tm⟩ f5 j
    generalize ehj : boH h (A m) B G C (boU w s i (G + C)) j = hj at *
    obtain ⟨b1, b2, b3, b4, b5⟩ := v3 a (by omega)
    obtain ⟨c1, c2, c3, c4, c5⟩ := v3 (a + 1) (by omega)
    obtain ⟨d1, d2, d3, d4, d5⟩ := v3 78 (by omega)
    obtain ⟨e1, e2, e3, e4, e5⟩ := v3 3 (by omega)
    obtain ⟨m1, m2, m3, m4, m5⟩ := v3 (A m) (by omega)
    obtain ⟨p1, p2, p3, p4, p5⟩ := v3 (A m + 1) (by omega)
    have jw : (j : Int) * ((G + C : Nat) : Int) = ((j * (G + C) : Nat) : Int) := by push_cast; rfl
    have jb : j * (G + C) ≤ 12 * 7 := Nat.mul_le_mul (by omega) (by omega)
    have kj : gK hj a = 107 := by rw [b1, sk]
    have kj3 : gK hj 3 = 111 := by rw [e1]; exact K3 hF
    have r38 : gR hj 3 8 = 78 := by rw [e5 8 (by omega)]; exact R3_8 hF
    have k12 : gK hj 78 = 1 := by rw [d1]; exact K78 hF
    have n12' : gN hj 78 = 7 := by rw [d2]; exact N78 hF
    have ra : gR hj a 0 = a + 1 := by rw [b5 0 (by omega), sr]
    have ka1 : gK hj (a + 1) = 2 := by rw [c1, sk1]
    have na1 : gN hj (a + 1) = 60 := by rw [c2, sn1]
    have s3j : gI hj a 3 = iv (sSz w s) := by rw [b3 3 (by omega) a12, s3]
    have kM : gK hj (A m) = 106 := by rw [m1]; exact oM_k hM
    by_cases has : 0 ≤ i ∧ i + ((j * (G + C) + (G + C) : Nat) : Int) ≤ sSz w s
    · obtain ⟨h0, h1'⟩ := has
      have ch := c_has1 (h := hj) (a := a) (i := i + ((j * (G + C) : Nat) : Int)) (n := ((G + C : Nat) : Int)) (z := sSz w s) kj s3j (by omega) (by omega) y6 (by omega)
      have el : ∀ q : Nat, q < G + C → gJ hj (a + 1) (i + (j : Int) * ((G + C : Nat) : Int) + (q : Int)).toNat = sEl w (60 * s + i + ((j * (G + C) + q : Nat) : Int)) := fun q hq => by
        rw [c4, sd _ (by omega) (by omega), jw]
        congr 1; push_cast; omega
      have cp : ∀ (q N2 q0 : Nat), q < N2 → q0 + q = G + C → ∃ N3, lp (b_X11_boxes_106 (lp b_X11_boxes_77 (fun _ _ _ _ _ _ _ _ => none) N)) (fun _ _ _ _ _ _ _ _ _ => none) N2 3 (iv i) (iv n) (A m) a (iv ((G + C : Nat) : Int)) (iv j) (iv q0) (fiC hj 78 (boU w s i (G + C) j) q0) = lp (b_X11_boxes_106 (lp b_X11_boxes_77 (fun _ _ _ _ _ _ _ _ => none) N)) (fun _ _ _ _ _ _ _ _ _ => none) (N3 + 1) 3 (iv i) (iv n) (A m) a (iv ((G + C : Nat) : Int)) (iv j) (iv ((G + C : Nat) : Int)) (fiC hj 78 (boU w s i (G + C) j) (G + C)) := by
        intro q
        induction q with
        | zero =>
          intro N2 q0 hN2 hq
          obtain ⟨N2, rfl⟩ : ∃ N', N2 = N' + 1 := ⟨N2 - 1, by omega⟩
          exact ⟨N2, by rw [show q0 = G + C by omega]⟩
        | succ q ihq =>
          intro N2 q0 hN2 hq
          obtain ⟨N2, rfl⟩ : ∃ N', N2 = N' + 1 := ⟨N2 - 1, by omega⟩
          obtain ⟨N3, e3'⟩ := ihq N2 (q0 + 1) (by omega) (by omega)
          refine ⟨N3, ?_⟩
          rw [← e3', show ((q0 + 1 : Nat) : Int) = (q0 : Int) + 1 by omega]
          clear e3' ihq ih
          have elq := el q0 (by omega)
          have eE : (sEl w (60 * s + i + ((j * (G + C) + q0 : Nat) : Int))).toInt32 = iv (boU w s i (G + C) j q0) := toI_iv _
          have qt : (q0 : Int).toNat = q0 := Int.toNat_natCast q0
          have ib0 : 0 ≤ i + (j : Int) * ((G + C : Nat) : Int) + (q0 : Int) ∧ i + (j : Int) * ((G + C : Nat) : Int) + (q0 : Int) < 60 := by rw [jw]; omega
          show _ = lp (b_X11_boxes_106 (lp b_X11_boxes_77 (fun _ _ _ _ _ _ _ _ => none) N)) (fun _ _ _ _ _ _ _ _ _ => none) N2 3 (iv i) (iv n) (A m) a (iv ((G + C : Nat) : Int)) (iv j) (iv ((q0 : Int) + 1)) (sI (fiC hj 78 (boU w s i (G + C) j) q0) 78 q0 (iv (boU w s i (G + C) j q0)))
          generalize lp b_X11_boxes_77 (fun _ _ _ _ _ _ _ _ => none) N = self
          simp -implicitDefEqProofs (disch := omega) only [lp_succ, F_b_X11_boxes_106, fiC_K, fiC_N, fiC_R, fiC_J, kj, kj3, r38, k12, n12', ra, ka1, na1, elq, eE, qt, iv_add, iv_sub, iv_mul, iv_neg, iv_zero, iv_ltT, iv_ltF, iv_leT, iv_leF, iv_eqT, iv_eqF, iv_div, rm_iv, tn_iv, ib_iv, some_cb, some_cbv, ↓nm_eq, ↓reduceIte, true_and, and_true, Bool.true_eq_false, Bool.false_eq_true, not_false_eq_true, not_true_eq_false]
      obtain ⟨N3, cp3⟩ := cp (G + C) FU 0 (FU_gt (by omega)) (by omega)
      change lp (b_X11_boxes_106 (lp b_X11_boxes_77 (fun _ _ _ _ _ _ _ _ => none) N)) (fun _ _ _ _ _ _ _ _ _ => none) FU 3 (iv i) (iv n) (A m) a (iv ((G + C : Nat) : Int)) (iv j) (iv 0) hj = _ at cp3
      clear cp
      have H : AdC (fiC hj 78 (boU w s i (G + C) j) (G + C)) (A m) (B + j) G C 78 0 (boU w s i (G + C) j) := by
        refine ⟨⟨by rw [fiC_K]; exact kM, ?_, ?_, ?_, ?_, ?_, ?_⟩, ⟨am, by rw [fiC_C]; omega, by omega⟩, ⟨by omega, by omega, by omega, by omega, hbj⟩, ⟨by rw [fiC_K]; exact k12, by omega, by rw [fiC_N, n12']; omega, by rw [fiC_N, n12']; omega⟩, fun q hq => ⟨?_, ?_⟩⟩
        · rw [fiC_I _ (by omega), m3 _ (by omega) (by omega), oM_0 hM, hG]
        · rw [fiC_I _ (by omega), m3 _ (by omega) (by omega), oM_1 hM, hC]
        · rw [fiC_I _ (by omega), v4]; congr 1
        · rw [fiC_R, m5 _ (by omega)]; exact oM_2 hM
        · rw [fiC_K, p1]; exact oM_k1 hM
        · rw [fiC_N, p2]; exact oM_n1 hM
        · rw [show ((0 : Int) + (q : Int)).toNat = q by omega, fiC_v, if_pos hq]
        · have r := ((hS.S s0 s1).2.2.2 (i + ((j * (G + C) + q : Nat) : Int)) (by omega) (by omega)).2.1 so
          rw [← Int.add_assoc] at r
          unfold boU
          omega
      have ub : (iv (j : Int)) + iv 1 = iv ((j : Int) + 1) := iv_add _ _
      by_cases ok : wBx w m + j < 12 ∧ AdOK G C (boU w s i (G + C) j)
      · have ad := c_addY H (by omega) ok.2
        obtain ⟨K, hf, q1, q2, q3, q4, q5, q6⟩ := ih N (j + 1) (by omega) (by omega) (Or.inr h0) (by omega)
        refine ⟨K, hf, ?_, by omega, q3, fun j' y z => ?_, q5, q6⟩
        · have eb : boH h (A m) B G C (boU w s i (G + C)) (j + 1) = abC (fiC hj 78 (boU w s i (G + C) j) (G + C)) (A m) (B + j) G C (boU w s i (G + C) j) := by
            rw [← ehj]; rfl
          rw [eb, show ((j + 1 : Nat) : Int) = (j : Int) + 1 by omega] at q1
          rw [← q1]
          clear q1 q4 q5 q6 ih el
          have fk3 : gK (fiC hj 78 (boU w s i (G + C) j) (G + C)) 3 = 111 := by rw [fiC_K]; exact kj3
          have fkM : gK (fiC hj 78 (boU w s i (G + C) j) (G + C)) (A m) = 106 := by rw [fiC_K]; exact kM
          have fr3 : gR (fiC hj 78 (boU w s i (G + C) j) (G + C)) 3 8 = 78 := by rw [fiC_R]; exact r38
          rw [lp_succ]
          generalize lp b_X11_boxes_77 (fun _ _ _ _ _ _ _ _ => none) N = self at *
          have e2 : lp (b_X11_boxes_106 self) (fun _ _ _ _ _ _ _ _ _ => none) (N3 + 1) 3 (iv i) (iv n) (A m) a (iv ((G + C : Nat) : Int)) (iv j) (iv ((G + C : Nat) : Int)) (fiC hj 78 (boU w s i (G + C) j) (G + C)) = self 3 (iv i) (iv n) (A m) a (iv ((G + C : Nat) : Int)) (iv ((j : Int) + 1)) (abC (fiC hj 78 (boU w s i (G + C) j) (G + C)) (A m) (B + j) G C (boU w s i (G + C) j)) := by
            simp -implicitDefEqProofs (disch := omega) only [lp_succ, F_b_X11_boxes_106, k_X11_boxes_106_1, fk3, fkM, fr3, ad, iv_add, iv_sub, iv_mul, iv_neg, iv_zero, iv_ltT, iv_ltF, iv_leT, iv_leF, iv_eqT, iv_eqF, iv_div, rm_iv, tn_iv, ib_iv, some_cb, some_cbv, ↓nm_eq, ↓reduceIte, true_and, and_true, Bool.true_eq_false, Bool.false_eq_true, not_false_eq_true, not_true_eq_false]
          rw [e2] at cp3
          simp -implicitDefEqProofs (disch := omega) only [F_b_X11_boxes_77, k_X11_boxes_77_1, f_X11_boxes_106, kj, jw, ch, iv_l, jv_add, cp3, iv_add, iv_sub, iv_mul, iv_neg, iv_zero, iv_ltT, iv_ltF, iv_leT, iv_leF, iv_eqT, iv_eqF, iv_div, rm_iv, tn_iv, ib_iv, some_cb, some_cbv, ↓nm_eq, ↓reduceIte, true_and, and_true, Bool.true_eq_false, Bool.false_eq_true, not_false_eq_true, not_true_eq_false]
        · by_cases z' : j' = j
          · subst z'
            exact ⟨⟨h0, h1'⟩, ok⟩
          · exact q4 j' (by omega) z
      · have ad : f_X6_addBox (A m) 78 (iv 0) (fiC hj 78 (boU w s i (G + C) j) (G + C)) = some (iv 0, fiC hj 78 (boU w s i (G + C) j) (G + C)) := by
          by_cases b12 : B + j < 12
          · exact c_addN H b12 (fun y => ok ⟨by omega, y⟩)
          · exact c_addF (b := ((B + j : Nat) : Int)) H.1.1 H.1.2.2.2.1 (by omega) (by omega)
        refine ⟨j, fiC hj 78 (boU w s i (G + C) j) (G + C), ?_, Nat.le_refl _, by omega, fun j' y z => by omega, fun _ y => ok y.2, Or.inr (by rw [ehj])⟩
        have fk3 : gK (fiC hj 78 (boU w s i (G + C) j) (G + C)) 3 = 111 := by rw [fiC_K]; exact kj3
        have fkM : gK (fiC hj 78 (boU w s i (G + C) j) (G + C)) (A m) = 106 := by rw [fiC_K]; exact kM
        have fr3 : gR (fiC hj 78 (boU w s i (G + C) j) (G + C)) 3 8 = 78 := by rw [fiC_R]; exact r38
        rw [lp_succ]
        generalize lp b_X11_boxes_77 (fun _ _ _ _ _ _ _ _ => none) N = self at *
        have e2 : lp (b_X11_boxes_106 self) (fun _ _ _ _ _ _ _ _ _ => none) (N3 + 1) 3 (iv i) (iv n) (A m) a (iv ((G + C : Nat) : Int)) (iv j) (iv ((G + C : Nat) : Int)) (fiC hj 78 (boU w s i (G + C) j) (G + C)) = some (iv j, fiC hj 78 (boU w s i (G + C) j) (G + C)) := by
          simp -implicitDefEqProofs (disch := omega) only [lp_succ, F_b_X11_boxes_106, k_X11_boxes_106_1, fk3, fkM, fr3, ad, iv_add, iv_sub, iv_mul, iv_neg, iv_zero, iv_ltT, iv_ltF, iv_leT, iv_leF, iv_eqT, iv_eqF, iv_div, rm_iv, tn_iv, ib_iv, some_cb, some_cbv, ↓nm_eq, ↓reduceIte, true_and, and_true, Bool.true_eq_false, Bool.false_eq_true, not_false_eq_true, not_true_eq_false]
        rw [e2] at cp3
        simp -implicitDefEqProofs (disch := omega) only [F_b_X11_boxes_77, k_X11_boxes_77_1, f_X11_boxes_106, kj, jw, ch, iv_l, jv_add, cp3, iv_add, iv_sub, iv_mul, iv_neg, iv_zero, iv_ltT, iv_ltF, iv_leT, iv_leF, iv_eqT, iv_eqF, iv_div, rm_iv, tn_iv, ib_iv, some_cb, some_cbv, ↓nm_eq, ↓reduceIte, true_and, and_true, Bool.true_eq_false, Bool.false_eq_true, not_false_eq_true, not_true_eq_false]
    · have jz : j = 0 ∧ j * (G + C) = 0 ∨ 0 ≤ i := by
        rcases hj0 with y | y
        · exact Or.inl ⟨y, by rw [y, Nat.zero_mul]⟩
        · exact Or.inr y
      have ch := c_hasL (h := hj) (a := a) (i := i + ((j * (G + C) : Nat) : Int)) (n := ((G + C : Nat) : Int)) (z := sSz w s) kj s3j (by omega) (by omega) (by omega) (by omega) y5 y6 (by omega)
      refine ⟨j, hj, ?_, Nat.le_refl _, by omega, fun j' y z => by omega, fun _ y => has y.1, Or.inl ehj.symm⟩
      simp -implicitDefEqProofs (disch := omega) only [lp_succ, F_b_X11_boxes_77, k_X11_boxes_77_1, kj, jw, ch, iv_l, jv_add, iv_add, iv_sub, iv_mul, iv_neg, iv_zero, iv_ltT, iv_ltF, iv_leT, iv_leF, iv_eqT, iv_eqF, iv_div, rm_iv, tn_iv, ib_iv, some_cb, some_cbv, ↓nm_eq, ↓reduceIte, true_and, and_true, Bool.true_eq_false, Bool.false_eq_true, not_false_eq_true, not_true_eq_false]
end Q
