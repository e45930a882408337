/-! boxes that come out even, and rows made empty -/
section R
variable {h : AH} {r M b G C : Nat} {u : Nat → Int} {o : Int}
def EvC (h : AH) (G C r : Nat) (o : Int) (u : Nat → Int) : Prop := (2 ≤ G ∧ G ≤ 4 ∧ 2 ≤ C ∧ C ≤ 3) ∧ (gK h r = 1 ∧ 0 ≤ o ∧ o + G + C ≤ gN h r ∧ gN h r ≤ 200) ∧ ∀ j : Nat, j < G + C → gI h r (o + j).toNat = iv (u j)
set_option maxRecDepth 100000 in
theorem c_evr1 (H : EvC h G C r o u) (hu : ∀ j : Nat, j < G + C → 0 ≤ u j ∧ u j ≤ 99) (n : Nat) : ∀ (N j : Nat), n < N → j + n = G → lp b_X9_isEven_6 (fun _ _ _ _ _ _ _ => none) N r (iv o) (iv G) (iv C) (iv (suU u j)) (iv j) h = f_X9_isEven_32 r (iv o) (iv G) (iv C) (iv (suU u G)) (iv 0) h := by
  obtain ⟨⟨g0, g1, c0, c1⟩, ⟨k0, o0, o1, o2⟩, hv⟩ := H
  induction n with
  | zero =>
    intro N j hN hj
    obtain ⟨N, rfl⟩ : ∃ N', N = N' + 1 := ⟨N - 1, by omega⟩
    obtain rfl : j = G := by omega
    simp -implicitDefEqProofs (disch := omega) only [lp_succ, F_b_X9_isEven_6, iv_add, iv_sub, iv_mul, iv_neg, iv_zero, iv_ltT, iv_ltF, iv_leT, iv_leF, iv_eqT, iv_eqF, iv_div, rm_iv, tn_iv, ib_iv, some_cb, some_cbv, ↓nm_eq, ↓reduceIte, true_and, and_true, Bool.true_eq_false, Bool.false_eq_true, not_false_eq_true, not_true_eq_false]
  | succ n ih =>
    intro N j hN hj
    obtain ⟨N, rfl⟩ : ∃ N', N = N' + 1 := ⟨N - 1, by omega⟩
    rw [← ih N (j + 1) (by omega) (by omega), show ((j + 1 : Nat) : Int) = (j : Int) + 1 by omega]
    have e := hv j (by omega)
    show _ = lp b_X9_isEven_6 (fun _ _ _ _ _ _ _ => none) N r (iv o) (iv G) (iv C) (iv (suU u j + u j)) (iv ((j : Int) + 1)) h
    simp -implicitDefEqProofs (disch := omega) only [lp_succ, F_b_X9_isEven_6, k0, e, iv_add, iv_sub, iv_mul, iv_neg, iv_zero, iv_ltT, iv_ltF, iv_leT, iv_leF, iv_eqT, iv_eqF, iv_div, rm_iv, tn_iv, ib_iv, some_cb, some_cbv, ↓nm_eq, ↓reduceIte, true_and, and_true, Bool.true_eq_false, Bool.false_eq_true, not_false_eq_true, not_true_eq_false]
set_option maxRecDepth 100000 in
theorem c_evr2 (H : EvC h G C r o u) (hu : ∀ j : Nat, j < G + C → 0 ≤ u j ∧ u j ≤ 99) (n : Nat) : ∀ (N j : Nat), n < N → j + n = C → lp b_X9_isEven_32 (fun _ _ _ _ _ _ _ => none) N r (iv o) (iv G) (iv C) (iv (suU u G - suU (fun k => u (G + k)) j)) (iv j) h = some (iv (if suU u G = suU (fun k => u (G + k)) C then 1 else 0), h) := by
  obtain ⟨⟨g0, g1, c0, c1⟩, ⟨k0, o0, o1, o2⟩, hv⟩ := H
  induction n with
  | zero =>
    intro N j hN hj
    obtain ⟨N, rfl⟩ : ∃ N', N = N' + 1 := ⟨N - 1, by omega⟩
    obtain rfl : j = C := by omega
    have s1 := suU_rng (u := u) G (fun i hi => hu i (by omega))
    have s2 := suU_rng (u := fun k => u (G + k)) j (fun i hi => hu (G + i) (by omega))
    by_cases q : suU u G = suU (fun k => u (G + k)) j
    · rw [if_pos q]
      simp -implicitDefEqProofs (disch := omega) only [lp_succ, F_b_X9_isEven_32, zret0, zret1, iv_add, iv_sub, iv_mul, iv_neg, iv_zero, iv_ltT, iv_ltF, iv_leT, iv_leF, iv_eqT, iv_eqF, iv_div, rm_iv, tn_iv, ib_iv, some_cb, some_cbv, ↓nm_eq, ↓reduceIte, true_and, and_true, Bool.true_eq_false, Bool.false_eq_true, not_false_eq_true, not_true_eq_false]
    · rw [if_neg q]
      simp -implicitDefEqProofs (disch := omega) only [lp_succ, F_b_X9_isEven_32, zret0, zret1, iv_add, iv_sub, iv_mul, iv_neg, iv_zero, iv_ltT, iv_ltF, iv_leT, iv_leF, iv_eqT, iv_eqF, iv_div, rm_iv, tn_iv, ib_iv, some_cb, some_cbv, ↓nm_eq, ↓reduceIte, true_and, and_true, Bool.true_eq_false, Bool.false_eq_true, not_false_eq_true, not_true_eq_false]
  | succ n ih =>
    intro N j hN hj
    obtain ⟨N, rfl⟩ : ∃ N', N = N' + 1 := ⟨N - 1, by omega⟩
    rw [← ih N (j + 1) (by omega) (by omega), show ((j + 1 : Nat) : Int) = (j : Int) + 1 by omega]
    have e := hv (G + j) (by omega)
    rw [show o + ((G + j : Nat) : Int) = o + G + j by omega] at e
    show _ = lp b_X9_isEven_32 (fun _ _ _ _ _ _ _ => none) N r (iv o) (iv G) (iv C) (iv (suU u G - (suU (fun k => u (G + k)) j + u (G + j)))) (iv ((j : Int) + 1)) h
    rw [← Int.sub_sub]
    simp -implicitDefEqProofs (disch := omega) only [lp_succ, F_b_X9_isEven_32, k0, e, iv_add, iv_sub, iv_mul, iv_neg, iv_zero, iv_ltT, iv_ltF, iv_leT, iv_leF, iv_eqT, iv_eqF, iv_div, rm_iv, tn_iv, ib_iv, some_cb, some_cbv, ↓nm_eq, ↓reduceIte, true_and, and_true, Bool.true_eq_false, Bool.false_eq_true, not_false_eq_true, not_true_eq_false]
set_option maxRecDepth 100000 in
theorem c_evr (H : EvC h G C r o u) (hu : ∀ j : Nat, j < G + C → 0 ≤ u j ∧ u j ≤ 99) : f_X9_isEven r (iv o) (iv G) (iv C) h = some (iv (if suU u G = suU (fun k => u (G + k)) C then 1 else 0), h) := by
  have hC := H.1
  have l1 := c_evr1 H hu G FU 0 (FU_gt (by omega)) (by omega)
  have l2 := c_evr2 H hu C FU 0 (FU_gt (by omega)) (by omega)
  rw [show suU (fun k => u (G + k)) 0 = 0 from rfl, Int.sub_zero] at l2
  exact l1.trans l2
end R
def unF (G C : Nat) (us : Nat → Nat → Int) : Nat → Nat → Int
  | 0, _ => -1
  | n + 1, j => if suU (us j) G = suU (fun k => us j (G + k)) C then unF G C us n (j + 1) else j
/-- the world that a heap's rows tell -/
def hpW (h : AH) : WD := ((fun a z => if a = 91 then (if z = 0 then (gI h 91 0).toInt else if z = 19 then (gI h 91 19).toInt else if z = 20 then (gI h 91 20).toInt else (gI h 91 23).toInt) else (gI h a z.toNat).toInt), fun z => gJ h 115 z.toNat)
theorem hpW_RR (h : AH) : RR (hpW h) h := ⟨fun a z z1 z2 z3 => by
  show _ = iv (if a = 91 then _ else (gI h a z.toNat).toInt)
  rw [if_neg (by omega), iv_self], (iv_self _).symm, (iv_self _).symm, (iv_self _).symm, (iv_self _).symm, fun z hz => rfl⟩
section Q
variable {w : WD} {h h' h1 h2 : AH} {p : Int} {m K G C : Nat} {us : Nat → Nat → Int}
theorem unF_rng (n : Nat) : ∀ j, unF G C us n j = -1 ∨ (j ≤ unF G C us n j ∧ unF G C us n j < j + n) := by
  induction n with
  | zero => exact fun j => Or.inl rfl
  | succ n ih =>
    intro j
    show (if suU (us j) G = suU (fun k => us j (G + k)) C then unF G C us n (j + 1) else j) = -1 ∨ _ ≤ (if suU (us j) G = suU (fun k => us j (G + k)) C then unF G C us n (j + 1) else j) ∧ (if suU (us j) G = suU (fun k => us j (G + k)) C then unF G C us n (j + 1) else j) < _
    by_cases z : suU (us j) G = suU (fun k => us j (G + k)) C
    · rw [if_pos z]
      have := ih (j + 1)
      omega
    · rw [if_neg z]; omega
theorem unF_ok (n : Nat) : ∀ j, unF G C us n j = -1 → ∀ i, j ≤ i → i < j + n → suU (us i) G = suU (fun k => us i (G + k)) C := by
  induction n with
  | zero => exact fun j e i y z => by omega
  | succ n ih =>
    intro j e i y z
    change (if suU (us j) G = suU (fun k => us j (G + k)) C then unF G C us n (j + 1) else j) = -1 at e
    by_cases q : suU (us j) G = suU (fun k => us j (G + k)) C
    · rw [if_pos q] at e
      by_cases t : i = j
      · rw [t]; exact q
      · exact ih (j + 1) e i (by omega) (by omega)
    · rw [if_neg q] at e; omega
set_option maxRecDepth 100000 in
theorem c_uneven (H : TSt w h p (K : Nat) G C) (k12 : K ≤ 12) (g2 : 2 ≤ G) (g4 : G ≤ 4) (c2 : 2 ≤ C) (c3 : C ≤ 3) (hv : ∀ j, j < K → ∀ q, q < G + C → gI h 6 (j * (G + C) + q) = iv (us j q)) (hr : ∀ j, j < K → ∀ q, q < G + C → 0 ≤ us j q ∧ us j q ≤ 99) : f_X9_firstUneven 4 h = some (iv (unF G C us K 0), h) := by
  obtain ⟨⟨a1, a2, a3, a4, a5, a6, a7⟩, ⟨b1, b2, b3, b4, b5⟩, -⟩ := id H
  have l : ∀ (n N j : Nat), n < N → j + n = K → lp b_X9_firstUneven_2 (fun _ _ _ => none) N 4 (iv j) h = some (iv (unF G C us n j), h) := by
    intro n
    induction n with
    | zero =>
      intro N j hN hj
      obtain ⟨N, rfl⟩ : ∃ N', N = N' + 1 := ⟨N - 1, by omega⟩
      obtain rfl : j = K := by omega
      show _ = some (iv (-1), h)
      simp -implicitDefEqProofs (disch := omega) only [lp_succ, F_b_X9_firstUneven_2, a1, b5, iv_add, iv_sub, iv_mul, iv_neg, iv_zero, iv_ltT, iv_ltF, iv_leT, iv_leF, iv_eqT, iv_eqF, iv_div, rm_iv, tn_iv, ib_iv, some_cb, some_cbv, ↓nm_eq, ↓reduceIte, true_and, and_true, Bool.true_eq_false, Bool.false_eq_true, not_false_eq_true, not_true_eq_false]
    | succ n ih =>
      intro N j hN hj
      obtain ⟨N, rfl⟩ : ∃ N', N = N' + 1 := ⟨N - 1, by omega⟩
      have jw : (j : Int) * ((G : Int) + C) = ((j * (G + C) : Nat) : Int) := by push_cast; rfl
      have jb : j * (G + C) + (G + C) ≤ 84 := by
        have : (j + 1) * (G + C) ≤ 12 * 7 := Nat.mul_le_mul (by omega) (by omega)
        rw [Nat.succ_mul] at this; omega
      have ev := c_evr (h := h) (r := 6) (G := G) (C := C) (u := us j) (o := ((j * (G + C) : Nat) : Int)) ⟨⟨g2, g4, c2, c3⟩, ⟨a6, by omega, by rw [a7]; omega, by rw [a7]; omega⟩, fun q hq => by
        rw [show (((j * (G + C) : Nat) : Int) + (q : Int)).toNat = j * (G + C) + q by omega]
        exact hv j (by omega) q hq⟩ (hr j (by omega))
      show _ = some (iv (if suU (us j) G = suU (fun k => us j (G + k)) C then unF G C us n (j + 1) else j), h)
      by_cases z : suU (us j) G = suU (fun k => us j (G + k)) C
      · rw [if_pos z] at ev ⊢
        rw [← ih N (j + 1) (by omega) (by omega), show ((j + 1 : Nat) : Int) = (j : Int) + 1 by omega]
        simp -implicitDefEqProofs (disch := omega) only [lp_succ, F_b_X9_firstUneven_2, k_X9_firstUneven_2_1, a1, a3, b3, b4, b5, jw, ev, iv_add, iv_sub, iv_mul, iv_neg, iv_zero, iv_ltT, iv_ltF, iv_leT, iv_leF, iv_eqT, iv_eqF, iv_div, rm_iv, tn_iv, ib_iv, some_cb, some_cbv, ↓nm_eq, ↓reduceIte, true_and, and_true, Bool.true_eq_false, Bool.false_eq_true, not_false_eq_true, not_true_eq_false]
      · rw [if_neg z] at ev ⊢
        simp -implicitDefEqProofs (disch := omega) only [lp_succ, F_b_X9_firstUneven_2, k_X9_firstUneven_2_1, a1, a3, b3, b4, b5, jw, ev, iv_add, iv_sub, iv_mul, iv_neg, iv_zero, iv_ltT, iv_ltF, iv_leT, iv_leF, iv_eqT, iv_eqF, iv_div, rm_iv, tn_iv, ib_iv, some_cb, some_cbv, ↓nm_eq, ↓reduceIte, true_and, and_true, Bool.true_eq_false, Bool.false_eq_true, not_false_eq_true, not_true_eq_false]
  exact l K FU 0 (FU_gt (by omega)) (by omega)
/-- what the reference's rows hold of a matter that was read -/
def MaV (h : AH) (m K G C : Nat) (us : Nat → Nat → Int) : Prop := (gI h 92 m = iv G ∧ gI h 93 m = iv C ∧ gI h 94 m = iv K) ∧ ∀ j, j < K → (∀ g, g < G → gI h 95 (4 * (12 * m + j) + g) = iv (us j g)) ∧ (∀ c, c < C → gI h 96 (3 * (12 * m + j) + c) = iv (us j (G + c))) ∧ (C = 2 → gI h 96 (3 * (12 * m + j) + 2) = iv 0)
set_option maxRecDepth 100000 in
theorem q_evens (m4 : m < 4) (k12 : K ≤ 12) (g2 : 2 ≤ G) (g4 : G ≤ 4) (c2 : 2 ≤ C) (c3 : C ≤ 3) (hr : ∀ j, j < K → ∀ q, q < G + C → 0 ≤ us j q ∧ us j q ≤ 99) (n : Nat) : ∀ (N j : Nat) (h : AH), n < N → j + n = K → Fix h → MaV h m K G C us → ∃ h', QG h h' m ∧ (∀ a i, (a ≠ 97 ∧ a ≠ 98 ∧ a ≠ 100) ∨ i < 12 * m + j → gI h' a i = gI h a i) ∧ (unF G C us n j = -1 → lp b_X12_matter_49 (fun _ _ _ _ => none) N 91 (iv m) (iv j) h = f_X12_matter_108 91 (iv m) (iv 0) h' ∧ ∀ i, j ≤ i → i < K → gI h' 97 (12 * m + i) = iv (suU (us i) G) ∧ gI h' 98 (12 * m + i) = iv 0 ∧ gI h' 100 (12 * m + i) = iv 0) ∧ (unF G C us n j ≠ -1 → lp b_X12_matter_49 (fun _ _ _ _ => none) N 91 (iv m) (iv j) h = some (iv (-400 - unF G C us n j), h')) := by
  have mt : (m : Int).toNat = m := Int.toNat_natCast m
  induction n with
  | zero =>
    intro N j h hN hj hF V
    obtain ⟨N, rfl⟩ : ∃ N', N = N' + 1 := ⟨N - 1, by omega⟩
    obtain rfl : j = K := by omega
    obtain ⟨⟨v1, v2, v3⟩, -⟩ := V
    refine ⟨h, QG.rf _ _, fun _ _ _ => rfl, fun _ => ⟨?_, fun i y z => by omega⟩, fun y => absurd rfl y⟩
    simp -implicitDefEqProofs (disch := omega) only [lp_succ, F_b_X12_matter_49, K91 hF, R91_3 hF, K94 hF, N94 hF, mt, v3, iv_add, iv_sub, iv_mul, iv_neg, iv_zero, iv_ltT, iv_ltF, iv_leT, iv_leF, iv_eqT, iv_eqF, iv_div, rm_iv, tn_iv, ib_iv, some_cb, some_cbv, ↓nm_eq, ↓reduceIte, true_and, and_true, Bool.true_eq_false, Bool.false_eq_true, not_false_eq_true, not_true_eq_false]
  | succ n ih =>
    intro N j h hN hj hF V
    obtain ⟨N, rfl⟩ : ∃ N', N = N' + 1 := ⟨N - 1, by omega⟩
    obtain ⟨⟨v1, v2, v3⟩, vj⟩ := id V
    obtain ⟨w1, w2, w3⟩ := vj j (by omega)
    have rg := hr j (by omega)
    have RRh := hpW_RR h
    have ex : 12 * (m : Int) + (j : Int) = ((12 * m + j : Nat) : Int) := by omega
    have xt : ((12 * m + j : Nat) : Int).toNat = 12 * m + j := Int.toNat_natCast _
    have eG : (G : Int) = wGr (hpW h) m := by
      show (G : Int) = (gI h 92 (m : Int).toNat).toInt
      rw [mt, v1, iv_int (by omega) (by omega)]
    have eg : ∀ g : Nat, g < G → wG (hpW h) ((12 * m + j : Nat) : Int) g = us j g := fun g hg => by
      show (gI h 95 (4 * ((12 * m + j : Nat) : Int) + (g : Int)).toNat).toInt = us j g
      have := rg g (by omega)
      rw [show (4 * ((12 * m + j : Nat) : Int) + (g : Int)).toNat = 4 * (12 * m + j) + g by omega, w1 g hg, iv_int (by omega) (by omega)]
    have ec : ∀ c : Nat, c < C → wC (hpW h) ((12 * m + j : Nat) : Int) c = us j (G + c) := fun c hc => by
      show (gI h 96 (3 * ((12 * m + j : Nat) : Int) + (c : Int)).toNat).toInt = us j (G + c)
      have := rg (G + c) (by omega)
      rw [show (3 * ((12 * m + j : Nat) : Int) + (c : Int)).toNat = 3 * (12 * m + j) + c by omega, w2 c hc, iv_int (by omega) (by omega)]
    have eC : wC (hpW h) ((12 * m + j : Nat) : Int) 0 + wC (hpW h) ((12 * m + j : Nat) : Int) 1 + wC (hpW h) ((12 * m + j : Nat) : Int) 2 = suU (fun k => us j (G + k)) C := by
      have r0 := ec 0 (by omega)
      have r1 := ec 1 (by omega)
      rw [show ((0 : Nat) : Int) = 0 from rfl] at r0
      rw [show ((1 : Nat) : Int) = 1 from rfl] at r1
      rcases (show C = 2 ∨ C = 3 by omega) with c | c
      · have r2 : wC (hpW h) ((12 * m + j : Nat) : Int) 2 = 0 := by
          show (gI h 96 (3 * ((12 * m + j : Nat) : Int) + 2).toNat).toInt = 0
          rw [show (3 * ((12 * m + j : Nat) : Int) + 2).toNat = 3 * (12 * m + j) + 2 by omega, w3 c, iv_int (by omega) (by omega)]
        subst c
        rw [r0, r1, r2]
        simp [suU]
      · have r2 := ec 2 (by omega)
        rw [show ((2 : Nat) : Int) = 2 from rfl] at r2
        subst c
        rw [r0, r1, r2]
        simp [suU]
    have sg := q_sumG hF RRh (m := m) (x := ((12 * m + j : Nat) : Int)) (by omega) (by omega) (by omega) (by omega) eG g4 eg
    have sc := q_sumC hF RRh (x := ((12 * m + j : Nat) : Int)) (by omega) (by omega)
    have be := q_begins0 hF RRh (m := m) (x := ((12 * m + j : Nat) : Int)) (by omega) (by omega) (by omega) (by omega) eG g4 eg
    rw [eC] at sc
    have s1 := suU_rng (u := us j) G (fun q hq => rg q (by omega))
    have s2 := suU_rng (u := fun k => us j (G + k)) C (fun q hq => rg (G + q) (by omega))
    have un : unF G C us (n + 1) j = if suU (us j) G = suU (fun k => us j (G + k)) C then unF G C us n (j + 1) else j := rfl
    rw [un]
    by_cases z : suU (us j) G = suU (fun k => us j (G + k)) C
    · rw [if_pos z]
      have hF2 : Fix (beQ h ((12 * m + j : Nat) : Int) (suU (us j) G)) := hF.fr (fun _ _ => rfl) (fun _ _ => rfl) (fun _ _ _ _ _ _ => rfl)
      have P : QG h (beQ h ((12 * m + j : Nat) : Int) (suU (us j) G)) m := by
        unfold beQ
        rw [xt]
        exact ((QG.put (by omega)).tr (QG.put (by omega))).tr (QG.put (by omega))
      have fr : ∀ a i, (a ≠ 97 ∧ a ≠ 98 ∧ a ≠ 100) ∨ i ≠ 12 * m + j → gI (beQ h ((12 * m + j : Nat) : Int) (suU (us j) G)) a i = gI h a i := fun a i y => by
        unfold beQ
        rw [xt, gI_sIo _ _ (by omega), gI_sIo _ _ (by omega), gI_sIo _ _ (by omega)]
      have V2 : MaV (beQ h ((12 * m + j : Nat) : Int) (suU (us j) G)) m K G C us := ⟨⟨by rw [fr _ _ (by omega)]; exact v1, by rw [fr _ _ (by omega)]; exact v2, by rw [fr _ _ (by omega)]; exact v3⟩, fun i hi => by
        obtain ⟨x1, x2, x3⟩ := vj i hi
        exact ⟨fun g hg => by rw [fr _ _ (by omega)]; exact x1 g hg, fun c hc => by rw [fr _ _ (by omega)]; exact x2 c hc, fun hc => by rw [fr _ _ (by omega)]; exact x3 hc⟩⟩
      obtain ⟨h', i1, i2, i3, i4⟩ := ih N (j + 1) _ (by omega) (by omega) hF2 V2
      have step : lp b_X12_matter_49 (fun _ _ _ _ => none) (N + 1) 91 (iv m) (iv j) h = lp b_X12_matter_49 (fun _ _ _ _ => none) N 91 (iv m) (iv ((j + 1 : Nat) : Int)) (beQ h ((12 * m + j : Nat) : Int) (suU (us j) G)) := by
        rw [show ((j + 1 : Nat) : Int) = (j : Int) + 1 by omega]
        clear ih i1 i2 i3 i4 eC eg ec
        simp -implicitDefEqProofs (disch := omega) only [lp_succ, F_b_X12_matter_49, k_X12_matter_49_1, k_X12_matter_49_2, k_X12_matter_49_3, K91 hF, R91_3 hF, K94 hF, N94 hF, mt, v3, ex, sg, sc, be, iv_add, iv_sub, iv_mul, iv_neg, iv_zero, iv_ltT, iv_ltF, iv_leT, iv_leF, iv_eqT, iv_eqF, iv_div, rm_iv, tn_iv, ib_iv, some_cb, some_cbv, ↓nm_eq, ↓reduceIte, true_and, and_true, Bool.true_eq_false, Bool.false_eq_true, not_false_eq_true, not_true_eq_false]
      refine ⟨h', P.tr i1, fun a i y => (i2 a i (by omega)).trans (fr a i (by omega)), fun u => ?_, fun u => ?_⟩
      · obtain ⟨e1, e2⟩ := i3 u
        refine ⟨by rw [step, e1], fun i y1 y2 => ?_⟩
        by_cases t : i = j
        · subst t
          rw [i2 _ _ (by omega), i2 _ _ (by omega), i2 _ _ (by omega)]
          unfold beQ
          rw [xt]
          refine ⟨?_, ?_, gI_sIs _ _ _ _⟩
          · rw [gI_sIo _ _ (by omega), gI_sIo _ _ (by omega), gI_sIs]
          · rw [gI_sIo _ _ (by omega), gI_sIs]
        · exact e2 i (by omega) y2
      · rw [step]; exact i4 u
    · rw [if_neg z]
      refine ⟨h, QG.rf _ _, fun _ _ _ => rfl, fun u => by omega, fun _ => ?_⟩
      clear ih eC eg ec
      simp -implicitDefEqProofs (disch := omega) only [lp_succ, F_b_X12_matter_49, k_X12_matter_49_1, k_X12_matter_49_2, k_X12_matter_49_3, K91 hF, R91_3 hF, K94 hF, N94 hF, mt, v3, ex, sg, sc, iv_add, iv_sub, iv_mul, iv_neg, iv_zero, iv_ltT, iv_ltF, iv_leT, iv_leF, iv_eqT, iv_eqF, iv_div, rm_iv, tn_iv, ib_iv, some_cb, some_cbv, ↓nm_eq, ↓reduceIte, true_and, and_true, Bool.true_eq_false, Bool.false_eq_true, not_false_eq_true, not_true_eq_false]
/-- weights and what is held, made empty; one matter more -/
def zwQ (h : AH) (m : Nat) : Nat → AH
  | 0 => h
  | c + 1 => sI (zwQ h m c) 102 (12 * m + c) (iv 0)
theorem zwQ_f (c : Nat) : (∀ a, gK (zwQ h m c) a = gK h a) ∧ (∀ a, gN (zwQ h m c) a = gN h a) ∧ (∀ a i, gR (zwQ h m c) a i = gR h a i) ∧ (∀ a i, gJ (zwQ h m c) a i = gJ h a i) ∧ gC (zwQ h m c) = gC h ∧ gS (zwQ h m c) = gS h ∧ (∀ a i, a ≠ 102 ∨ i < 12 * m ∨ 12 * m + c ≤ i → gI (zwQ h m c) a i = gI h a i) ∧ ∀ i, i < c → gI (zwQ h m c) 102 (12 * m + i) = iv 0 := by
  induction c with
  | zero => exact ⟨fun _ => rfl, fun _ => rfl, fun _ _ => rfl, fun _ _ => rfl, rfl, rfl, fun _ _ _ => rfl, fun i y => by omega⟩
  | succ c ih =>
    obtain ⟨i1, i2, i3, i4, i5, i6, i7, i8⟩ := ih
    refine ⟨i1, i2, i3, i4, i5, i6, fun a i y => (gI_sIo _ _ (by omega)).trans (i7 a i (by omega)), fun i y => ?_⟩
    by_cases z : i = c
    · rw [z]; exact gI_sIs _ _ _ _
    · exact (gI_sIo _ _ (by omega)).trans (i8 i (by omega))
set_option maxRecDepth 100000 in
theorem q_empt (m4 : m < 4) (hF : Fix h) (g0 : gI h 91 0 = iv m) : f_X12_matter_108 91 (iv m) (iv 0) h = some (iv m, sI (sI (zwQ h m 12) 103 m (iv 0)) 91 0 (iv ((m : Int) + 1))) := by
  have mt : (m : Int).toNat = m := Int.toNat_natCast m
  have l : ∀ (n N c : Nat), n < N → c + n = 12 → lp b_X12_matter_108 (fun _ _ _ _ => none) N 91 (iv m) (iv c) (zwQ h m c) = some (iv m, sI (sI (zwQ h m 12) 103 m (iv 0)) 91 0 (iv ((m : Int) + 1))) := by
    intro n
    induction n with
    | zero =>
      intro N c hN hc
      obtain ⟨N, rfl⟩ : ∃ N', N = N' + 1 := ⟨N - 1, by omega⟩
      obtain rfl : c = 12 := by omega
      obtain ⟨i1, i2, i3, i4, i5, i6, i7, i8⟩ := zwQ_f (h := h) (m := m) 12
      have hF2 : Fix (zwQ h m 12) := hF.fr (fun a _ => i1 a) (fun a _ => i2 a) (fun a j _ _ _ _ => i3 a j)
      have g0' : gI (zwQ h m 12) 91 0 = iv m := by rw [i7 _ _ (by omega), g0]
      generalize zwQ h m 12 = hz at *
      simp -implicitDefEqProofs (disch := omega) only [lp_succ, F_b_X12_matter_108, K91 hF2, R91_12 hF2, K103 hF2, N103 hF2, mt, gK_sI, gI_sIo, g0', iv_add, iv_sub, iv_mul, iv_neg, iv_zero, iv_ltT, iv_ltF, iv_leT, iv_leF, iv_eqT, iv_eqF, iv_div, rm_iv, tn_iv, ib_iv, some_cb, some_cbv, ↓nm_eq, ↓reduceIte, true_and, and_true, Bool.true_eq_false, Bool.false_eq_true, not_false_eq_true, not_true_eq_false]
    | succ n ih =>
      intro N c hN hc
      obtain ⟨N, rfl⟩ : ∃ N', N = N' + 1 := ⟨N - 1, by omega⟩
      rw [← ih N (c + 1) (by omega) (by omega), show ((c + 1 : Nat) : Int) = (c : Int) + 1 by omega]
      obtain ⟨i1, i2, i3, i4, i5, i6, i7, i8⟩ := zwQ_f (h := h) (m := m) c
      have hF2 : Fix (zwQ h m c) := hF.fr (fun a _ => i1 a) (fun a _ => i2 a) (fun a j _ _ _ _ => i3 a j)
      have xt : (12 * (m : Int) + (c : Int)).toNat = 12 * m + c := by omega
      show _ = lp b_X12_matter_108 (fun _ _ _ _ => none) N 91 (iv m) (iv ((c : Int) + 1)) (sI (zwQ h m c) 102 (12 * m + c) (iv 0))
      generalize zwQ h m c = hz at *
      simp -implicitDefEqProofs (disch := omega) only [lp_succ, F_b_X12_matter_108, K91 hF2, R91_11 hF2, K102 hF2, N102 hF2, xt, iv_add, iv_sub, iv_mul, iv_neg, iv_zero, iv_ltT, iv_ltF, iv_leT, iv_leF, iv_eqT, iv_eqF, iv_div, rm_iv, tn_iv, ib_iv, some_cb, some_cbv, ↓nm_eq, ↓reduceIte, true_and, and_true, Bool.true_eq_false, Bool.false_eq_true, not_false_eq_true, not_true_eq_false]
  exact l 12 FU 0 (FU_gt (by omega)) (by omega)
end Q
