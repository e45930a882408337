/-! none -/
def cS (t n s : Nat) : Bool := decide ((iv (s : Int) &&& (iv (t : Int) ^^^ iv (-1))) = 0) && decide (onN s = n)
theorem cS_iff {t n s : Nat} : cS t n s = true ↔ (iv (s : Int) &&& (iv (t : Int) ^^^ iv (-1))) = 0 ∧ onN s = n := by
  unfold cS
  rw [Bool.and_eq_true, decide_eq_true_iff, decide_eq_true_iff]
set_option maxRecDepth 100000 in
theorem q_ones (h : AH) {s : Nat} (hs : s < 256) : f_X12_ones (iv (s : Int)) h = some (iv (onN s : Int), h) := by
  have l : ∀ (n L j : Nat), n < L → j + n = 12 → lp b_X12_ones_4 (fun _ _ _ _ => none) L (iv (s : Int)) (onP (iv (s : Int)) j) (iv (j : Int)) h = some (onP (iv (s : Int)) 12, h) := by
    intro n
    induction n with
    | zero =>
      intro L j hL hj
      obtain ⟨L, rfl⟩ : ∃ L', L = L' + 1 := ⟨L - 1, by omega⟩
      have : j = 12 := by omega
      subst this
      simp -implicitDefEqProofs (disch := omega) only [lp_succ, F_b_X12_ones_4, iv_add, iv_sub, iv_mul, iv_neg, iv_zero, iv_ltT, iv_ltF, iv_leT, iv_leF, iv_eqT, iv_eqF, iv_div, rm_iv, tn_iv, ib_iv, some_cb, some_cbv, ↓nm_eq, ↓reduceIte, true_and, and_true, Bool.true_eq_false, Bool.false_eq_true, not_false_eq_true, not_true_eq_false]
    | succ n ih =>
      intro L j hL hj
      obtain ⟨L, rfl⟩ : ∃ L', L = L' + 1 := ⟨L - 1, by omega⟩
      have i := ih L (j + 1) (by omega) (by omega)
      have e : onP (iv (s : Int)) (j + 1) = onP (iv (s : Int)) j + ((iv (s : Int) >>> (iv (j : Int) &&& 31)) &&& iv 1) := rfl
      rw [e, show ((j + 1 : Nat) : Int) = (j : Int) + 1 by omega] at i
      rw [← i]
      simp -implicitDefEqProofs (disch := omega) only [lp_succ, F_b_X12_ones_4, iv_add, iv_sub, iv_mul, iv_neg, iv_zero, iv_ltT, iv_ltF, iv_leT, iv_leF, iv_eqT, iv_eqF, iv_div, rm_iv, tn_iv, ib_iv, some_cb, some_cbv, ↓nm_eq, ↓reduceIte, true_and, and_true, Bool.true_eq_false, Bool.false_eq_true, not_false_eq_true, not_true_eq_false]
  have e := l 12 FU 0 (FU_gt (by omega)) (by omega)
  rw [(B4 ⟨s, hs⟩).1] at e
  rw [← e]
  simp -implicitDefEqProofs (disch := omega) only [F_f_X12_ones, f_X12_ones_4, some_cb, some_cbv, ↓nm_eq, ↓reduceIte, true_and, and_true, Bool.true_eq_false, Bool.false_eq_true, not_false_eq_true, not_true_eq_false]
  rfl
set_option maxRecDepth 100000 in
theorem c_bits (h : AH) {s : Nat} (hs : s < 256) : f_J6_bitCount_0f7a4 (iv (s : Int)) h = some (iv (onN s : Int), h) := by
  rw [bc_eq, (B3 ⟨s, hs⟩).1, (B4 ⟨s, hs⟩).1]
section Q
variable {w : WD} {A : Int → Nat} {h hh h' : AH} {m g k : Int} {S T N : Int32}
noncomputable def nnF (w : WD) (m : Int) (s : Nat) : Option Int := if bigR w m (iv (s : Int)) = 1 then some (-4) else match resS w m (iv (s : Int)) 0 0 with | none => some (s : Int) | some _ => none
theorem nnF_b {s : Nat} (z : bigR w m (iv (s : Int)) = 1) : nnF w m s = some (-4) := if_pos z
theorem nnF_n {s : Nat} (z : bigR w m (iv (s : Int)) = 0) (e : resS w m (iv (s : Int)) 0 0 = none) : nnF w m s = some (s : Int) := by
  unfold nnF; rw [if_neg (by omega), e]
theorem nnF_s {s : Nat} {q : Int × Int} (z : bigR w m (iv (s : Int)) = 0) (e : resS w m (iv (s : Int)) 0 0 = some q) : nnF w m s = none := by
  unfold nnF; rw [if_neg (by omega), e]
set_option maxRecDepth 100000 in
theorem q_none42 (hS : Sim w A h) (hl : lvM w m) {t z : Nat} (ht : t < 256) (hz : z ≤ 12) (K : Nat → Int32 → Int32 → Int32 → AH → Option (Int32 × AH)) : ∀ (n L s : Nat) (hh : AH), n < L → s + n = t + 1 → Sc w A h hh → ∃ h' : AH, Sc w A h h' ∧ ((∃ r : Int, scI (nnF w m) (cS t z) n s = some r ∧ lp (b_X12_none_42 K) (fun _ _ _ _ _ _ => none) L 91 (iv m) (iv (t : Int)) (iv (z : Int)) (iv (s : Int)) hh = some (iv r, h')) ∨ (scI (nnF w m) (cS t z) n s = none ∧ lp (b_X12_none_42 K) (fun _ _ _ _ _ _ => none) L 91 (iv m) (iv (t : Int)) (iv (z : Int)) (iv (s : Int)) hh = K 91 (iv m) (iv (t : Int)) (iv ((z : Int) + 1)) h')) := by
  obtain ⟨⟨gg1, gg2⟩, ⟨gc1, gc2⟩, -⟩ := hS.W.mat hl
  intro n
  induction n with
  | zero =>
    intro L s hh hL hs sc
    obtain ⟨L, rfl⟩ : ∃ L', L = L' + 1 := ⟨L - 1, by omega⟩
    refine ⟨hh, sc, Or.inr ⟨rfl, ?_⟩⟩
    simp -implicitDefEqProofs (disch := omega) only [lp_succ, F_b_X12_none_42, iv_add, iv_sub, iv_mul, iv_neg, iv_zero, iv_ltT, iv_ltF, iv_leT, iv_leF, iv_eqT, iv_eqF, iv_div, rm_iv, tn_iv, ib_iv, some_cb, some_cbv, ↓nm_eq, ↓reduceIte, true_and, and_true, Bool.true_eq_false, Bool.false_eq_true, not_false_eq_true, not_true_eq_false]
  | succ n ih =>
    intro L s hh hL hs sc
    obtain ⟨L, rfl⟩ : ∃ L', L = L' + 1 := ⟨L - 1, by omega⟩
    have sim := hS.sc sc
    have hF := sim.F
    have e1 : (s : Int) + 1 = ((s + 1 : Nat) : Int) := by omega
    by_cases y1 : (iv (s : Int) &&& (iv (t : Int) ^^^ iv (-1))) = 0
    · have on := q_ones hh (s := s) (by omega)
      have o9 := (B4 ⟨s, by omega⟩).2
      dsimp only at o9
      by_cases y2 : onN s = z
      · have y := cS_iff.2 ⟨y1, y2⟩
        obtain ⟨g1, g2⟩ := q_goes sim hl (iv (s : Int)) (cc := 0) (g := 0) (k := 0) (by omega) (by omega) (by omega) (by omega) (by omega)
        rcases bigR_01 w m (iv (s : Int)) with ⟨b, -⟩ | ⟨b, -⟩
        · obtain ⟨h1, d1, d2, d3⟩ := g2 b
          have hF1 := (sim.sc d2).F
          cases er : resS w m (iv (s : Int)) 0 0 with
          | none =>
            rw [er] at d3
            have d3 : gI h1 91 33 = iv 0 := d3
            refine ⟨h1, sc.tr d2, Or.inl ⟨s, scI_y1 y (nnF_n b er), ?_⟩⟩
            simp -implicitDefEqProofs (disch := omega) only [lp_succ, F_b_X12_none_42, k_X12_none_42_1, k_X12_none_42_2, y1, on, y2, K91 hF, d1, K91 hF1, d3, iv_add, iv_sub, iv_mul, iv_neg, iv_zero, iv_ltT, iv_ltF, iv_leT, iv_leF, iv_eqT, iv_eqF, iv_div, rm_iv, tn_iv, ib_iv, some_cb, some_cbv, ↓nm_eq, ↓reduceIte, true_and, and_true, Bool.true_eq_false, Bool.false_eq_true, not_false_eq_true, not_true_eq_false]
          | some q =>
            rw [er] at d3
            obtain ⟨d4, -⟩ := d3
            rw [scI_y0 y (nnF_s b er)]
            obtain ⟨h', i1, i2⟩ := ih L (s + 1) h1 (by omega) (by omega) (sc.tr d2)
            refine ⟨h', i1, ?_⟩
            have st : lp (b_X12_none_42 K) (fun _ _ _ _ _ _ => none) (L + 1) 91 (iv m) (iv (t : Int)) (iv (z : Int)) (iv (s : Int)) hh = lp (b_X12_none_42 K) (fun _ _ _ _ _ _ => none) L 91 (iv m) (iv (t : Int)) (iv (z : Int)) (iv ((s + 1 : Nat) : Int)) h1 := by
              rw [← e1]
              simp -implicitDefEqProofs (disch := omega) only [lp_succ, F_b_X12_none_42, k_X12_none_42_1, k_X12_none_42_2, y1, on, y2, K91 hF, d1, K91 hF1, d4, iv_add, iv_sub, iv_mul, iv_neg, iv_zero, iv_ltT, iv_ltF, iv_leT, iv_leF, iv_eqT, iv_eqF, iv_div, rm_iv, tn_iv, ib_iv, some_cb, some_cbv, ↓nm_eq, ↓reduceIte, true_and, and_true, Bool.true_eq_false, Bool.false_eq_true, not_false_eq_true, not_true_eq_false]
            rw [st]; exact i2
        · have g1 := g1 b
          refine ⟨hh, sc, Or.inl ⟨-4, scI_y1 y (nnF_b b), ?_⟩⟩
          simp -implicitDefEqProofs (disch := omega) only [lp_succ, F_b_X12_none_42, k_X12_none_42_1, k_X12_none_42_2, y1, on, y2, K91 hF, g1, iv_add, iv_sub, iv_mul, iv_neg, iv_zero, iv_ltT, iv_ltF, iv_leT, iv_leF, iv_eqT, iv_eqF, iv_div, rm_iv, tn_iv, ib_iv, some_cb, some_cbv, ↓nm_eq, ↓reduceIte, true_and, and_true, Bool.true_eq_false, Bool.false_eq_true, not_false_eq_true, not_true_eq_false]
      · rw [scI_n (fun q => y2 (cS_iff.1 q).2)]
        obtain ⟨h', i1, i2⟩ := ih L (s + 1) hh (by omega) (by omega) sc
        refine ⟨h', i1, ?_⟩
        have st : lp (b_X12_none_42 K) (fun _ _ _ _ _ _ => none) (L + 1) 91 (iv m) (iv (t : Int)) (iv (z : Int)) (iv (s : Int)) hh = lp (b_X12_none_42 K) (fun _ _ _ _ _ _ => none) L 91 (iv m) (iv (t : Int)) (iv (z : Int)) (iv ((s + 1 : Nat) : Int)) hh := by
          rw [← e1]
          simp -implicitDefEqProofs (disch := omega) only [lp_succ, F_b_X12_none_42, k_X12_none_42_1, k_X12_none_42_2, y1, on, iv_add, iv_sub, iv_mul, iv_neg, iv_zero, iv_ltT, iv_ltF, iv_leT, iv_leF, iv_eqT, iv_eqF, iv_div, rm_iv, tn_iv, ib_iv, some_cb, some_cbv, ↓nm_eq, ↓reduceIte, true_and, and_true, Bool.true_eq_false, Bool.false_eq_true, not_false_eq_true, not_true_eq_false]
        rw [st]; exact i2
    · rw [scI_n (fun q => y1 (cS_iff.1 q).1)]
      obtain ⟨h', i1, i2⟩ := ih L (s + 1) hh (by omega) (by omega) sc
      refine ⟨h', i1, ?_⟩
      have st : lp (b_X12_none_42 K) (fun _ _ _ _ _ _ => none) (L + 1) 91 (iv m) (iv (t : Int)) (iv (z : Int)) (iv (s : Int)) hh = lp (b_X12_none_42 K) (fun _ _ _ _ _ _ => none) L 91 (iv m) (iv (t : Int)) (iv (z : Int)) (iv ((s + 1 : Nat) : Int)) hh := by
        rw [← e1]
        have y1' : ((iv (s : Int) &&& (iv (t : Int) ^^^ iv (-1))) = iv 0) = False := eq_false y1
        simp -implicitDefEqProofs (disch := omega) only [lp_succ, F_b_X12_none_42, k_X12_none_42_1, k_X12_none_42_2, y1', iv_add, iv_sub, iv_mul, iv_neg, iv_zero, iv_ltT, iv_ltF, iv_leT, iv_leF, iv_eqT, iv_eqF, iv_div, rm_iv, tn_iv, ib_iv, some_cb, some_cbv, ↓nm_eq, ↓reduceIte, true_and, and_true, Bool.true_eq_false, Bool.false_eq_true, not_false_eq_true, not_true_eq_false]
      rw [st]; exact i2
set_option maxRecDepth 100000 in
theorem q_none33 (hS : Sim w A h) (hl : lvM w m) {t : Nat} (ht : t < 256) : ∀ (n L z : Nat) (hh : AH), n < L → z + n = 13 → Sc w A h hh → ∃ h' : AH, Sc w A h h' ∧ lp b_X12_none_33 (fun _ _ _ _ _ => none) L 91 (iv m) (iv (t : Int)) (iv (z : Int)) hh = some (iv (scO (nnF w m) (cS t) t n z), h') := by
  intro n
  induction n with
  | zero =>
    intro L z hh hL hz sc
    obtain ⟨L, rfl⟩ : ∃ L', L = L' + 1 := ⟨L - 1, by omega⟩
    refine ⟨hh, sc, ?_⟩
    show _ = some (iv (-2), hh)
    simp -implicitDefEqProofs (disch := omega) only [lp_succ, F_b_X12_none_33, iv_add, iv_sub, iv_mul, iv_neg, iv_zero, iv_ltT, iv_ltF, iv_leT, iv_leF, iv_eqT, iv_eqF, iv_div, rm_iv, tn_iv, ib_iv, some_cb, some_cbv, ↓nm_eq, ↓reduceIte, true_and, and_true, Bool.true_eq_false, Bool.false_eq_true, not_false_eq_true, not_true_eq_false]
  | succ n ih =>
    intro L z hh hL hz sc
    obtain ⟨L, rfl⟩ : ∃ L', L = L' + 1 := ⟨L - 1, by omega⟩
    obtain ⟨h1, s1, i⟩ := q_none42 hS hl ht (z := z) (by omega) (lp b_X12_none_33 (fun _ _ _ _ _ => none) L) (t + 1) FU 0 hh (FU_gt (by omega)) (by omega) sc
    have st : lp b_X12_none_33 (fun _ _ _ _ _ => none) (L + 1) 91 (iv m) (iv (t : Int)) (iv (z : Int)) hh = lp (b_X12_none_42 (lp b_X12_none_33 (fun _ _ _ _ _ => none) L)) (fun _ _ _ _ _ _ => none) FU 91 (iv m) (iv (t : Int)) (iv (z : Int)) (iv ((0 : Nat) : Int)) hh := by
      simp -implicitDefEqProofs (disch := omega) only [lp_succ, F_b_X12_none_33, f_X12_none_42, iv_add, iv_sub, iv_mul, iv_neg, iv_zero, iv_ltT, iv_ltF, iv_leT, iv_leF, iv_eqT, iv_eqF, iv_div, rm_iv, tn_iv, ib_iv, some_cb, some_cbv, ↓nm_eq, ↓reduceIte, true_and, and_true, Bool.true_eq_false, Bool.false_eq_true, not_false_eq_true, not_true_eq_false]
      rfl
    rw [st]
    rcases i with ⟨r, i1, i2⟩ | ⟨i1, i2⟩
    · exact ⟨h1, s1, by rw [i2, scO_s i1]⟩
    · obtain ⟨h2, s2, i3⟩ := ih L (z + 1) h1 (by omega) (by omega) s1
      refine ⟨h2, s2, ?_⟩
      rw [i2, scO_n i1, ← i3, show ((z + 1 : Nat) : Int) = (z : Int) + 1 by omega]
set_option maxRecDepth 100000 in
theorem c_none38 (hS : Sim w A h) (hl : lvM w m) {t z : Nat} (ht : t < 256) (hz : z ≤ 12) (K : Nat → Nat → Int32 → Int32 → AH → Option (Int32 × AH)) : ∀ (n L s : Nat) (hh : AH), n < L → s + n = t + 1 → Sc w A h hh → ∃ h' : AH, Sc w A h h' ∧ ((∃ r : Int, scI (nnF w m) (cS t z) n s = some r ∧ lp (b_X3_leastNone_38 K) (fun _ _ _ _ _ _ => none) L 16 (A m) (iv (t : Int)) (iv (z : Int)) (iv (s : Int)) hh = some (iv r, h')) ∨ (scI (nnF w m) (cS t z) n s = none ∧ lp (b_X3_leastNone_38 K) (fun _ _ _ _ _ _ => none) L 16 (A m) (iv (t : Int)) (iv (z : Int)) (iv (s : Int)) hh = K 16 (A m) (iv (t : Int)) (iv ((z : Int) + 1)) h')) := by
  obtain ⟨⟨gg1, gg2⟩, ⟨gc1, gc2⟩, -⟩ := hS.W.mat hl
  intro n
  induction n with
  | zero =>
    intro L s hh hL hs sc
    obtain ⟨L, rfl⟩ : ∃ L', L = L' + 1 := ⟨L - 1, by omega⟩
    refine ⟨hh, sc, Or.inr ⟨rfl, ?_⟩⟩
    simp -implicitDefEqProofs (disch := omega) only [lp_succ, F_b_X3_leastNone_38, iv_add, iv_sub, iv_mul, iv_neg, iv_zero, iv_ltT, iv_ltF, iv_leT, iv_leF, iv_eqT, iv_eqF, iv_div, rm_iv, tn_iv, ib_iv, some_cb, some_cbv, ↓nm_eq, ↓reduceIte, true_and, and_true, Bool.true_eq_false, Bool.false_eq_true, not_false_eq_true, not_true_eq_false]
  | succ n ih =>
    intro L s hh hL hs sc
    obtain ⟨L, rfl⟩ : ∃ L', L = L' + 1 := ⟨L - 1, by omega⟩
    have sim := hS.sc sc
    have hF := sim.F
    have hM := sim.M hl
    have e1 : (s : Int) + 1 = ((s + 1 : Nat) : Int) := by omega
    by_cases y1 : (iv (s : Int) &&& (iv (t : Int) ^^^ iv (-1))) = 0
    · have on := c_bits hh (s := s) (by omega)
      have o9 := (B4 ⟨s, by omega⟩).2
      dsimp only at o9
      by_cases y2 : onN s = z
      · have y := cS_iff.2 ⟨y1, y2⟩
        obtain ⟨h1, b1, sc1⟩ := c_isTooMany (S := iv (s : Int)) sim hl
        have sim1 := sim.sc sc1
        have hF1 := sim1.F
        rcases bigR_01 w m (iv (s : Int)) with ⟨b, -⟩ | ⟨b, -⟩
        · rw [b] at b1
          obtain ⟨h2, d1, d2, d3, -⟩ := c_goTill sim1 hl (iv (s : Int)) (g := 0) (k := 0) (by omega) (by omega) (by omega) (by omega) b (p := 0) (v := 2147483647) (by omega) (by omega) (by omega)
          have hF2 := (sim1.sc d2).F
          rcases d3 with ⟨d4, er⟩ | ⟨d4, q, er, -⟩
          · refine ⟨h2, (sc.tr sc1).tr d2, Or.inl ⟨s, scI_y1 y (nnF_n b er), ?_⟩⟩
            simp -implicitDefEqProofs (disch := omega) only [lp_succ, F_b_X3_leastNone_38, k_X3_leastNone_38_1, k_X3_leastNone_38_2, k_X3_leastNone_38_3, y1, on, y2, oM_k hM, b1, K16 hF1, d1, K16 hF2, d4, iv_add, iv_sub, iv_mul, iv_neg, iv_zero, iv_ltT, iv_ltF, iv_leT, iv_leF, iv_eqT, iv_eqF, iv_div, rm_iv, tn_iv, ib_iv, some_cb, some_cbv, ↓nm_eq, ↓reduceIte, true_and, and_true, Bool.true_eq_false, Bool.false_eq_true, not_false_eq_true, not_true_eq_false]
          · rw [scI_y0 y (nnF_s b er)]
            obtain ⟨h', i1, i2⟩ := ih L (s + 1) h2 (by omega) (by omega) ((sc.tr sc1).tr d2)
            refine ⟨h', i1, ?_⟩
            have st : lp (b_X3_leastNone_38 K) (fun _ _ _ _ _ _ => none) (L + 1) 16 (A m) (iv (t : Int)) (iv (z : Int)) (iv (s : Int)) hh = lp (b_X3_leastNone_38 K) (fun _ _ _ _ _ _ => none) L 16 (A m) (iv (t : Int)) (iv (z : Int)) (iv ((s + 1 : Nat) : Int)) h2 := by
              rw [← e1]
              simp -implicitDefEqProofs (disch := omega) only [lp_succ, F_b_X3_leastNone_38, k_X3_leastNone_38_1, k_X3_leastNone_38_2, k_X3_leastNone_38_3, y1, on, y2, oM_k hM, b1, K16 hF1, d1, K16 hF2, d4, iv_add, iv_sub, iv_mul, iv_neg, iv_zero, iv_ltT, iv_ltF, iv_leT, iv_leF, iv_eqT, iv_eqF, iv_div, rm_iv, tn_iv, ib_iv, some_cb, some_cbv, ↓nm_eq, ↓reduceIte, true_and, and_true, Bool.true_eq_false, Bool.false_eq_true, not_false_eq_true, not_true_eq_false]
            rw [st]; exact i2
        · rw [b] at b1
          refine ⟨h1, sc.tr sc1, Or.inl ⟨-4, scI_y1 y (nnF_b b), ?_⟩⟩
          simp -implicitDefEqProofs (disch := omega) only [lp_succ, F_b_X3_leastNone_38, k_X3_leastNone_38_1, k_X3_leastNone_38_2, k_X3_leastNone_38_3, y1, on, y2, oM_k hM, b1, iv_add, iv_sub, iv_mul, iv_neg, iv_zero, iv_ltT, iv_ltF, iv_leT, iv_leF, iv_eqT, iv_eqF, iv_div, rm_iv, tn_iv, ib_iv, some_cb, some_cbv, ↓nm_eq, ↓reduceIte, true_and, and_true, Bool.true_eq_false, Bool.false_eq_true, not_false_eq_true, not_true_eq_false]
      · rw [scI_n (fun q => y2 (cS_iff.1 q).2)]
        obtain ⟨h', i1, i2⟩ := ih L (s + 1) hh (by omega) (by omega) sc
        refine ⟨h', i1, ?_⟩
        have st : lp (b_X3_leastNone_38 K) (fun _ _ _ _ _ _ => none) (L + 1) 16 (A m) (iv (t : Int)) (iv (z : Int)) (iv (s : Int)) hh = lp (b_X3_leastNone_38 K) (fun _ _ _ _ _ _ => none) L 16 (A m) (iv (t : Int)) (iv (z : Int)) (iv ((s + 1 : Nat) : Int)) hh := by
          rw [← e1]
          simp -implicitDefEqProofs (disch := omega) only [lp_succ, F_b_X3_leastNone_38, k_X3_leastNone_38_1, k_X3_leastNone_38_2, k_X3_leastNone_38_3, y1, on, iv_add, iv_sub, iv_mul, iv_neg, iv_zero, iv_ltT, iv_ltF, iv_leT, iv_leF, iv_eqT, iv_eqF, iv_div, rm_iv, tn_iv, ib_iv, some_cb, some_cbv, ↓nm_eq, ↓reduceIte, true_and, and_true, Bool.true_eq_false, Bool.false_eq_true, not_false_eq_true, not_true_eq_false]
        rw [st]; exact i2
    · rw [scI_n (fun q => y1 (cS_iff.1 q).1)]
      obtain ⟨h', i1, i2⟩ := ih L (s + 1) hh (by omega) (by omega) sc
      refine ⟨h', i1, ?_⟩
      have st : lp (b_X3_leastNone_38 K) (fun _ _ _ _ _ _ => none) (L + 1) 16 (A m) (iv (t : Int)) (iv (z : Int)) (iv (s : Int)) hh = lp (b_X3_leastNone_38 K) (fun _ _ _ _ _ _ => none) L 16 (A m) (iv (t : Int)) (iv (z : Int)) (iv ((s + 1 : Nat) : Int)) hh := by
        rw [← e1]
        have y1' : ((iv (s : Int) &&& (iv (t : Int) ^^^ iv (-1))) = iv 0) = False := eq_false y1
        simp -implicitDefEqProofs (disch := omega) only [lp_succ, F_b_X3_leastNone_38, k_X3_leastNone_38_1, k_X3_leastNone_38_2, k_X3_leastNone_38_3, y1', iv_add, iv_sub, iv_mul, iv_neg, iv_zero, iv_ltT, iv_ltF, iv_leT, iv_leF, iv_eqT, iv_eqF, iv_div, rm_iv, tn_iv, ib_iv, some_cb, some_cbv, ↓nm_eq, ↓reduceIte, true_and, and_true, Bool.true_eq_false, Bool.false_eq_true, not_false_eq_true, not_true_eq_false]
      rw [st]; exact i2
set_option maxRecDepth 100000 in
theorem c_none29 (hS : Sim w A h) (hl : lvM w m) {t : Nat} (ht : t < 256) : ∀ (n L z : Nat) (hh : AH), n < L → z + n = 9 → Sc w A h hh → ∃ h' : AH, Sc w A h h' ∧ lp b_X3_leastNone_29 (fun _ _ _ _ _ => none) L 16 (A m) (iv (t : Int)) (iv (z : Int)) hh = some (iv (scO (nnF w m) (cS t) t n z), h') := by
  intro n
  induction n with
  | zero =>
    intro L z hh hL hz sc
    obtain ⟨L, rfl⟩ : ∃ L', L = L' + 1 := ⟨L - 1, by omega⟩
    refine ⟨hh, sc, ?_⟩
    show _ = some (iv (-2), hh)
    simp -implicitDefEqProofs (disch := omega) only [lp_succ, F_b_X3_leastNone_29, iv_add, iv_sub, iv_mul, iv_neg, iv_zero, iv_ltT, iv_ltF, iv_leT, iv_leF, iv_eqT, iv_eqF, iv_div, rm_iv, tn_iv, ib_iv, some_cb, some_cbv, ↓nm_eq, ↓reduceIte, true_and, and_true, Bool.true_eq_false, Bool.false_eq_true, not_false_eq_true, not_true_eq_false]
  | succ n ih =>
    intro L z hh hL hz sc
    obtain ⟨L, rfl⟩ : ∃ L', L = L' + 1 := ⟨L - 1, by omega⟩
    obtain ⟨h1, s1, i⟩ := c_none38 hS hl ht (z := z) (by omega) (lp b_X3_leastNone_29 (fun _ _ _ _ _ => none) L) (t + 1) FU 0 hh (FU_gt (by omega)) (by omega) sc
    have st : lp b_X3_leastNone_29 (fun _ _ _ _ _ => none) (L + 1) 16 (A m) (iv (t : Int)) (iv (z : Int)) hh = lp (b_X3_leastNone_38 (lp b_X3_leastNone_29 (fun _ _ _ _ _ => none) L)) (fun _ _ _ _ _ _ => none) FU 16 (A m) (iv (t : Int)) (iv (z : Int)) (iv ((0 : Nat) : Int)) hh := by
      simp -implicitDefEqProofs (disch := omega) only [lp_succ, F_b_X3_leastNone_29, f_X3_leastNone_38, iv_add, iv_sub, iv_mul, iv_neg, iv_zero, iv_ltT, iv_ltF, iv_leT, iv_leF, iv_eqT, iv_eqF, iv_div, rm_iv, tn_iv, ib_iv, some_cb, some_cbv, ↓nm_eq, ↓reduceIte, true_and, and_true, Bool.true_eq_false, Bool.false_eq_true, not_false_eq_true, not_true_eq_false]
      rfl
    rw [st]
    rcases i with ⟨r, i1, i2⟩ | ⟨i1, i2⟩
    · exact ⟨h1, s1, by rw [i2, scO_s i1]⟩
    · obtain ⟨h2, s2, i3⟩ := ih L (z + 1) h1 (by omega) (by omega) s1
      refine ⟨h2, s2, ?_⟩
      rw [i2, scO_n i1, ← i3, show ((z + 1 : Nat) : Int) = (z : Int) + 1 by omega]
theorem sc_139 (f : Nat → Option Int) {t : Nat} (ht : t < 256) : scO f (cS t) t 13 0 = scO f (cS t) t 9 0 := scO_ext (b := 4) 9 0 (fun z' x z0 x1 => by
  have o9 := (B4 ⟨x, by omega⟩).2
  dsimp only at o9
  cases e : cS t z' x with
  | false => rfl
  | true => have := (cS_iff.1 e).2; omega)
set_option maxRecDepth 100000 in
theorem M_none (hS : Sim w A h) (x1 x2 : Int32) : Both (f_X11_none 3 x1 x2) (f_X12_none 91 x1 x2) h := by
  obtain ⟨m, rfl, m1, m2⟩ := iv_ex x1
  obtain ⟨s, rfl, s1, s2⟩ := iv_ex x2
  have hF := hS.F
  have hR := hS.R
  by_cases hl : lvM w m
  · obtain ⟨⟨w1, w2⟩, -⟩ := hS.W; obtain ⟨⟨gg1, gg2⟩, ⟨gc1, gc2⟩, ⟨b2, b3⟩, ⟨hh1, hh2⟩, -⟩ := hS.W.mat hl; obtain ⟨l1, l2⟩ := id hl
    have hM := hS.M hl
    have hcm := c_matterAt1 hF hS.C hS.W m1 m2 hl
    have hA := hS.aM hl
    have hA0 : (A m = 0) = False := eq_false (by omega)
    by_cases ht : isT w m s
    · have ct := (c_told hS hl s1 s2).1 ht
      obtain ⟨t1, t2⟩ := ht
      obtain ⟨u1, u2⟩ := p2r hh1 hh2
      obtain ⟨t, rfl⟩ : ∃ t : Nat, s = (t : Int) := ⟨s.toNat, by omega⟩
      have ht : t < 256 := by omega
      have qt := fun (h3 : AH) (hS3 : Sim w A h3) => (q_told hS3.Q m1 m2 s1 s2).1 ⟨hl, t1, t2⟩
      obtain ⟨h1, b1, sc1⟩ := c_isTooMany (S := iv (t : Int)) hS hl
      have hS1 := hS.sc sc1
      have hF1 := hS1.F
      rcases bigR_01 w m (iv (t : Int)) with ⟨z, -⟩ | ⟨z, -⟩
      · rw [z] at b1
        obtain ⟨h2, d1, d2, d3, -⟩ := c_goTill hS1 hl (iv (t : Int)) (g := 0) (k := 0) (by omega) (by omega) (by omega) (by omega) z (p := 0) (v := 2147483647) (by omega) (by omega) (by omega)
        have hF2 := (hS1.sc d2).F
        rcases d3 with ⟨d4, er⟩ | ⟨d4, q, er, -⟩
        · obtain ⟨h3, d5, d6⟩ := c_none29 hS hl ht 9 FU 0 h2 (FU_gt (by omega)) (by omega) (sc1.tr d2)
          change lp b_X3_leastNone_29 (fun _ _ _ _ _ => none) FU 16 (A m) (iv (t : Int)) (iv 0) h2 = _ at d6
          refine Both.scr hS (r := iv (scO (nnF w m) (cS t) t 9 0)) ⟨h3, ?_, d5⟩ (fun h4 hS4 => ?_)
          · simp -implicitDefEqProofs (disch := omega) only [k_X11_none_1, k_X11_none_2, k_X11_none_3, F_f_X11_none, k_X3_leastNone_38_1, k_X3_leastNone_38_2, k_X3_leastNone_38_3, f_X3_leastNone_38, k_X3_leastNone_1, k_X3_leastNone_2, F_f_X3_leastNone, f_X3_leastNone_29, hA0, K3 hF, hcm, oM_k hM, ct, R3_6 hF, K16 hF, b1, K16 hF1, d1, K16 hF2, d4, d6, iv_add, iv_sub, iv_mul, iv_neg, iv_zero, iv_ltT, iv_ltF, iv_leT, iv_leF, iv_eqT, iv_eqF, iv_div, rm_iv, tn_iv, ib_iv, some_cb, some_cbv, ↓nm_eq, ↓reduceIte, true_and, and_true, Bool.true_eq_false, Bool.false_eq_true, not_false_eq_true, not_true_eq_false]
          · have hF4 := hS4.F
            obtain ⟨h5, e1, e2, e3⟩ := (q_goes hS4 hl (iv (t : Int)) (cc := 0) (g := 0) (k := 0) (by omega) (by omega) (by omega) (by omega) (by omega)).2 z
            rw [er] at e3
            have e3 : gI h5 91 33 = iv 0 := e3
            have hF5 := (hS4.sc e2).F
            obtain ⟨h6, e5, e6⟩ := q_none33 hS4 hl ht 13 FU 0 h5 (FU_gt (by omega)) (by omega) e2
            rw [sc_139 _ ht] at e6
            change lp b_X12_none_33 (fun _ _ _ _ _ => none) FU 91 (iv m) (iv (t : Int)) (iv 0) h5 = _ at e6
            have qt := qt h4 hS4
            refine ⟨h6, ?_, e5⟩
            simp -implicitDefEqProofs (disch := omega) only [k_X12_none_42_1, k_X12_none_42_2, f_X12_none_42, k_X12_none_1, k_X12_none_2, F_f_X12_none, f_X12_none_33, K91 hF4, qt, e1, K91 hF5, e3, e6, iv_add, iv_sub, iv_mul, iv_neg, iv_zero, iv_ltT, iv_ltF, iv_leT, iv_leF, iv_eqT, iv_eqF, iv_div, rm_iv, tn_iv, ib_iv, some_cb, some_cbv, ↓nm_eq, ↓reduceIte, true_and, and_true, Bool.true_eq_false, Bool.false_eq_true, not_false_eq_true, not_true_eq_false]
        · refine Both.scr hS (r := iv (-2)) ⟨h2, ?_, sc1.tr d2⟩ (fun h4 hS4 => ?_)
          · simp -implicitDefEqProofs (disch := omega) only [k_X11_none_1, k_X11_none_2, k_X11_none_3, F_f_X11_none, k_X3_leastNone_38_1, k_X3_leastNone_38_2, k_X3_leastNone_38_3, f_X3_leastNone_38, k_X3_leastNone_1, k_X3_leastNone_2, F_f_X3_leastNone, hA0, K3 hF, hcm, oM_k hM, ct, R3_6 hF, K16 hF, b1, K16 hF1, d1, K16 hF2, d4, iv_add, iv_sub, iv_mul, iv_neg, iv_zero, iv_ltT, iv_ltF, iv_leT, iv_leF, iv_eqT, iv_eqF, iv_div, rm_iv, tn_iv, ib_iv, some_cb, some_cbv, ↓nm_eq, ↓reduceIte, true_and, and_true, Bool.true_eq_false, Bool.false_eq_true, not_false_eq_true, not_true_eq_false]
          · have hF4 := hS4.F
            obtain ⟨h5, e1, e2, e3⟩ := (q_goes hS4 hl (iv (t : Int)) (cc := 0) (g := 0) (k := 0) (by omega) (by omega) (by omega) (by omega) (by omega)).2 z
            rw [er] at e3
            obtain ⟨e4, -⟩ := e3
            have hF5 := (hS4.sc e2).F
            have qt := qt h4 hS4
            refine ⟨h5, ?_, e2⟩
            simp -implicitDefEqProofs (disch := omega) only [k_X12_none_42_1, k_X12_none_42_2, f_X12_none_42, k_X12_none_1, k_X12_none_2, F_f_X12_none, K91 hF4, qt, e1, K91 hF5, e4, iv_add, iv_sub, iv_mul, iv_neg, iv_zero, iv_ltT, iv_ltF, iv_leT, iv_leF, iv_eqT, iv_eqF, iv_div, rm_iv, tn_iv, ib_iv, some_cb, some_cbv, ↓nm_eq, ↓reduceIte, true_and, and_true, Bool.true_eq_false, Bool.false_eq_true, not_false_eq_true, not_true_eq_false]
      · rw [z] at b1
        obtain ⟨h3, d5, d6⟩ := c_none29 hS hl ht 9 FU 0 h1 (FU_gt (by omega)) (by omega) sc1
        change lp b_X3_leastNone_29 (fun _ _ _ _ _ => none) FU 16 (A m) (iv (t : Int)) (iv 0) h1 = _ at d6
        refine Both.scr hS (r := iv (scO (nnF w m) (cS t) t 9 0)) ⟨h3, ?_, d5⟩ (fun h4 hS4 => ?_)
        · simp -implicitDefEqProofs (disch := omega) only [k_X11_none_1, k_X11_none_2, k_X11_none_3, F_f_X11_none, k_X3_leastNone_38_1, k_X3_leastNone_38_2, k_X3_leastNone_38_3, f_X3_leastNone_38, k_X3_leastNone_1, k_X3_leastNone_2, F_f_X3_leastNone, f_X3_leastNone_29, hA0, K3 hF, hcm, oM_k hM, ct, R3_6 hF, K16 hF, b1, d6, iv_add, iv_sub, iv_mul, iv_neg, iv_zero, iv_ltT, iv_ltF, iv_leT, iv_leF, iv_eqT, iv_eqF, iv_div, rm_iv, tn_iv, ib_iv, some_cb, some_cbv, ↓nm_eq, ↓reduceIte, true_and, and_true, Bool.true_eq_false, Bool.false_eq_true, not_false_eq_true, not_true_eq_false]
        · have hF4 := hS4.F
          have e1 := (q_goes hS4 hl (iv (t : Int)) (cc := 0) (g := 0) (k := 0) (by omega) (by omega) (by omega) (by omega) (by omega)).1 z
          obtain ⟨h6, e5, e6⟩ := q_none33 hS4 hl ht 13 FU 0 h4 (FU_gt (by omega)) (by omega) (Sc.rf hS4)
          rw [sc_139 _ ht] at e6
          change lp b_X12_none_33 (fun _ _ _ _ _ => none) FU 91 (iv m) (iv (t : Int)) (iv 0) h4 = _ at e6
          have qt := qt h4 hS4
          refine ⟨h6, ?_, e5⟩
          simp -implicitDefEqProofs (disch := omega) only [k_X12_none_42_1, k_X12_none_42_2, f_X12_none_42, k_X12_none_1, k_X12_none_2, F_f_X12_none, f_X12_none_33, K91 hF4, qt, e1, e6, iv_add, iv_sub, iv_mul, iv_neg, iv_zero, iv_ltT, iv_ltF, iv_leT, iv_leF, iv_eqT, iv_eqF, iv_div, rm_iv, tn_iv, ib_iv, some_cb, some_cbv, ↓nm_eq, ↓reduceIte, true_and, and_true, Bool.true_eq_false, Bool.false_eq_true, not_false_eq_true, not_true_eq_false]
    · have ct := (c_told hS hl s1 s2).2 ht
      have qt := (q_told hS.Q m1 m2 s1 s2).2 (fun y => ht y.2)
      exact Both.still hS (r := iv (-1)) (by simp -implicitDefEqProofs (disch := omega) only [k_X11_none_1, k_X11_none_2, k_X11_none_3, F_f_X11_none, hA0, K3 hF, hcm, oM_k hM, ct, iv_add, iv_sub, iv_mul, iv_neg, iv_zero, iv_ltT, iv_ltF, iv_leT, iv_leF, iv_eqT, iv_eqF, iv_div, rm_iv, tn_iv, ib_iv, some_cb, some_cbv, ↓nm_eq, ↓reduceIte, true_and, and_true, Bool.true_eq_false, Bool.false_eq_true, not_false_eq_true, not_true_eq_false]) (by simp -implicitDefEqProofs (disch := omega) only [k_X12_none_42_1, k_X12_none_42_2, f_X12_none_42, f_X12_none_33, k_X12_none_1, k_X12_none_2, F_f_X12_none, K91 hF, qt, iv_add, iv_sub, iv_mul, iv_neg, iv_zero, iv_ltT, iv_ltF, iv_leT, iv_leF, iv_eqT, iv_eqF, iv_div, rm_iv, tn_iv, ib_iv, some_cb, some_cbv, ↓nm_eq, ↓reduceIte, true_and, and_true, Bool.true_eq_false, Bool.false_eq_true, not_false_eq_true, not_true_eq_false])
  · have hcm := c_matterAt0 hF hS.C hS.W m1 m2 hl
    have qt := (q_told hS.Q m1 m2 s1 s2).2 (fun y => hl y.1)
    exact Both.still hS (r := iv (-1)) (by simp -implicitDefEqProofs (disch := omega) only [k_X11_none_1, k_X11_none_2, k_X11_none_3, F_f_X11_none, K3 hF, hcm, iv_add, iv_sub, iv_mul, iv_neg, iv_zero, iv_ltT, iv_ltF, iv_leT, iv_leF, iv_eqT, iv_eqF, iv_div, rm_iv, tn_iv, ib_iv, some_cb, some_cbv, ↓nm_eq, ↓reduceIte, true_and, and_true, Bool.true_eq_false, Bool.false_eq_true, not_false_eq_true, not_true_eq_false]) (by simp -implicitDefEqProofs (disch := omega) only [k_X12_none_42_1, k_X12_none_42_2, f_X12_none_42, f_X12_none_33, k_X12_none_1, k_X12_none_2, F_f_X12_none, K91 hF, qt, iv_add, iv_sub, iv_mul, iv_neg, iv_zero, iv_ltT, iv_ltF, iv_leT, iv_leF, iv_eqT, iv_eqF, iv_div, rm_iv, tn_iv, ib_iv, some_cb, some_cbv, ↓nm_eq, ↓reduceIte, true_and, and_true, Bool.true_eq_false, Bool.false_eq_true, not_false_eq_true, not_true_eq_false])
end Q
