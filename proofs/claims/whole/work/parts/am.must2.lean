section Q
variable {w : WD} {A : Int → Nat} {h hh h' : AH} {m g k : Int} {S T N : Int32}
set_option maxRecDepth 100000 in
theorem c_must49 (hS : Sim w A h) (hl : lvM w m) {t z : Nat} (ht : t < 256) (hz : z ≤ 12) (g0 : 0 ≤ g) (cg : g < wGr w m) (k0 : 0 ≤ k) (ck : k < wCh w m) {p v : Int} (hp : p = 3 * g + k) (v0 : 0 ≤ v) (v1 : v ≤ 9999) (K : Nat → Nat → Int32 → Int32 → Int32 → Int32 → AH → Option (Int32 × AH)) : ∀ (n L s : Nat) (hh : AH), n < L → s + n = t + 1 → Sc w A h hh → LN w m g k t z s hh → ∃ h' : AH, Sc w A h h' ∧ ((∃ r : Int, scI (muF w m g k v) (cS t z) n s = some r ∧ lp (b_X3_leastProof_49 K) (fun _ _ _ _ _ _ _ _ => none) L 16 (A m) (iv (t : Int)) (iv p) (iv v) (iv (z : Int)) (iv (s : Int)) hh = some (iv r, h')) ∨ (scI (muF w m g k v) (cS t z) n s = none ∧ LN w m g k t (z + 1) 0 h' ∧ lp (b_X3_leastProof_49 K) (fun _ _ _ _ _ _ _ _ => none) L 16 (A m) (iv (t : Int)) (iv p) (iv v) (iv (z : Int)) (iv (s : Int)) hh = K 16 (A m) (iv (t : Int)) (iv p) (iv v) (iv ((z : Int) + 1)) h')) := by
  intro n
  induction n with
  | zero =>
    intro L s hh hL hs sc H
    obtain ⟨L, rfl⟩ : ∃ L', L = L' + 1 := ⟨L - 1, by omega⟩
    refine ⟨hh, sc, Or.inr ⟨rfl, fun x x0 x1 x2 => H x x0 x1 (by omega), ?_⟩⟩
    simp -implicitDefEqProofs (disch := omega) only [lp_succ, F_b_X3_leastProof_49, iv_add, iv_sub, iv_mul, iv_neg, iv_zero, iv_ltT, iv_ltF, iv_leT, iv_leF, iv_eqT, iv_eqF, iv_div, rm_iv, tn_iv, ib_iv, some_cb, some_cbv, ↓nm_eq, ↓reduceIte, true_and, and_true, Bool.true_eq_false, Bool.false_eq_true, not_false_eq_true, not_true_eq_false]
  | succ n ih =>
    intro L s hh hL hs sc H
    obtain ⟨L, rfl⟩ : ∃ L', L = L' + 1 := ⟨L - 1, by omega⟩
    have sim := hS.sc sc
    have hF := sim.F
    have hM := sim.M hl
    have e1 : (s : Int) + 1 = ((s + 1 : Nat) : Int) := by omega
    have next : ∀ h1 : AH, Sc w A h h1 → LN w m g k t z (s + 1) h1 → scI (muF w m g k v) (cS t z) (n + 1) s = scI (muF w m g k v) (cS t z) n (s + 1) → lp (b_X3_leastProof_49 K) (fun _ _ _ _ _ _ _ _ => none) (L + 1) 16 (A m) (iv (t : Int)) (iv p) (iv v) (iv (z : Int)) (iv (s : Int)) hh = lp (b_X3_leastProof_49 K) (fun _ _ _ _ _ _ _ _ => none) L 16 (A m) (iv (t : Int)) (iv p) (iv v) (iv (z : Int)) (iv ((s + 1 : Nat) : Int)) h1 → ∃ h' : AH, Sc w A h h' ∧ ((∃ r : Int, scI (muF w m g k v) (cS t z) (n + 1) s = some r ∧ lp (b_X3_leastProof_49 K) (fun _ _ _ _ _ _ _ _ => none) (L + 1) 16 (A m) (iv (t : Int)) (iv p) (iv v) (iv (z : Int)) (iv (s : Int)) hh = some (iv r, h')) ∨ (scI (muF w m g k v) (cS t z) (n + 1) s = none ∧ LN w m g k t (z + 1) 0 h' ∧ lp (b_X3_leastProof_49 K) (fun _ _ _ _ _ _ _ _ => none) (L + 1) 16 (A m) (iv (t : Int)) (iv p) (iv v) (iv (z : Int)) (iv (s : Int)) hh = K 16 (A m) (iv (t : Int)) (iv p) (iv v) (iv ((z : Int) + 1)) h')) := fun h1 a1 a2 a3 a4 => by
      rw [a3, a4]
      exact ih L (s + 1) h1 (by omega) (by omega) a1 a2
    by_cases y1 : (iv (s : Int) &&& (iv (t : Int) ^^^ iv (-1))) = 0
    · have on := c_bits hh (s := s) (by omega)
      have o9 := (B4 ⟨s, by omega⟩).2
      dsimp only at o9
      by_cases y2 : onN s = z
      · have y := cS_iff.2 ⟨y1, y2⟩
        obtain ⟨h1, b1, sc1, fi1⟩ := c_isTooManyF (S := iv (s : Int)) sim hl
        have sc01 := sc.tr sc1
        have sim1 := sim.sc sc1
        have hF1 := sim1.F
        have H1 := H.fi fi1
        rcases bigR_01 w m (iv (s : Int)) with ⟨b, -⟩ | ⟨b, -⟩
        · rw [b] at b1
          have less := c_less (s := s) hF1 sim1.W hl g0 cg k0 ck (by omega) (fun j j8 hj => by
            obtain ⟨-, p2, p3, p4⟩ := B5 ⟨s, by omega⟩ ⟨j, j8⟩ hj
            dsimp only at p2 p3 p4
            generalize 2 ^ j = y at p2 p3 p4 ⊢
            have q := H1 (s - y) (by omega) ((sub_iff (by omega) ht).2 (fun i hi => (sub_iff (by omega) ht).1 y1 i (p4 ⟨i, by have := tb8 (by omega) hi; omega⟩ hi))) (Or.inl (by omega))
            rcases q with q | q
            · exact Or.inl q.1
            · exact Or.inr q)
          have ne : ∀ (u : Int32) (i : Nat), i ≠ s → gI (sI h1 23 s u) 23 i = gI h1 23 i := fun u i hi => gI_sIo _ _ (Or.inr hi)
          have fr : ∀ i : Nat, i ≠ s → gI h1 23 i = gI hh 23 i := fun i _ => fi1 23 i
          have nk : ¬ kpI 23 s := by unfold kpI; omega
          rcases less with le | ⟨le, ln⟩
          · have scw : Sc w A h (sI h1 23 s (iv 0)) := sc01.sI nk
            have simw := hS.sc scw
            obtain ⟨h2, d1, d2, d3, d4⟩ := c_goTill simw hl (iv (s : Int)) g0 cg k0 ck b hp v0 (by omega)
            have hF2 := (simw.sc d2).F
            have sc2 := scw.tr d2
            have gs : gI (sI h1 23 s (iv 0)) 23 s = iv 0 := gI_sIs _ _ _ _
            have go : ∀ u : Int32, gI (sI h2 23 s u) 16 0 = gI h2 16 0 := fun u => gI_sIo _ _ (Or.inl (by omega))
            have go1 : ∀ u : Int32, gI (sI h2 23 s u) 16 1 = gI h2 16 1 := fun u => gI_sIo _ _ (Or.inl (by omega))
            have hL : ∀ u : Int32, (u = iv 0 ∧ resS w m (iv (s : Int)) g k ≠ none) ∨ (u = iv 1 ∧ resS w m (iv (s : Int)) g k = none) → LN w m g k t z (s + 1) (sI h2 23 s u) := fun u hu => by
              refine H1.step (fun i hi => ?_) y2 (by rw [gI_sIs]; exact hu)
              rw [gI_sIo _ _ (Or.inr hi), d4 i, ne _ i hi]
            rcases d3 with ⟨d5, er⟩ | ⟨d5, q, er, lea, d6, ⟨d7, d8⟩, d9⟩
            · refine next (sI h2 23 s (iv 1)) (sc2.sI nk) (hL _ (Or.inr ⟨rfl, er⟩)) (scI_y0 y (muF_n b er)) ?_
              rw [← e1]
              simp -implicitDefEqProofs (disch := omega) only [lp_succ, F_b_X3_leastProof_49, k_X3_leastProof_49_1, k_X3_leastProof_49_2, k_X3_leastProof_49_3, F_f_X3_leastProof_109, k_X3_leastProof_109_1, F_f_X3_leastProof_151, y1, on, y2, oM_k hM, b1, K16 hF1, R16_9 hF1, K23 hF1, N23 hF1, le, gs, gK_sI, gN_sI, gR_sI, d1, K16 hF2, R16_9 hF2, K23 hF2, N23 hF2, d5, go, go1, Int.toNat_natCast, bo2, iv_add, iv_sub, iv_mul, iv_neg, iv_zero, iv_ltT, iv_ltF, iv_leT, iv_leF, iv_eqT, iv_eqF, iv_div, rm_iv, tn_iv, ib_iv, some_cb, some_cbv, ↓nm_eq, ↓reduceIte, true_and, and_true, Bool.true_eq_false, Bool.false_eq_true, not_false_eq_true, not_true_eq_false]
            · by_cases q0 : v ≤ q.1
              · refine ⟨sI h2 23 s (iv 0), sc2.sI nk, Or.inl ⟨s, scI_y1 y (muF_y b er q0), ?_⟩⟩
                simp -implicitDefEqProofs (disch := omega) only [lp_succ, F_b_X3_leastProof_49, k_X3_leastProof_49_1, k_X3_leastProof_49_2, k_X3_leastProof_49_3, F_f_X3_leastProof_109, k_X3_leastProof_109_1, F_f_X3_leastProof_151, y1, on, y2, oM_k hM, b1, K16 hF1, R16_9 hF1, K23 hF1, N23 hF1, le, gs, gK_sI, gN_sI, gR_sI, d1, K16 hF2, R16_9 hF2, K23 hF2, N23 hF2, d5, d6, go, go1, Int.toNat_natCast, bo2, iv_add, iv_sub, iv_mul, iv_neg, iv_zero, iv_ltT, iv_ltF, iv_leT, iv_leF, iv_eqT, iv_eqF, iv_div, rm_iv, tn_iv, ib_iv, some_cb, some_cbv, ↓nm_eq, ↓reduceIte, true_and, and_true, Bool.true_eq_false, Bool.false_eq_true, not_false_eq_true, not_true_eq_false]
              · refine next (sI h2 23 s (iv 0)) (sc2.sI nk) (hL _ (Or.inl ⟨rfl, by rw [er]; exact Option.some_ne_none _⟩)) (scI_y0 y (muF_s b er q0)) ?_
                rw [← e1]
                simp -implicitDefEqProofs (disch := omega) only [lp_succ, F_b_X3_leastProof_49, k_X3_leastProof_49_1, k_X3_leastProof_49_2, k_X3_leastProof_49_3, F_f_X3_leastProof_109, k_X3_leastProof_109_1, F_f_X3_leastProof_151, y1, on, y2, oM_k hM, b1, K16 hF1, R16_9 hF1, K23 hF1, N23 hF1, le, gs, gK_sI, gN_sI, gR_sI, d1, K16 hF2, R16_9 hF2, K23 hF2, N23 hF2, d5, d6, go, go1, Int.toNat_natCast, bo2, iv_add, iv_sub, iv_mul, iv_neg, iv_zero, iv_ltT, iv_ltF, iv_leT, iv_leF, iv_eqT, iv_eqF, iv_div, rm_iv, tn_iv, ib_iv, some_cb, some_cbv, ↓nm_eq, ↓reduceIte, true_and, and_true, Bool.true_eq_false, Bool.false_eq_true, not_false_eq_true, not_true_eq_false]
          · have gs : gI (sI h1 23 s (iv 1)) 23 s = iv 1 := gI_sIs _ _ _ _
            refine next (sI h1 23 s (iv 1)) (sc01.sI nk) (H1.step (ne _) y2 (Or.inr ⟨gs, ln⟩)) (scI_y0 y (muF_n b ln)) ?_
            rw [← e1]
            simp -implicitDefEqProofs (disch := omega) only [lp_succ, F_b_X3_leastProof_49, k_X3_leastProof_49_1, k_X3_leastProof_49_2, k_X3_leastProof_49_3, F_f_X3_leastProof_109, y1, on, y2, oM_k hM, b1, K16 hF1, R16_9 hF1, K23 hF1, N23 hF1, le, gs, gK_sI, gN_sI, gR_sI, Int.toNat_natCast, bo2, iv_add, iv_sub, iv_mul, iv_neg, iv_zero, iv_ltT, iv_ltF, iv_leT, iv_leF, iv_eqT, iv_eqF, iv_div, rm_iv, tn_iv, ib_iv, some_cb, some_cbv, ↓nm_eq, ↓reduceIte, true_and, and_true, Bool.true_eq_false, Bool.false_eq_true, not_false_eq_true, not_true_eq_false]
        · rw [b] at b1
          refine ⟨h1, sc01, Or.inl ⟨-4, scI_y1 y (muF_b b), ?_⟩⟩
          simp -implicitDefEqProofs (disch := omega) only [lp_succ, F_b_X3_leastProof_49, k_X3_leastProof_49_1, k_X3_leastProof_49_2, k_X3_leastProof_49_3, y1, on, y2, oM_k hM, b1, bo2, iv_add, iv_sub, iv_mul, iv_neg, iv_zero, iv_ltT, iv_ltF, iv_leT, iv_leF, iv_eqT, iv_eqF, iv_div, rm_iv, tn_iv, ib_iv, some_cb, some_cbv, ↓nm_eq, ↓reduceIte, true_and, and_true, Bool.true_eq_false, Bool.false_eq_true, not_false_eq_true, not_true_eq_false]
      · refine next hh sc (H.skip (fun q => y2 (cS_iff.1 q).2)) (scI_n (fun q => y2 (cS_iff.1 q).2)) ?_
        rw [← e1]
        simp -implicitDefEqProofs (disch := omega) only [lp_succ, F_b_X3_leastProof_49, k_X3_leastProof_49_3, y1, on, iv_add, iv_sub, iv_mul, iv_neg, iv_zero, iv_ltT, iv_ltF, iv_leT, iv_leF, iv_eqT, iv_eqF, iv_div, rm_iv, tn_iv, ib_iv, some_cb, some_cbv, ↓nm_eq, ↓reduceIte, true_and, and_true, Bool.true_eq_false, Bool.false_eq_true, not_false_eq_true, not_true_eq_false]
    · refine next hh sc (H.skip (fun q => y1 (cS_iff.1 q).1)) (scI_n (fun q => y1 (cS_iff.1 q).1)) ?_
      rw [← e1]
      have y1' : ((iv (s : Int) &&& (iv (t : Int) ^^^ iv (-1))) = iv 0) = False := eq_false y1
      simp -implicitDefEqProofs (disch := omega) only [lp_succ, F_b_X3_leastProof_49, y1', iv_add, iv_sub, iv_mul, iv_neg, iv_zero, iv_ltT, iv_ltF, iv_leT, iv_leF, iv_eqT, iv_eqF, iv_div, rm_iv, tn_iv, ib_iv, some_cb, some_cbv, ↓nm_eq, ↓reduceIte, true_and, and_true, Bool.true_eq_false, Bool.false_eq_true, not_false_eq_true, not_true_eq_false]
set_option maxRecDepth 100000 in
theorem c_must39 (hS : Sim w A h) (hl : lvM w m) {t : Nat} (ht : t < 256) (g0 : 0 ≤ g) (cg : g < wGr w m) (k0 : 0 ≤ k) (ck : k < wCh w m) {p v : Int} (hp : p = 3 * g + k) (v0 : 0 ≤ v) (v1 : v ≤ 9999) : ∀ (n L z : Nat) (hh : AH), n < L → z + n = 9 → Sc w A h hh → LN w m g k t z 0 hh → ∃ h' : AH, Sc w A h h' ∧ lp b_X3_leastProof_39 (fun _ _ _ _ _ _ _ => none) L 16 (A m) (iv (t : Int)) (iv p) (iv v) (iv (z : Int)) hh = some (iv (scO (muF w m g k v) (cS t) t n z), h') := by
  intro n
  induction n with
  | zero =>
    intro L z hh hL hz sc _
    obtain ⟨L, rfl⟩ : ∃ L', L = L' + 1 := ⟨L - 1, by omega⟩
    refine ⟨hh, sc, ?_⟩
    show _ = some (iv (-2), hh)
    simp -implicitDefEqProofs (disch := omega) only [lp_succ, F_b_X3_leastProof_39, iv_add, iv_sub, iv_mul, iv_neg, iv_zero, iv_ltT, iv_ltF, iv_leT, iv_leF, iv_eqT, iv_eqF, iv_div, rm_iv, tn_iv, ib_iv, some_cb, some_cbv, ↓nm_eq, ↓reduceIte, true_and, and_true, Bool.true_eq_false, Bool.false_eq_true, not_false_eq_true, not_true_eq_false]
  | succ n ih =>
    intro L z hh hL hz sc H
    obtain ⟨L, rfl⟩ : ∃ L', L = L' + 1 := ⟨L - 1, by omega⟩
    obtain ⟨h1, s1, i⟩ := c_must49 hS hl ht (z := z) (by omega) g0 cg k0 ck hp v0 v1 (lp b_X3_leastProof_39 (fun _ _ _ _ _ _ _ => none) L) (t + 1) FU 0 hh (FU_gt (by omega)) (by omega) sc H
    have st : lp b_X3_leastProof_39 (fun _ _ _ _ _ _ _ => none) (L + 1) 16 (A m) (iv (t : Int)) (iv p) (iv v) (iv (z : Int)) hh = lp (b_X3_leastProof_49 (lp b_X3_leastProof_39 (fun _ _ _ _ _ _ _ => none) L)) (fun _ _ _ _ _ _ _ _ => none) FU 16 (A m) (iv (t : Int)) (iv p) (iv v) (iv (z : Int)) (iv ((0 : Nat) : Int)) hh := by
      simp -implicitDefEqProofs (disch := omega) only [lp_succ, F_b_X3_leastProof_39, f_X3_leastProof_49, iv_add, iv_sub, iv_mul, iv_neg, iv_zero, iv_ltT, iv_ltF, iv_leT, iv_leF, iv_eqT, iv_eqF, iv_div, rm_iv, tn_iv, ib_iv, some_cb, some_cbv, ↓nm_eq, ↓reduceIte, true_and, and_true, Bool.true_eq_false, Bool.false_eq_true, not_false_eq_true, not_true_eq_false]
      rfl
    rw [st]
    rcases i with ⟨r, i1, i2⟩ | ⟨i1, i4, i2⟩
    · exact ⟨h1, s1, by rw [i2, scO_s i1]⟩
    · obtain ⟨h2, s2, i3⟩ := ih L (z + 1) h1 (by omega) (by omega) s1 i4
      refine ⟨h2, s2, ?_⟩
      rw [i2, scO_n i1, ← i3, show ((z + 1 : Nat) : Int) = (z : Int) + 1 by omega]
theorem LN.z0 (t : Nat) (hh : AH) : LN w m g k t 0 0 hh := fun x _ _ x2 => by omega
theorem mu_not (hW : WI w) (hl : lvM w m) (g0 : 0 ≤ g) (cg : g < wGr w m) (k0 : 0 ≤ k) (ck : k < wCh w m) {t : Nat} (ht : t < 256) {v : Int} (z : bigR w m (iv (t : Int)) = 0) {q : Int × Int} (er : resS w m (iv (t : Int)) g k = some q) (hv : q.1 < v) : scO (muF w m g k v) (cS t) t 9 0 = -2 :=
  scO_none 9 0 (fun z' x _ x0 x1 => by
    have y1 := (cS_iff.1 x1).1
    have hs : subS (iv (x : Int)) (iv (t : Int)) := fun j j0 j1 hj => by
      rw [ivb (by omega) j0 j1] at hj
      rw [ivb ht j0 j1]
      exact (sub_iff (by omega) ht).1 y1 _ hj
    obtain ⟨q', a1, a2⟩ := resS_mono hW hl hs g0 cg k0 ck er
    exact muF_s (bigR_mono hW hl hs z) a1 (by omega))
set_option maxRecDepth 100000 in
theorem M_must (hS : Sim w A h) (x1 x2 x3 x4 : Int32) : Both (f_X11_must 3 x1 x2 x3 x4) (f_X12_must 91 x1 x2 x3 x4) h := by
  obtain ⟨m, rfl, m1, m2⟩ := iv_ex x1
  obtain ⟨s, rfl, s1, s2⟩ := iv_ex x2
  obtain ⟨c, rfl, c1, c2⟩ := iv_ex x3
  obtain ⟨e, rfl, e1, e2⟩ := iv_ex x4
  have hF := hS.F
  have hR := hS.R
  by_cases hl : lvM w m
  · by_cases hc : isC w m c
    · obtain ⟨⟨w1, w2⟩, -⟩ := hS.W; obtain ⟨⟨gg1, gg2⟩, ⟨gc1, gc2⟩, ⟨b2, b3⟩, ⟨hh1, hh2⟩, -⟩ := hS.W.mat hl; obtain ⟨l1, l2⟩ := id hl
      obtain ⟨cc0, cg, ck⟩ := hc; obtain ⟨g, hg⟩ : ∃ g, c / 10 = g := ⟨_, rfl⟩; obtain ⟨k, hk⟩ : ∃ k, c % 10 = k := ⟨_, rfl⟩; rw [hg] at cg; rw [hk] at ck; have g0 : 0 ≤ g := (by omega); have k0 : 0 ≤ k := (by omega)
      have hcp := c_placeOf1 hS c2 hl cc0 hg hk cg ck; have hqc := q_isAsked1 hS.Q c2 hl cc0 hg hk cg ck; have hgd : iv c / iv 10 = iv g := (by rw [iv_div (by omega) (by omega) (by omega) (by omega), hg]); have hkd : rmI (iv c) (iv 10) = iv k := (by rw [rm_iv (by omega) (by omega) (by omega) (by omega), hk]); have hg3 : iv (3 * g + k) / iv 3 = iv g := (by rw [iv_div (by omega) (by omega) (by omega) (by omega)]; congr 1; omega); have hk3 : rmI (iv (3 * g + k)) (iv 3) = iv k := (by rw [rm_iv (by omega) (by omega) (by omega) (by omega)]; congr 1; omega)
      have hM := hS.M hl
      have hcm := c_matterAt1 hF hS.C hS.W m1 m2 hl
      by_cases ht : isT w m s
      · have ct := (c_told hS hl s1 s2).1 ht
        have qt := fun (h3 : AH) (hS3 : Sim w A h3) => (q_told hS3.Q m1 m2 s1 s2).1 ⟨hl, ht⟩
        by_cases he : 0 ≤ e ∧ e ≤ 9999
        · obtain ⟨he0, he1⟩ := id he
          obtain ⟨t1, t2⟩ := ht
          obtain ⟨u1, u2⟩ := p2r hh1 hh2
          obtain ⟨t, rfl⟩ : ∃ t : Nat, s = (t : Int) := ⟨s.toNat, by omega⟩
          have ht : t < 256 := by omega
          have hq : ∀ h3 : AH, Sim w A h3 → CSm w A (f_X12_must 91 (iv m) (iv (t : Int)) (iv c) (iv e)) h3 (iv (scO (muF w m g k e) (cS t) t 9 0)) := fun h3 hS3 => by
            have hF3 := hS3.F
            obtain ⟨h6, e5, e6⟩ := q_must35 hS3 hl ht cc0 hg hk cg ck he0 he1 13 FU 0 h3 (FU_gt (by omega)) (by omega) (Sc.rf hS3)
            rw [sc_139 _ ht] at e6
            change lp b_X12_must_35 (fun _ _ _ _ _ _ _ => none) FU 91 (iv m) (iv (t : Int)) (iv c) (iv e) (iv 0) h3 = _ at e6
            have qt := qt h3 hS3
            have qa := q_isAsked1 hS3.Q c2 hl cc0 hg hk cg ck
            refine ⟨h6, ?_, e5⟩
            simp -implicitDefEqProofs (disch := omega) only [k_X12_must_45_1, k_X12_must_45_2, f_X12_must_45, k_X12_must_1, k_X12_must_2, k_X12_must_3, F_f_X12_must, f_X12_must_35, K91 hF3, qt, qa, q_in1, e6, bo2, iv_add, iv_sub, iv_mul, iv_neg, iv_zero, iv_ltT, iv_ltF, iv_leT, iv_leF, iv_eqT, iv_eqF, iv_div, rm_iv, tn_iv, ib_iv, some_cb, some_cbv, ↓nm_eq, ↓reduceIte, true_and, and_true, Bool.true_eq_false, Bool.false_eq_true, not_false_eq_true, not_true_eq_false]
          obtain ⟨h1, b1, sc1⟩ := c_isTooMany (S := iv (t : Int)) hS hl
          have hS1 := hS.sc sc1
          have hF1 := hS1.F
          rcases bigR_01 w m (iv (t : Int)) with ⟨z, -⟩ | ⟨z, -⟩
          · rw [z] at b1
            obtain ⟨h2, d1, d2, d3, -⟩ := c_goTill hS1 hl (iv (t : Int)) g0 cg k0 ck z (p := 3 * g + k) rfl he0 (by omega)
            have hF2 := (hS1.sc d2).F
            obtain ⟨h3, d5, d6⟩ := c_must39 hS hl ht g0 cg k0 ck (p := 3 * g + k) rfl he0 he1 9 FU 0 h2 (FU_gt (by omega)) (by omega) (sc1.tr d2) (LN.z0 t h2)
            change lp b_X3_leastProof_39 (fun _ _ _ _ _ _ _ => none) FU 16 (A m) (iv (t : Int)) (iv (3 * g + k)) (iv e) (iv 0) h2 = _ at d6
            rcases d3 with ⟨d7, er⟩ | ⟨d7, q, er, lea, d8, ⟨d9, d10⟩, d11⟩
            · refine Both.scr hS ⟨h3, ?_, d5⟩ hq
              simp -implicitDefEqProofs (disch := omega) only [k_X11_must_1, k_X11_must_2, k_X11_must_3, k_X11_must_4, F_f_X11_must, F_f_X3_leastProof_151, k_X3_leastProof_109_1, F_f_X3_leastProof_109, k_X3_leastProof_49_1, k_X3_leastProof_49_2, k_X3_leastProof_49_3, f_X3_leastProof_49, k_X3_leastProof_1, k_X3_leastProof_2, F_f_X3_leastProof, f_X3_leastProof_39, K3 hF, hcm, hcp, oM_k hM, ct, R3_6 hF, K16 hF, b1, K16 hF1, d1, K16 hF2, d7, d6, bo2, iv_add, iv_sub, iv_mul, iv_neg, iv_zero, iv_ltT, iv_ltF, iv_leT, iv_leF, iv_eqT, iv_eqF, iv_div, rm_iv, tn_iv, ib_iv, some_cb, some_cbv, ↓nm_eq, ↓reduceIte, true_and, and_true, Bool.true_eq_false, Bool.false_eq_true, not_false_eq_true, not_true_eq_false]
            · by_cases q0 : q.1 < e
              · have e9 := mu_not hS.W hl g0 cg k0 ck ht z er q0
                rw [e9] at hq
                refine Both.scr hS (r := iv (-2)) ⟨h2, ?_, sc1.tr d2⟩ hq
                simp -implicitDefEqProofs (disch := omega) only [k_X11_must_1, k_X11_must_2, k_X11_must_3, k_X11_must_4, F_f_X11_must, F_f_X3_leastProof_151, k_X3_leastProof_109_1, F_f_X3_leastProof_109, k_X3_leastProof_49_1, k_X3_leastProof_49_2, k_X3_leastProof_49_3, f_X3_leastProof_49, k_X3_leastProof_1, k_X3_leastProof_2, F_f_X3_leastProof, K3 hF, hcm, hcp, oM_k hM, ct, R3_6 hF, K16 hF, b1, K16 hF1, d1, K16 hF2, d7, d8, bo2, iv_add, iv_sub, iv_mul, iv_neg, iv_zero, iv_ltT, iv_ltF, iv_leT, iv_leF, iv_eqT, iv_eqF, iv_div, rm_iv, tn_iv, ib_iv, some_cb, some_cbv, ↓nm_eq, ↓reduceIte, true_and, and_true, Bool.true_eq_false, Bool.false_eq_true, not_false_eq_true, not_true_eq_false]
              · refine Both.scr hS ⟨h3, ?_, d5⟩ hq
                simp -implicitDefEqProofs (disch := omega) only [k_X11_must_1, k_X11_must_2, k_X11_must_3, k_X11_must_4, F_f_X11_must, F_f_X3_leastProof_151, k_X3_leastProof_109_1, F_f_X3_leastProof_109, k_X3_leastProof_49_1, k_X3_leastProof_49_2, k_X3_leastProof_49_3, f_X3_leastProof_49, k_X3_leastProof_1, k_X3_leastProof_2, F_f_X3_leastProof, f_X3_leastProof_39, K3 hF, hcm, hcp, oM_k hM, ct, R3_6 hF, K16 hF, b1, K16 hF1, d1, K16 hF2, d7, d8, d6, bo2, iv_add, iv_sub, iv_mul, iv_neg, iv_zero, iv_ltT, iv_ltF, iv_leT, iv_leF, iv_eqT, iv_eqF, iv_div, rm_iv, tn_iv, ib_iv, some_cb, some_cbv, ↓nm_eq, ↓reduceIte, true_and, and_true, Bool.true_eq_false, Bool.false_eq_true, not_false_eq_true, not_true_eq_false]
          · rw [z] at b1
            obtain ⟨h3, d5, d6⟩ := c_must39 hS hl ht g0 cg k0 ck (p := 3 * g + k) rfl he0 he1 9 FU 0 h1 (FU_gt (by omega)) (by omega) sc1 (LN.z0 t h1)
            change lp b_X3_leastProof_39 (fun _ _ _ _ _ _ _ => none) FU 16 (A m) (iv (t : Int)) (iv (3 * g + k)) (iv e) (iv 0) h1 = _ at d6
            refine Both.scr hS ⟨h3, ?_, d5⟩ hq
            simp -implicitDefEqProofs (disch := omega) only [k_X11_must_1, k_X11_must_2, k_X11_must_3, k_X11_must_4, F_f_X11_must, F_f_X3_leastProof_151, k_X3_leastProof_109_1, F_f_X3_leastProof_109, k_X3_leastProof_49_1, k_X3_leastProof_49_2, k_X3_leastProof_49_3, f_X3_leastProof_49, k_X3_leastProof_1, k_X3_leastProof_2, F_f_X3_leastProof, f_X3_leastProof_39, K3 hF, hcm, hcp, oM_k hM, ct, R3_6 hF, K16 hF, b1, d6, bo2, iv_add, iv_sub, iv_mul, iv_neg, iv_zero, iv_ltT, iv_ltF, iv_leT, iv_leF, iv_eqT, iv_eqF, iv_div, rm_iv, tn_iv, ib_iv, some_cb, some_cbv, ↓nm_eq, ↓reduceIte, true_and, and_true, Bool.true_eq_false, Bool.false_eq_true, not_false_eq_true, not_true_eq_false]
        · have qt := qt h hS
          exact Both.still hS (r := iv (-1)) (by
            by_cases q : e < 0
            · simp -implicitDefEqProofs (disch := omega) only [k_X11_must_1, k_X11_must_2, k_X11_must_3, k_X11_must_4, F_f_X11_must, K3 hF, hcm, hcp, oM_k hM, ct, iv_add, iv_sub, iv_mul, iv_neg, iv_zero, iv_ltT, iv_ltF, iv_leT, iv_leF, iv_eqT, iv_eqF, iv_div, rm_iv, tn_iv, ib_iv, some_cb, some_cbv, ↓nm_eq, ↓reduceIte, true_and, and_true, Bool.true_eq_false, Bool.false_eq_true, not_false_eq_true, not_true_eq_false]
            · simp -implicitDefEqProofs (disch := omega) only [k_X11_must_1, k_X11_must_2, k_X11_must_3, k_X11_must_4, F_f_X11_must, K3 hF, hcm, hcp, oM_k hM, ct, iv_add, iv_sub, iv_mul, iv_neg, iv_zero, iv_ltT, iv_ltF, iv_leT, iv_leF, iv_eqT, iv_eqF, iv_div, rm_iv, tn_iv, ib_iv, some_cb, some_cbv, ↓nm_eq, ↓reduceIte, true_and, and_true, Bool.true_eq_false, Bool.false_eq_true, not_false_eq_true, not_true_eq_false]) (by simp -implicitDefEqProofs (disch := omega) only [k_X12_must_45_1, k_X12_must_45_2, f_X12_must_45, k_X12_must_1, k_X12_must_2, k_X12_must_3, F_f_X12_must, K91 hF, qt, hqc, q_in0, iv_add, iv_sub, iv_mul, iv_neg, iv_zero, iv_ltT, iv_ltF, iv_leT, iv_leF, iv_eqT, iv_eqF, iv_div, rm_iv, tn_iv, ib_iv, some_cb, some_cbv, ↓nm_eq, ↓reduceIte, true_and, and_true, Bool.true_eq_false, Bool.false_eq_true, not_false_eq_true, not_true_eq_false])
      · have ct := (c_told hS hl s1 s2).2 ht
        have qt := (q_told hS.Q m1 m2 s1 s2).2 (fun y => ht y.2)
        exact Both.still hS (r := iv (-1)) (by simp -implicitDefEqProofs (disch := omega) only [k_X11_must_1, k_X11_must_2, k_X11_must_3, k_X11_must_4, F_f_X11_must, K3 hF, hcm, hcp, oM_k hM, ct, iv_add, iv_sub, iv_mul, iv_neg, iv_zero, iv_ltT, iv_ltF, iv_leT, iv_leF, iv_eqT, iv_eqF, iv_div, rm_iv, tn_iv, ib_iv, some_cb, some_cbv, ↓nm_eq, ↓reduceIte, true_and, and_true, Bool.true_eq_false, Bool.false_eq_true, not_false_eq_true, not_true_eq_false]) (by simp -implicitDefEqProofs (disch := omega) only [k_X12_must_45_1, k_X12_must_45_2, f_X12_must_45, k_X12_must_1, k_X12_must_2, k_X12_must_3, F_f_X12_must, K91 hF, qt, iv_add, iv_sub, iv_mul, iv_neg, iv_zero, iv_ltT, iv_ltF, iv_leT, iv_leF, iv_eqT, iv_eqF, iv_div, rm_iv, tn_iv, ib_iv, some_cb, some_cbv, ↓nm_eq, ↓reduceIte, true_and, and_true, Bool.true_eq_false, Bool.false_eq_true, not_false_eq_true, not_true_eq_false])
    · have hcm := c_matterAt1 hF hS.C hS.W m1 m2 hl
      have hcp := c_placeOf0 hS c1 c2 hl hc
      have qa := q_isAsked0 hS.Q m1 m2 c1 c2 (fun q => hc q.2)
      refine Both.still hS (r := iv (-1)) (by simp -implicitDefEqProofs (disch := omega) only [k_X11_must_1, k_X11_must_2, k_X11_must_3, k_X11_must_4, F_f_X11_must, K3 hF, hcm, hcp, iv_add, iv_sub, iv_mul, iv_neg, iv_zero, iv_ltT, iv_ltF, iv_leT, iv_leF, iv_eqT, iv_eqF, iv_div, rm_iv, tn_iv, ib_iv, some_cb, some_cbv, ↓nm_eq, ↓reduceIte, true_and, and_true, Bool.true_eq_false, Bool.false_eq_true, not_false_eq_true, not_true_eq_false]) ?_
      by_cases ht : lvM w m ∧ isT w m s
      · have qt := (q_told hS.Q m1 m2 s1 s2).1 ht
        simp -implicitDefEqProofs (disch := omega) only [k_X12_must_45_1, k_X12_must_45_2, f_X12_must_45, k_X12_must_1, k_X12_must_2, k_X12_must_3, F_f_X12_must, K91 hF, qt, qa, iv_add, iv_sub, iv_mul, iv_neg, iv_zero, iv_ltT, iv_ltF, iv_leT, iv_leF, iv_eqT, iv_eqF, iv_div, rm_iv, tn_iv, ib_iv, some_cb, some_cbv, ↓nm_eq, ↓reduceIte, true_and, and_true, Bool.true_eq_false, Bool.false_eq_true, not_false_eq_true, not_true_eq_false]
      · have qt := (q_told hS.Q m1 m2 s1 s2).2 ht
        simp -implicitDefEqProofs (disch := omega) only [k_X12_must_45_1, k_X12_must_45_2, f_X12_must_45, k_X12_must_1, k_X12_must_2, k_X12_must_3, F_f_X12_must, K91 hF, qt, iv_add, iv_sub, iv_mul, iv_neg, iv_zero, iv_ltT, iv_ltF, iv_leT, iv_leF, iv_eqT, iv_eqF, iv_div, rm_iv, tn_iv, ib_iv, some_cb, some_cbv, ↓nm_eq, ↓reduceIte, true_and, and_true, Bool.true_eq_false, Bool.false_eq_true, not_false_eq_true, not_true_eq_false]
  · have hcm := c_matterAt0 hF hS.C hS.W m1 m2 hl
    have qt := (q_told hS.Q m1 m2 s1 s2).2 (fun y => hl y.1)
    exact Both.still hS (r := iv (-1)) (by simp -implicitDefEqProofs (disch := omega) only [k_X11_must_1, k_X11_must_2, k_X11_must_3, k_X11_must_4, F_f_X11_must, K3 hF, hcm, c_placeOfN, iv_add, iv_sub, iv_mul, iv_neg, iv_zero, iv_ltT, iv_ltF, iv_leT, iv_leF, iv_eqT, iv_eqF, iv_div, rm_iv, tn_iv, ib_iv, some_cb, some_cbv, ↓nm_eq, ↓reduceIte, true_and, and_true, Bool.true_eq_false, Bool.false_eq_true, not_false_eq_true, not_true_eq_false]) (by simp -implicitDefEqProofs (disch := omega) only [k_X12_must_45_1, k_X12_must_45_2, f_X12_must_45, k_X12_must_1, k_X12_must_2, k_X12_must_3, F_f_X12_must, K91 hF, qt, iv_add, iv_sub, iv_mul, iv_neg, iv_zero, iv_ltT, iv_ltF, iv_leT, iv_leF, iv_eqT, iv_eqF, iv_div, rm_iv, tn_iv, ib_iv, some_cb, some_cbv, ↓nm_eq, ↓reduceIte, true_and, and_true, Bool.true_eq_false, Bool.false_eq_true, not_false_eq_true, not_true_eq_false])
end Q
