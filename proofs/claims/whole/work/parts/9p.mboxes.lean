/-! boxes from a row: both -/
section Q
variable {w w' : WD} {A A' : Int → Nat} {h h' h1 : AH} {m s i x : Int}
set_option maxRecDepth 100000 in
theorem q_comesY {b : Int} {G C : Nat} {u : Nat → Int} (H : ComQ w h m s i b G C) (fit : i + ((G + C : Nat) : Int) ≤ sSz w s) (b12 : b < 12) (hu : ∀ k : Nat, k < G + C → u k = (sEl w (60 * s + i + (k : Int))).toInt) (ok : AdOK G C u) : f_X12_comes 91 (iv m) (iv s) (iv i) h = some (iv 1, sI (beQ (cmQ h (12 * m + b) G u (G + C)) (12 * m + b) (suU u G)) 94 m.toNat (iv (b + 1))) := by
  obtain ⟨hF, hR, ⟨m0, m4⟩, ⟨s0, s5⟩, ⟨eG, eC, g2, g4, c2, c3⟩, ⟨eb, b0, b1⟩, ⟨i0, i1⟩, ⟨z0, z1⟩, hel⟩ := id H
  obtain ⟨hv, hs⟩ := ok
  obtain ⟨N', e'⟩ := q_com1 H fit b12 hu (G + C) FU 0 (FU_gt (by omega)) (by omega) (fun j _ z => hv j z)
  change lp b_X12_comes_69 (fun _ _ _ _ _ _ _ _ => none) FU 91 (iv m) (iv s) (iv i) (iv ((G + C : Nat) : Int)) (iv (12 * m + b)) (iv 0) (sI h 96 (3 * (12 * m + b) + 2).toNat (iv 0)) = _ at e'
  obtain ⟨f1, f2, f3, f4, f5, f6, f7⟩ := cmQ_f (h := h) (x := 12 * m + b) (G := G) (u := u) (G + C)
  have hF2 : Fix (cmQ h (12 * m + b) G u (G + C)) := hF.fr (fun a _ => f1 a) (fun a _ => f2 a) (fun a j _ _ _ _ => f3 a j)
  have hR2 := cmQ_RR (G := G) (u := u) hR (x := 12 * m + b) (by omega) (G + C)
  obtain ⟨o1, o2⟩ := cmW_o (w := w) (x := 12 * m + b) (G := G) (u := u) (G + C) (n := G + C) ⟨g4, by omega⟩ (Nat.le_refl _)
  obtain ⟨v1, v2, v3⟩ := cmW_v (w := w) (x := 12 * m + b) (G := G) (u := u) (G + C)
  have eGr : (G : Int) = wGr (cmW w (12 * m + b) G u (G + C)) m := by
    rw [eG]; exact (o2 92 m (by omega) (by omega)).symm
  have sg := q_sumG hF2 hR2 m0 m4 (x := 12 * m + b) (by omega) (by omega) eGr g4 (fun g hg => v1 g (by omega) hg)
  have be := q_begins0 hF2 hR2 m0 m4 (x := 12 * m + b) (by omega) (by omega) eGr g4 (fun g hg => v1 g (by omega) hg)
  have sc := q_sumC hF2 hR2 (x := 12 * m + b) (by omega) (by omega)
  have eS : wC (cmW w (12 * m + b) G u (G + C)) (12 * m + b) 0 + wC (cmW w (12 * m + b) G u (G + C)) (12 * m + b) 1 + wC (cmW w (12 * m + b) G u (G + C)) (12 * m + b) 2 = suU u G := by
    rw [hs]
    have r0 : wC (cmW w (12 * m + b) G u (G + C)) (12 * m + b) 0 = u G := v2 0 (by omega)
    have r1 : wC (cmW w (12 * m + b) G u (G + C)) (12 * m + b) 1 = u (G + 1) := v2 1 (by omega)
    rcases (show C = 2 ∨ C = 3 by omega) with c | c
    · subst c
      have r2 : wC (cmW w (12 * m + b) G u (G + 2)) (12 * m + b) 2 = 0 := v3 (by omega)
      rw [r0, r1, r2]
      simp [suU]
    · subst c
      have r2 : wC (cmW w (12 * m + b) G u (G + 3)) (12 * m + b) 2 = u (G + 2) := v2 2 (by omega)
      rw [r0, r1, r2]
      simp [suU]
  rw [eS] at sc
  have g94 : gI (beQ (cmQ h (12 * m + b) G u (G + C)) (12 * m + b) (suU u G)) 94 m.toNat = iv b := by
    unfold beQ
    rw [gI_sIo _ _ (by omega), gI_sIo _ _ (by omega), gI_sIo _ _ (by omega), f7 _ _ (by omega) (by omega), RR_Bx hR m0, eb]
  have kb : ∀ a, gK (beQ (cmQ h (12 * m + b) G u (G + C)) (12 * m + b) (suU u G)) a = gK (cmQ h (12 * m + b) G u (G + C)) a := fun _ => rfl
  have nb : ∀ a, gN (beQ (cmQ h (12 * m + b) G u (G + C)) (12 * m + b) (suU u G)) a = gN (cmQ h (12 * m + b) G u (G + C)) a := fun _ => rfl
  have rb : ∀ a j, gR (beQ (cmQ h (12 * m + b) G u (G + C)) (12 * m + b) (suU u G)) a j = gR (cmQ h (12 * m + b) G u (G + C)) a j := fun _ _ => rfl
  have e2 : lp b_X12_comes_69 (fun _ _ _ _ _ _ _ _ => none) (N' + 1) 91 (iv m) (iv s) (iv i) (iv ((G + C : Nat) : Int)) (iv (12 * m + b)) (iv ((G + C : Nat) : Int)) (cmQ h (12 * m + b) G u (G + C)) = some (iv 1, sI (beQ (cmQ h (12 * m + b) G u (G + C)) (12 * m + b) (suU u G)) 94 m.toNat (iv (b + 1))) := by
    generalize cmQ h (12 * m + b) G u (G + C) = hk at *
    simp -implicitDefEqProofs (disch := omega) only [lp_succ, F_b_X12_comes_69, k_X12_comes_69_1, k_X12_comes_69_2, k_X12_comes_69_3, K91 hF2, sg, sc, be, kb, nb, rb, R91_3 hF2, K94 hF2, N94 hF2, g94, gK_sI, gN_sI, gR_sI, zret1, iv_add, iv_sub, iv_mul, iv_neg, iv_zero, iv_ltT, iv_ltF, iv_leT, iv_leF, iv_eqT, iv_eqF, iv_div, rm_iv, tn_iv, ib_iv, some_cb, some_cbv, ↓nm_eq, ↓reduceIte, true_and, and_true, Bool.true_eq_false, Bool.false_eq_true, not_false_eq_true, not_true_eq_false]
  rw [e2] at e'
  have eW : wGr w m + wCh w m = ((G + C : Nat) : Int) := by omega
  simp -implicitDefEqProofs (disch := omega) only [F_f_X12_comes, f_X12_comes_69, K91 hF, R91_1 hF, R91_2 hF, R91_3 hF, R91_5 hF, R91_26 hF, K92 hF, N92 hF, K93 hF, N93 hF, K94 hF, N94 hF, K96 hF, N96 hF, K114 hF, N114 hF, RR_Gr hR, RR_Ch hR, RR_Bx hR, RR_Sz hR, eW, eb, e', gK_sI, gN_sI, gR_sI, iv_add, iv_sub, iv_mul, iv_neg, iv_zero, iv_ltT, iv_ltF, iv_leT, iv_leF, iv_eqT, iv_eqF, iv_div, rm_iv, tn_iv, ib_iv, some_cb, some_cbv, ↓nm_eq, ↓reduceIte, true_and, and_true, Bool.true_eq_false, Bool.false_eq_true, not_false_eq_true, not_true_eq_false]
set_option maxRecDepth 100000 in
theorem q_comesN {b : Int} {G C : Nat} {u : Nat → Int} (H : ComQ w h m s i b G C) (hu : i + ((G + C : Nat) : Int) ≤ sSz w s → ∀ k : Nat, k < G + C → u k = (sEl w (60 * s + i + (k : Int))).toInt) (no : ¬ (i + ((G + C : Nat) : Int) ≤ sSz w s ∧ b < 12 ∧ AdOK G C u)) : ∃ h2, f_X12_comes 91 (iv m) (iv s) (iv i) h = some (iv 0, h2) ∧ (h2 = h ∨ b < 12 ∧ ∃ k1, k1 ≤ G + C ∧ h2 = cmQ h (12 * m + b) G u k1) := by
  obtain ⟨hF, hR, ⟨m0, m4⟩, ⟨s0, s5⟩, ⟨eG, eC, g2, g4, c2, c3⟩, ⟨eb, b0, b1⟩, ⟨i0, i1⟩, ⟨z0, z1⟩, hel⟩ := id H
  have eW : wGr w m + wCh w m = ((G + C : Nat) : Int) := by omega
  by_cases b12 : b < 12
  · by_cases fit : i + ((G + C : Nat) : Int) ≤ sSz w s
    · have hu := hu fit
      by_cases hv : ∀ j : Nat, j < G + C → 0 ≤ u j ∧ u j ≤ 99
      · have hs : suU u G ≠ suU (fun k => u (G + k)) C := fun y => no ⟨fit, b12, hv, y⟩
        obtain ⟨N', e'⟩ := q_com1 H fit b12 hu (G + C) FU 0 (FU_gt (by omega)) (by omega) (fun j _ z => hv j z)
        change lp b_X12_comes_69 (fun _ _ _ _ _ _ _ _ => none) FU 91 (iv m) (iv s) (iv i) (iv ((G + C : Nat) : Int)) (iv (12 * m + b)) (iv 0) (sI h 96 (3 * (12 * m + b) + 2).toNat (iv 0)) = _ at e'
        obtain ⟨f1, f2, f3, f4, f5, f6, f7⟩ := cmQ_f (h := h) (x := 12 * m + b) (G := G) (u := u) (G + C)
        have hF2 : Fix (cmQ h (12 * m + b) G u (G + C)) := hF.fr (fun a _ => f1 a) (fun a _ => f2 a) (fun a j _ _ _ _ => f3 a j)
        have hR2 := cmQ_RR (G := G) (u := u) hR (x := 12 * m + b) (by omega) (G + C)
        obtain ⟨o1, o2⟩ := cmW_o (w := w) (x := 12 * m + b) (G := G) (u := u) (G + C) (n := G + C) ⟨g4, by omega⟩ (Nat.le_refl _)
        obtain ⟨v1, v2, v3⟩ := cmW_v (w := w) (x := 12 * m + b) (G := G) (u := u) (G + C)
        have eGr : (G : Int) = wGr (cmW w (12 * m + b) G u (G + C)) m := by
          rw [eG]; exact (o2 92 m (by omega) (by omega)).symm
        have sg := q_sumG hF2 hR2 m0 m4 (x := 12 * m + b) (by omega) (by omega) eGr g4 (fun g hg => v1 g (by omega) hg)
        have sc := q_sumC hF2 hR2 (x := 12 * m + b) (by omega) (by omega)
        have eS : wC (cmW w (12 * m + b) G u (G + C)) (12 * m + b) 0 + wC (cmW w (12 * m + b) G u (G + C)) (12 * m + b) 1 + wC (cmW w (12 * m + b) G u (G + C)) (12 * m + b) 2 = suU (fun k => u (G + k)) C := by
          have r0 : wC (cmW w (12 * m + b) G u (G + C)) (12 * m + b) 0 = u G := v2 0 (by omega)
          have r1 : wC (cmW w (12 * m + b) G u (G + C)) (12 * m + b) 1 = u (G + 1) := v2 1 (by omega)
          rcases (show C = 2 ∨ C = 3 by omega) with c | c
          · subst c
            have r2 : wC (cmW w (12 * m + b) G u (G + 2)) (12 * m + b) 2 = 0 := v3 (by omega)
            rw [r0, r1, r2]
            simp [suU]
          · subst c
            have r2 : wC (cmW w (12 * m + b) G u (G + 3)) (12 * m + b) 2 = u (G + 2) := v2 2 (by omega)
            rw [r0, r1, r2]
            simp [suU]
        rw [eS] at sc
        have s1 := suU_rng (u := u) G (fun j hj => hv j (by omega))
        have s2 := suU_rng (u := fun k => u (G + k)) C (fun j hj => hv (G + j) (by omega))
        have e2 : lp b_X12_comes_69 (fun _ _ _ _ _ _ _ _ => none) (N' + 1) 91 (iv m) (iv s) (iv i) (iv ((G + C : Nat) : Int)) (iv (12 * m + b)) (iv ((G + C : Nat) : Int)) (cmQ h (12 * m + b) G u (G + C)) = some (iv 0, cmQ h (12 * m + b) G u (G + C)) := by
          generalize cmQ h (12 * m + b) G u (G + C) = hk at *
          simp -implicitDefEqProofs (disch := omega) only [lp_succ, F_b_X12_comes_69, k_X12_comes_69_1, k_X12_comes_69_2, k_X12_comes_69_3, K91 hF2, sg, sc, zret0, iv_add, iv_sub, iv_mul, iv_neg, iv_zero, iv_ltT, iv_ltF, iv_leT, iv_leF, iv_eqT, iv_eqF, iv_div, rm_iv, tn_iv, ib_iv, some_cb, some_cbv, ↓nm_eq, ↓reduceIte, true_and, and_true, Bool.true_eq_false, Bool.false_eq_true, not_false_eq_true, not_true_eq_false]
        rw [e2] at e'
        refine ⟨cmQ h (12 * m + b) G u (G + C), ?_, Or.inr ⟨b12, G + C, Nat.le_refl _, rfl⟩⟩
        simp -implicitDefEqProofs (disch := omega) only [F_f_X12_comes, f_X12_comes_69, K91 hF, R91_1 hF, R91_2 hF, R91_3 hF, R91_5 hF, R91_26 hF, K92 hF, N92 hF, K93 hF, N93 hF, K94 hF, N94 hF, K96 hF, N96 hF, K114 hF, N114 hF, RR_Gr hR, RR_Ch hR, RR_Bx hR, RR_Sz hR, eW, eb, e', gK_sI, gN_sI, gR_sI, iv_add, iv_sub, iv_mul, iv_neg, iv_zero, iv_ltT, iv_ltF, iv_leT, iv_leF, iv_eqT, iv_eqF, iv_div, rm_iv, tn_iv, ib_iv, some_cb, some_cbv, ↓nm_eq, ↓reduceIte, true_and, and_true, Bool.true_eq_false, Bool.false_eq_true, not_false_eq_true, not_true_eq_false]
      · have ex : ∃ j : Nat, 0 ≤ j ∧ j < G + C ∧ ¬ (0 ≤ u j ∧ u j ≤ 99) := by
          by_cases q : ∃ j : Nat, 0 ≤ j ∧ j < G + C ∧ ¬ (0 ≤ u j ∧ u j ≤ 99)
          · exact q
          · refine absurd (fun j hj => ?_) hv
            by_cases p : 0 ≤ u j ∧ u j ≤ 99
            · exact p
            · exact absurd ⟨j, by omega, hj, p⟩ q
        obtain ⟨k1, hk1, e'⟩ := q_com0 H fit b12 hu (G + C) FU 0 (FU_gt (by omega)) (by omega) ex
        change lp b_X12_comes_69 (fun _ _ _ _ _ _ _ _ => none) FU 91 (iv m) (iv s) (iv i) (iv ((G + C : Nat) : Int)) (iv (12 * m + b)) (iv 0) (sI h 96 (3 * (12 * m + b) + 2).toNat (iv 0)) = _ at e'
        refine ⟨cmQ h (12 * m + b) G u k1, ?_, Or.inr ⟨b12, k1, hk1, rfl⟩⟩
        simp -implicitDefEqProofs (disch := omega) only [F_f_X12_comes, f_X12_comes_69, K91 hF, R91_1 hF, R91_2 hF, R91_3 hF, R91_5 hF, R91_26 hF, K92 hF, N92 hF, K93 hF, N93 hF, K94 hF, N94 hF, K96 hF, N96 hF, K114 hF, N114 hF, RR_Gr hR, RR_Ch hR, RR_Bx hR, RR_Sz hR, eW, eb, e', gK_sI, gN_sI, gR_sI, iv_add, iv_sub, iv_mul, iv_neg, iv_zero, iv_ltT, iv_ltF, iv_leT, iv_leF, iv_eqT, iv_eqF, iv_div, rm_iv, tn_iv, ib_iv, some_cb, some_cbv, ↓nm_eq, ↓reduceIte, true_and, and_true, Bool.true_eq_false, Bool.false_eq_true, not_false_eq_true, not_true_eq_false]
    · refine ⟨h, ?_, Or.inl rfl⟩
      simp -implicitDefEqProofs (disch := omega) only [F_f_X12_comes, K91 hF, R91_1 hF, R91_2 hF, R91_3 hF, R91_26 hF, K92 hF, N92 hF, K93 hF, N93 hF, K94 hF, N94 hF, K114 hF, N114 hF, RR_Gr hR, RR_Ch hR, RR_Bx hR, RR_Sz hR, eW, eb, zret0, iv_add, iv_sub, iv_mul, iv_neg, iv_zero, iv_ltT, iv_ltF, iv_leT, iv_leF, iv_eqT, iv_eqF, iv_div, rm_iv, tn_iv, ib_iv, some_cb, some_cbv, ↓nm_eq, ↓reduceIte, true_and, and_true, Bool.true_eq_false, Bool.false_eq_true, not_false_eq_true, not_true_eq_false]
  · obtain rfl : b = 12 := by omega
    refine ⟨h, ?_, Or.inl rfl⟩
    simp -implicitDefEqProofs (disch := omega) only [F_f_X12_comes, K91 hF, R91_1 hF, R91_2 hF, R91_3 hF, K92 hF, N92 hF, K93 hF, N93 hF, K94 hF, N94 hF, RR_Gr hR, RR_Ch hR, RR_Bx hR, eb, zret0, iv_add, iv_sub, iv_mul, iv_neg, iv_zero, iv_ltT, iv_ltF, iv_leT, iv_leF, iv_eqT, iv_eqF, iv_div, rm_iv, tn_iv, ib_iv, some_cb, some_cbv, ↓nm_eq, ↓reduceIte, true_and, and_true, Bool.true_eq_false, Bool.false_eq_true, not_false_eq_true, not_true_eq_false]
/-- a row that nothing leans on -/
theorem Sim.r78 (hS : Sim w A h) (k : ∀ a, gK h' a = gK h a) (n : ∀ a, gN h' a = gN h a) (r : ∀ a j, gR h' a j = gR h a j) (j : ∀ a i, gJ h' a i = gJ h a i) (i : ∀ a j, a ≠ 78 → gI h' a j = gI h a j) (g : gC h' = gC h) : Sim w A h' := by
  have hb : ∀ b c : Nat, (b + c ≤ 78 ∨ 78 < b) → Blk h h' b c := fun b c z a y1 y2 => ⟨k a, n a, fun q => i a q (by omega), j a, r a⟩
  have hg := hS.gc
  refine hS.hi (fun _ _ _ => rfl) (hS.F.fr (fun a _ => k a) (fun a _ => n a) (fun a q _ _ _ _ => r a q)) (hS.R.fr (fun a q _ => i a q (by omega)) (fun q => j 115 q)) hS.W (hS.C.kp (hb _ _ (by omega)) rfl rfl rfl (fun _ _ _ => rfl) (fun _ _ _ => rfl) rfl (fun _ _ => rfl) (fun _ _ _ => rfl)) (fun s s0 s1 => (hS.S s0 s1).kp (hb _ _ (by omega)) rfl rfl rfl (fun _ => rfl) (fun _ _ _ => rfl)) (fun b n y _ => hb b n (by omega)) (by omega)
end Q
