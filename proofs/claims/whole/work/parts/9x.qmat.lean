/-! the reference's matter: head, boxes one by one, rows made empty -/
section Q
variable {w : WD} {h h' h1 h2 : AH} {p : Int} {m G C : Nat}
/-- what the reading of a matter changes -/
def QG (h h' : AH) (m : Nat) : Prop := (∀ a, gK h' a = gK h a) ∧ (∀ a, gN h' a = gN h a) ∧ (∀ a i, gR h' a i = gR h a i) ∧ (∀ a i, gJ h' a i = gJ h a i) ∧ gC h' = gC h ∧ gS h' = gS h ∧ ∀ a i, (a ≠ 91 ∨ i ≠ 28 ∧ i ≠ 19) → ((a ≠ 92 ∧ a ≠ 93 ∧ a ≠ 94) ∨ i ≠ m) → (a ≠ 95 ∨ i < 48 * m ∨ 48 * m + 48 ≤ i) → (a ≠ 96 ∨ i < 36 * m ∨ 36 * m + 36 ≤ i) → ((a ≠ 97 ∧ a ≠ 98 ∧ a ≠ 100) ∨ i < 12 * m ∨ 12 * m + 12 ≤ i) → gI h' a i = gI h a i
theorem QG.rf (h : AH) (m : Nat) : QG h h m := ⟨fun _ => rfl, fun _ => rfl, fun _ _ => rfl, fun _ _ => rfl, rfl, rfl, fun _ _ _ _ _ _ _ => rfl⟩
theorem QG.tr (a : QG h h1 m) (b : QG h1 h2 m) : QG h h2 m := ⟨fun x => (b.1 x).trans (a.1 x), fun x => (b.2.1 x).trans (a.2.1 x), fun x i => (b.2.2.1 x i).trans (a.2.2.1 x i), fun x i => (b.2.2.2.1 x i).trans (a.2.2.2.1 x i), b.2.2.2.2.1.trans a.2.2.2.2.1, b.2.2.2.2.2.1.trans a.2.2.2.2.2.1, fun x i y z u v s => (b.2.2.2.2.2.2 x i y z u v s).trans (a.2.2.2.2.2.2 x i y z u v s)⟩
theorem QM.g (a : QM h h1 m 0) : QG h h1 m := ⟨a.1, a.2.1, a.2.2.1, a.2.2.2.1, a.2.2.2.2.1, a.2.2.2.2.2.1, fun x i u v s t _ => a.2.2.2.2.2.2 x i (by omega) (by omega) (by omega) (by omega)⟩
theorem QG.put {a i : Nat} {v : Int32} (z : (a = 91 ∧ (i = 28 ∨ i = 19)) ∨ ((a = 92 ∨ a = 93 ∨ a = 94) ∧ i = m) ∨ ((a = 97 ∨ a = 98 ∨ a = 100) ∧ 12 * m ≤ i ∧ i < 12 * m + 12)) : QG h (sI h a i v) m := ⟨fun _ => rfl, fun _ => rfl, fun _ _ => rfl, fun _ _ => rfl, rfl, rfl, fun x j u v s t r => gI_sIo _ _ (by omega)⟩
set_option maxRecDepth 100000 in
theorem q_readsM (m4 : m < 4) (H : QT w h 0) : ∃ h', f_X12_readsMatter 91 (iv m) h = some (iv (rdT w).1, h') ∧ QG h h' m ∧ Fix h' ∧ gI h' 91 28 = iv (rdT w).2.1 ∧ gI h' 91 19 = iv (wT w) ∧ ((rdT w).1 = 1 → (gI h' 92 m = iv (byt w 1 - 48) ∧ gI h' 93 m = iv (byt w 3 - 48) ∧ gI h' 94 m = iv ((rdT w).2.2.length : Nat)) ∧ ∀ j, j < (rdT w).2.2.length → (∀ g, g < (byt w 1 - 48).toNat → gI h' 95 (4 * (12 * m + j) + g) = iv ((rdT w).2.2.getD j (fun _ => 0) g)) ∧ (∀ c, c < (byt w 3 - 48).toNat → gI h' 96 (3 * (12 * m + j) + c) = iv ((rdT w).2.2.getD j (fun _ => 0) ((byt w 1 - 48).toNat + c))) ∧ ((byt w 3 - 48).toNat = 2 → gI h' 96 (3 * (12 * m + j) + 2) = iv 0)) := by
  have mt : (m : Int).toNat = m := Int.toNat_natCast m
  have hW := H.2.2.2.1
  have wt := hW.2.1
  have br0 := byt_rng hW (p := 0) (by omega)
  have H0 := H.put (a := 94) (i := m) (v := iv 0) (by omega)
  have hF := H.1
  have hF0 := H0.1
  have P0 : QG h (sI h 94 m (iv 0)) m := QG.put (by omega)
  unfold rdT rdH
  by_cases z1 : byt w 0 = 103
  · rw [if_pos z1]
    have hp1 := byt_in (w := w) (p := 0) (c := 103) (by omega) (by omega)
    have s1 := q_eats1 H0 (c := 103) (by omega) (by omega) z1
    obtain ⟨T1, -⟩ := H0.pos (q := 1) (by omega) (by omega)
    change f_X12_eats 91 (iv 103) (sI h 94 m (iv 0)) = some (iv 1, sI (sI h 94 m (iv 0)) 91 28 (iv 1)) at s1
    have e1 := q_here T1
    have hF1 := T1.1
    have br1 := byt_rng hW (p := 1) (by omega)
    have P1 := P0.tr (QG.put (m := m) (h := sI h 94 m (iv 0)) (a := 91) (i := 28) (v := iv 1) (by omega))
    by_cases z2 : 50 ≤ byt w 1 ∧ byt w 1 ≤ 52
    · have hp2 := byt_in (w := w) (p := 1) (c := 50) (by omega) z2.1
      have T2 := T1.put (a := 92) (i := m) (v := iv (byt w 1 - 48)) (by omega)
      obtain ⟨T3, -⟩ := T2.pos (q := 2) (by omega) (by omega)
      have g2 : gI (sI (sI (sI h 94 m (iv 0)) 91 28 (iv 1)) 92 m (iv (byt w 1 - 48))) 91 28 = iv 1 := T2.2.1.1
      have hF2 := T2.1
      have hF3 := T3.1
      have P3 := (P1.tr (QG.put (m := m) (h := sI (sI h 94 m (iv 0)) 91 28 (iv 1)) (a := 92) (i := m) (v := iv (byt w 1 - 48)) (by omega))).tr (QG.put (m := m) (h := sI (sI (sI h 94 m (iv 0)) 91 28 (iv 1)) 92 m (iv (byt w 1 - 48))) (a := 91) (i := 28) (v := iv 2) (by omega))
      rw [if_pos (show 50 ≤ byt w (0 + 1) ∧ byt w (0 + 1) ≤ 52 from z2)]
      by_cases z3 : byt w 2 = 99
      · have hp3 := byt_in (w := w) (p := 2) (c := 99) (by omega) (by omega)
        rw [if_pos (show byt w (0 + 2) = 99 from z3)]
        have s3 := q_eats1 T3 (c := 99) (by omega) (by omega) z3
        rw [show (2 : Int) + 1 = 3 from rfl] at s3
        obtain ⟨T4, -⟩ := T3.pos (q := 3) (by omega) (by omega)
        have e4 := q_here T4
        have hF4 := T4.1
        have br3 := byt_rng hW (p := 3) (by omega)
        have P4 := P3.tr (QG.put (m := m) (h := sI (sI (sI (sI h 94 m (iv 0)) 91 28 (iv 1)) 92 m (iv (byt w 1 - 48))) 91 28 (iv 2)) (a := 91) (i := 28) (v := iv 3) (by omega))
        by_cases z4 : 50 ≤ byt w 3 ∧ byt w 3 ≤ 51
        · rw [if_pos (show 50 ≤ byt w (0 + 3) ∧ byt w (0 + 3) ≤ 51 from z4), if_pos rfl]
          have hp4 := byt_in (w := w) (p := 3) (c := 50) (by omega) z4.1
          have T5 := T4.put (a := 93) (i := m) (v := iv (byt w 3 - 48)) (by omega)
          obtain ⟨T6, -⟩ := T5.pos (q := 4) (by omega) (by omega)
          have g5 : gI (sI (sI (sI (sI (sI (sI h 94 m (iv 0)) 91 28 (iv 1)) 92 m (iv (byt w 1 - 48))) 91 28 (iv 2)) 91 28 (iv 3)) 93 m (iv (byt w 3 - 48))) 91 28 = iv 3 := T5.2.1.1
          have hF5 := T5.1
          have P6 := (P4.tr (QG.put (m := m) (h := sI (sI (sI (sI (sI h 94 m (iv 0)) 91 28 (iv 1)) 92 m (iv (byt w 1 - 48))) 91 28 (iv 2)) 91 28 (iv 3)) (a := 93) (i := m) (v := iv (byt w 3 - 48)) (by omega))).tr (QG.put (m := m) (h := sI (sI (sI (sI (sI (sI h 94 m (iv 0)) 91 28 (iv 1)) 92 m (iv (byt w 1 - 48))) 91 28 (iv 2)) 91 28 (iv 3)) 93 m (iv (byt w 3 - 48))) (a := 91) (i := 28) (v := iv 4) (by omega))
          obtain ⟨h7, e7, M7, T7, n7, v7⟩ := q_rdAll (m := m) (G := (byt w 1 - 48).toNat) (C := (byt w 3 - 48).toNat) m4 (by omega) (by omega) (by omega) (by omega) 12 FU 0 4 _ (FU_gt (by omega)) (by omega) T6 (by
            rw [gI_sIo _ _ (by omega), gI_sIo _ _ (by omega), gI_sIo _ _ (by omega), gI_sIo _ _ (by omega), gI_sIs]
            congr 1
            omega) (by
            rw [gI_sIo _ _ (by omega), gI_sIs]
            congr 1
            omega) (by
            rw [gI_sIo _ _ (by omega), gI_sIo _ _ (by omega), gI_sIo _ _ (by omega), gI_sIo _ _ (by omega), gI_sIo _ _ (by omega), gI_sIo _ _ (by omega), gI_sIs]
            rfl)
          change _ = some (iv (rdA w (byt w 1 - 48).toNat (byt w 3 - 48).toNat 13 4).1, h7) at e7
          refine ⟨h7, ?_, P6.tr M7.g, T7.1, T7.2.1.1, T7.2.1.2, fun u => ⟨⟨?_, ?_, ?_⟩, fun j hj => ?_⟩⟩
          · show _ = some (iv (rdA w (byt w 1 - 48).toNat (byt w 3 - 48).toNat 13 4).1, h7)
            simp -implicitDefEqProofs (disch := omega) only [F_f_X12_readsMatter, f_X12_readsMatter_103, k_X12_readsMatter_1, k_X12_readsMatter_2, k_X12_readsMatter_3, k_X12_readsMatter_4, k_X12_readsMatter_5, k_X12_readsMatter_6, k_X12_readsMatter_7, k_X12_readsMatter_8, mt, K91 hF, R91_3 hF, K94 hF, N94 hF, K91 hF0, s1, K91 hF1, e1, q_in1, R91_1 hF1, K92 hF1, N92 hF1, K91 hF2, g2, K91 hF3, s3, Int.reduceAdd, K91 hF4, e4, R91_2 hF4, K93 hF4, N93 hF4, K91 hF5, g5, e7, iv_add, iv_sub, iv_mul, iv_neg, iv_zero, iv_ltT, iv_ltF, iv_leT, iv_leF, iv_eqT, iv_eqF, iv_div, rm_iv, tn_iv, ib_iv, some_cb, some_cbv, ↓nm_eq, ↓reduceIte, true_and, and_true, Bool.true_eq_false, Bool.false_eq_true, not_false_eq_true, not_true_eq_false]
          · rw [M7.2.2.2.2.2.2 _ _ (by omega) (by omega) (by omega) (by omega), gI_sIo _ _ (by omega), gI_sIo _ _ (by omega), gI_sIo _ _ (by omega), gI_sIo _ _ (by omega), gI_sIs]
          · rw [M7.2.2.2.2.2.2 _ _ (by omega) (by omega) (by omega) (by omega), gI_sIo _ _ (by omega), gI_sIs]
          · rw [n7, Nat.zero_add]; rfl
          · have := v7 j hj
            rw [Nat.zero_add] at this
            exact this
        · rw [if_neg (show ¬ (50 ≤ byt w (0 + 3) ∧ byt w (0 + 3) ≤ 51) from z4), if_neg (by show ¬ (0 : Int) = 1; omega)]
          refine ⟨_, ?_, P4, T4.1, T4.2.1.1, T4.2.1.2, fun u => absurd u (by show ¬ (0 : Int) = 1; omega)⟩
          simp -implicitDefEqProofs (disch := omega) only [F_f_X12_readsMatter, f_X12_readsMatter_103, k_X12_readsMatter_1, k_X12_readsMatter_2, k_X12_readsMatter_3, k_X12_readsMatter_4, k_X12_readsMatter_5, k_X12_readsMatter_6, k_X12_readsMatter_7, k_X12_readsMatter_8, mt, K91 hF, R91_3 hF, K94 hF, N94 hF, K91 hF0, s1, K91 hF1, e1, q_in1, q_in0, R91_1 hF1, K92 hF1, N92 hF1, K91 hF2, g2, K91 hF3, s3, Int.reduceAdd, K91 hF4, e4, zret0, iv_add, iv_sub, iv_mul, iv_neg, iv_zero, iv_ltT, iv_ltF, iv_leT, iv_leF, iv_eqT, iv_eqF, iv_div, rm_iv, tn_iv, ib_iv, some_cb, some_cbv, ↓nm_eq, ↓reduceIte, true_and, and_true, Bool.true_eq_false, Bool.false_eq_true, not_false_eq_true, not_true_eq_false]
      · rw [if_neg (show ¬ byt w (0 + 2) = 99 from z3), if_neg (by show ¬ (0 : Int) = 1; omega)]
        have s3 := q_eats0 T3 (c := 99) (by omega) (by omega) z3
        obtain ⟨T4, -⟩ := T3.pos (q := 2) (by omega) (by omega)
        refine ⟨_, ?_, P3.tr (QG.put (m := m) (h := sI (sI (sI (sI h 94 m (iv 0)) 91 28 (iv 1)) 92 m (iv (byt w 1 - 48))) 91 28 (iv 2)) (a := 91) (i := 28) (v := iv 2) (by omega)), T4.1, T4.2.1.1, T4.2.1.2, fun u => absurd u (by show ¬ (0 : Int) = 1; omega)⟩
        simp -implicitDefEqProofs (disch := omega) only [F_f_X12_readsMatter, f_X12_readsMatter_103, k_X12_readsMatter_1, k_X12_readsMatter_2, k_X12_readsMatter_3, k_X12_readsMatter_4, k_X12_readsMatter_5, k_X12_readsMatter_6, k_X12_readsMatter_7, k_X12_readsMatter_8, mt, K91 hF, R91_3 hF, K94 hF, N94 hF, K91 hF0, s1, K91 hF1, e1, q_in1, R91_1 hF1, K92 hF1, N92 hF1, K91 hF2, g2, K91 hF3, s3, Int.reduceAdd, zret0, iv_add, iv_sub, iv_mul, iv_neg, iv_zero, iv_ltT, iv_ltF, iv_leT, iv_leF, iv_eqT, iv_eqF, iv_div, rm_iv, tn_iv, ib_iv, some_cb, some_cbv, ↓nm_eq, ↓reduceIte, true_and, and_true, Bool.true_eq_false, Bool.false_eq_true, not_false_eq_true, not_true_eq_false]
    · rw [if_neg (show ¬ (50 ≤ byt w (0 + 1) ∧ byt w (0 + 1) ≤ 52) from z2), if_neg (by show ¬ (0 : Int) = 1; omega)]
      refine ⟨_, ?_, P1, T1.1, T1.2.1.1, T1.2.1.2, fun u => absurd u (by show ¬ (0 : Int) = 1; omega)⟩
      simp -implicitDefEqProofs (disch := omega) only [F_f_X12_readsMatter, f_X12_readsMatter_103, k_X12_readsMatter_1, k_X12_readsMatter_2, k_X12_readsMatter_3, k_X12_readsMatter_4, k_X12_readsMatter_5, k_X12_readsMatter_6, k_X12_readsMatter_7, k_X12_readsMatter_8, mt, K91 hF, R91_3 hF, K94 hF, N94 hF, K91 hF0, s1, K91 hF1, e1, q_in0, zret0, iv_add, iv_sub, iv_mul, iv_neg, iv_zero, iv_ltT, iv_ltF, iv_leT, iv_leF, iv_eqT, iv_eqF, iv_div, rm_iv, tn_iv, ib_iv, some_cb, some_cbv, ↓nm_eq, ↓reduceIte, true_and, and_true, Bool.true_eq_false, Bool.false_eq_true, not_false_eq_true, not_true_eq_false]
  · rw [if_neg z1, if_neg (by show ¬ (0 : Int) = 1; omega)]
    have s1 := q_eats0 H0 (c := 103) (by omega) (by omega) z1
    obtain ⟨T1, -⟩ := H0.pos (q := 0) (by omega) (by omega)
    refine ⟨_, ?_, P0.tr (QG.put (m := m) (h := sI h 94 m (iv 0)) (a := 91) (i := 28) (v := iv 0) (by omega)), T1.1, T1.2.1.1, T1.2.1.2, fun u => absurd u (by show ¬ (0 : Int) = 1; omega)⟩
    simp -implicitDefEqProofs (disch := omega) only [F_f_X12_readsMatter, f_X12_readsMatter_103, k_X12_readsMatter_1, k_X12_readsMatter_2, k_X12_readsMatter_3, k_X12_readsMatter_4, k_X12_readsMatter_5, k_X12_readsMatter_6, k_X12_readsMatter_7, k_X12_readsMatter_8, mt, K91 hF, R91_3 hF, K94 hF, N94 hF, K91 hF0, s1, zret0, iv_add, iv_sub, iv_mul, iv_neg, iv_zero, iv_ltT, iv_ltF, iv_leT, iv_leF, iv_eqT, iv_eqF, iv_div, rm_iv, tn_iv, ib_iv, some_cb, some_cbv, ↓nm_eq, ↓reduceIte, true_and, and_true, Bool.true_eq_false, Bool.false_eq_true, not_false_eq_true, not_true_eq_false]
end Q
