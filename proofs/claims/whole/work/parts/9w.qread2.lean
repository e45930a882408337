/-! the reference reads a matter -/
section Q
variable {w : WD} {h h' h1 h2 : AH} {p : Int} {m G C : Nat}
def QM (h h' : AH) (m k : Nat) : Prop := (∀ a, gK h' a = gK h a) ∧ (∀ a, gN h' a = gN h a) ∧ (∀ a i, gR h' a i = gR h a i) ∧ (∀ a i, gJ h' a i = gJ h a i) ∧ gC h' = gC h ∧ gS h' = gS h ∧ ∀ a i, (a ≠ 91 ∨ i ≠ 28) → (a ≠ 94 ∨ i ≠ m) → (a ≠ 95 ∨ i < 4 * (12 * m + k) ∨ 48 * m + 48 ≤ i) → (a ≠ 96 ∨ i < 3 * (12 * m + k) ∨ 36 * m + 36 ≤ i) → gI h' a i = gI h a i
theorem QM.rf (h : AH) (m k : Nat) : QM h h m k := ⟨fun _ => rfl, fun _ => rfl, fun _ _ => rfl, fun _ _ => rfl, rfl, rfl, fun _ _ _ _ _ _ => rfl⟩
theorem QM.tr {k : Nat} (a : QM h h1 m k) (b : QM h1 h2 m k) : QM h h2 m k := ⟨fun x => (b.1 x).trans (a.1 x), fun x => (b.2.1 x).trans (a.2.1 x), fun x i => (b.2.2.1 x i).trans (a.2.2.1 x i), fun x i => (b.2.2.2.1 x i).trans (a.2.2.2.1 x i), b.2.2.2.2.1.trans a.2.2.2.2.1, b.2.2.2.2.2.1.trans a.2.2.2.2.2.1, fun x i y z u v => (b.2.2.2.2.2.2 x i y z u v).trans (a.2.2.2.2.2.2 x i y z u v)⟩
theorem QM.wd {k k' : Nat} (a : QM h h1 m k) (y : k' ≤ k) : QM h h1 m k' := ⟨a.1, a.2.1, a.2.2.1, a.2.2.2.1, a.2.2.2.2.1, a.2.2.2.2.2.1, fun x i u v s t => a.2.2.2.2.2.2 x i u v (by omega) (by omega)⟩
theorem QF.m95 {k lo hi : Nat} (a : QF h h1 95 lo hi) (y : 4 * (12 * m + k) ≤ lo) (z : hi ≤ 48 * m + 48) : QM h h1 m k := ⟨a.1, a.2.1, a.2.2.1, a.2.2.2.1, a.2.2.2.2.1, a.2.2.2.2.2.1, fun x i u v s t => a.2.2.2.2.2.2 x i u (by omega)⟩
theorem QF.m96 {k lo hi : Nat} (a : QF h h1 96 lo hi) (y : 3 * (12 * m + k) ≤ lo) (z : hi ≤ 36 * m + 36) : QM h h1 m k := ⟨a.1, a.2.1, a.2.2.1, a.2.2.2.1, a.2.2.2.2.1, a.2.2.2.2.2.1, fun x i u v s t => a.2.2.2.2.2.2 x i u (by omega)⟩
theorem QM.p94 {k : Nat} {v : Int32} : QM h (sI h 94 m v) m k := ⟨fun _ => rfl, fun _ => rfl, fun _ _ => rfl, fun _ _ => rfl, rfl, rfl, fun a j _ y _ _ => gI_sIo _ _ y⟩
set_option maxRecDepth 100000 in
theorem q_rdAll (m4 : m < 4) (hG : G ≤ 4) (g2 : 2 ≤ G) (hC : C ≤ 3) (c2 : 2 ≤ C) (n : Nat) : ∀ (N k : Nat) (p : Int) (h : AH), n < N → k + n = 12 → QT w h p → gI h 92 m = iv G → gI h 93 m = iv C → gI h 94 m = iv k → ∃ h', lp b_X12_readsMatter_103 (fun _ _ _ => none) N 91 (iv m) h = some (iv (rdA w G C (n + 1) p).1, h') ∧ QM h h' m k ∧ QT w h' (rdA w G C (n + 1) p).2.1 ∧ gI h' 94 m = iv ((k + (rdA w G C (n + 1) p).2.2.length : Nat) : Int) ∧ ∀ j, j < (rdA w G C (n + 1) p).2.2.length → (∀ g, g < G → gI h' 95 (4 * (12 * m + (k + j)) + g) = iv ((rdA w G C (n + 1) p).2.2.getD j (fun _ => 0) g)) ∧ (∀ c, c < C → gI h' 96 (3 * (12 * m + (k + j)) + c) = iv ((rdA w G C (n + 1) p).2.2.getD j (fun _ => 0) (G + c))) ∧ (C = 2 → gI h' 96 (3 * (12 * m + (k + j)) + 2) = iv 0) := by
  have mt : (m : Int).toNat = m := Int.toNat_natCast m
  induction n with
  | zero =>
    intro N k p h hN hk H v92 v93 v94
    obtain ⟨N, rfl⟩ : ∃ N', N = N' + 1 := ⟨N - 1, by omega⟩
    obtain ⟨hF, ⟨b1, b2⟩, ct, hW, q0, q1⟩ := id H
    have wt := hW.2.1
    by_cases z : wT w ≤ p
    · have e : rdA w G C (0 + 1) p = (1, p, []) := if_pos z
      rw [e]
      refine ⟨h, ?_, QM.rf _ _ _, H, v94, fun j y => absurd y (Nat.not_lt_zero j)⟩
      simp -implicitDefEqProofs (disch := omega) only [lp_succ, F_b_X12_readsMatter_103, K91 hF, b1, b2, zret1, iv_add, iv_sub, iv_mul, iv_neg, iv_zero, iv_ltT, iv_ltF, iv_leT, iv_leF, iv_eqT, iv_eqF, iv_div, rm_iv, tn_iv, ib_iv, some_cb, some_cbv, ↓nm_eq, ↓reduceIte, true_and, and_true, Bool.true_eq_false, Bool.false_eq_true, not_false_eq_true, not_true_eq_false]
    · have e : rdA w G C (0 + 1) p = (0, p, []) := (if_neg z).trans (if_pos rfl)
      rw [e]
      refine ⟨h, ?_, QM.rf _ _ _, H, v94, fun j y => absurd y (Nat.not_lt_zero j)⟩
      simp -implicitDefEqProofs (disch := omega) only [lp_succ, F_b_X12_readsMatter_103, K91 hF, R91_3 hF, K94 hF, N94 hF, mt, v94, b1, b2, zret0, iv_add, iv_sub, iv_mul, iv_neg, iv_zero, iv_ltT, iv_ltF, iv_leT, iv_leF, iv_eqT, iv_eqF, iv_div, rm_iv, tn_iv, ib_iv, some_cb, some_cbv, ↓nm_eq, ↓reduceIte, true_and, and_true, Bool.true_eq_false, Bool.false_eq_true, not_false_eq_true, not_true_eq_false]
  | succ n ih =>
    intro N k p h hN hk H v92 v93 v94
    obtain ⟨N, rfl⟩ : ∃ N', N = N' + 1 := ⟨N - 1, by omega⟩
    obtain ⟨hF, ⟨b1, b2⟩, ct, hW, q0, q1⟩ := id H
    have wt := hW.2.1
    rw [rdA_s]
    by_cases z : wT w ≤ p
    · rw [if_pos z]
      refine ⟨h, ?_, QM.rf _ _ _, H, v94, fun j y => absurd y (Nat.not_lt_zero j)⟩
      simp -implicitDefEqProofs (disch := omega) only [lp_succ, F_b_X12_readsMatter_103, K91 hF, b1, b2, zret1, iv_add, iv_sub, iv_mul, iv_neg, iv_zero, iv_ltT, iv_ltF, iv_leT, iv_leF, iv_eqT, iv_eqF, iv_div, rm_iv, tn_iv, ib_iv, some_cb, some_cbv, ↓nm_eq, ↓reduceIte, true_and, and_true, Bool.true_eq_false, Bool.false_eq_true, not_false_eq_true, not_true_eq_false]
    · rw [if_neg z, if_neg (by omega)]
      by_cases y : byt w p = 59
      · rw [if_pos y]
        have sg := q_eats1 H (c := 59) (by omega) (by omega) y
        obtain ⟨T1, F1⟩ := H.pos (q := p + 1) (by omega) (by omega)
        have T2 := T1.put (a := 96) (i := 3 * (12 * m + k) + 2) (v := iv 0) (by omega)
        have hF1 := T1.1
        have hF2 := T2.1
        have hFU : 100 < FU := FU_gt (by omega)
        obtain ⟨h3, e3, F3, T3, v3⟩ := q_rd1 (x := 12 * m + k) (tot := G) (by omega) hG G FU 0 (p + 1) _ (by omega) (by omega) T2
        rw [if_pos rfl] at e3 T3 v3
        rw [Nat.add_zero] at F3
        change f_X12_readsSums 91 (iv ((12 * m + k : Nat) : Int)) (iv 1) (iv G) (sI (sI h 91 28 (iv (p + 1))) 96 (3 * (12 * m + k) + 2) (iv 0)) = _ at e3
        have hF3 := T3.1
        obtain ⟨r1, r2, r3, r4⟩ := rdN_rng hW G 1 (p + 1) (by omega) (by omega)
        have ex : 12 * (m : Int) + (k : Int) = ((12 * m + k : Nat) : Int) := by omega
        have ix : (3 * ((12 * m + k : Nat) : Int) + 2).toNat = 3 * (12 * m + k) + 2 := by omega
        have M3 : QM h h3 m k := (((F1 96 (3 * (12 * m + k) + 2) (3 * (12 * m + k) + 3)).tr (QF.put (by omega))).m96 (m := m) (k := k) (by omega) (by omega)).tr (F3.m95 (by omega) (by omega))
        by_cases u1 : (rdN w 1 G (p + 1)).1 = 1
        · by_cases u2 : byt w (rdN w 1 G (p + 1)).2.1 = 47
          · have eB : rdB w G C (p + 1) = ((rdN w 1 C ((rdN w 1 G (p + 1)).2.1 + 1)).1, (rdN w 1 C ((rdN w 1 G (p + 1)).2.1 + 1)).2.1, fun q => if q < G then (rdN w 1 G (p + 1)).2.2.getD q 0 else (rdN w 1 C ((rdN w 1 G (p + 1)).2.1 + 1)).2.2.getD (q - G) 0) := (if_pos u1).trans (if_pos u2)
            rw [eB]
            have hp2 := byt_in (w := w) (p := (rdN w 1 G (p + 1)).2.1) (c := 47) (by omega) (by omega)
            have sg2 := q_eats1 T3 (c := 47) (by omega) (by omega) u2
            obtain ⟨T4, F4⟩ := T3.pos (q := (rdN w 1 G (p + 1)).2.1 + 1) (by omega) (by omega)
            have hF4 := T4.1
            obtain ⟨h5, e5, F5, T5, v5⟩ := q_rd0 (x := 12 * m + k) (tot := C) (by omega) hC C FU 0 ((rdN w 1 G (p + 1)).2.1 + 1) _ (by omega) (by omega) T4
            rw [if_pos rfl] at e5 T5 v5
            rw [Nat.add_zero] at F5
            change f_X12_readsSums 91 (iv ((12 * m + k : Nat) : Int)) (iv 0) (iv C) _ = _ at e5
            have hF5 := T5.1
            have M5 : QM h h5 m k := (M3.tr ((F4 95 (4 * (12 * m + k)) (4 * (12 * m + k))).m95 (by omega) (by omega))).tr (F5.m96 (by omega) (by omega))
            obtain ⟨s1, s2, s3, s4⟩ := rdN_rng hW C 1 ((rdN w 1 G (p + 1)).2.1 + 1) (by omega) (by omega)
            have g92a : gI (sI (sI h 91 28 (iv (p + 1))) 96 (3 * (12 * m + k) + 2) (iv 0)) 92 m = iv G := by rw [gI_sIo _ _ (by omega), gI_sIo _ _ (by omega)]; exact v92
            have g93a : gI (sI h3 91 28 (iv ((rdN w 1 G (p + 1)).2.1 + 1))) 93 m = iv C := by rw [gI_sIo _ _ (by omega), M3.2.2.2.2.2.2 _ _ (by omega) (by omega) (by omega) (by omega)]; exact v93
            have g94a : gI (sI h 91 28 (iv (p + 1))) 94 m = iv k := by rw [gI_sIo _ _ (by omega)]; exact v94
            have nM5 : gI h5 94 m = iv k := by
              rw [F5.2.2.2.2.2.2 _ _ (by omega) (by omega), gI_sIo _ _ (by omega), F3.2.2.2.2.2.2 _ _ (by omega) (by omega), gI_sIo _ _ (by omega)]
              exact g94a
            by_cases u3 : (rdN w 1 C ((rdN w 1 G (p + 1)).2.1 + 1)).1 = 1
            · rw [if_pos u3]
              rw [u1] at e3
              rw [u3] at e5
              have T6 := T5.put (a := 94) (i := m) (v := iv ((k + 1 : Nat) : Int)) (by omega)
              obtain ⟨h7, e7, M7, T7, n7, v7⟩ := ih N (k + 1) (rdN w 1 C ((rdN w 1 G (p + 1)).2.1 + 1)).2.1 (sI h5 94 m (iv ((k + 1 : Nat) : Int))) (by omega) (by omega) T6 (by rw [gI_sIo _ _ (by omega), M5.2.2.2.2.2.2 _ _ (by omega) (by omega) (by omega) (by omega)]; exact v92) (by rw [gI_sIo _ _ (by omega), M5.2.2.2.2.2.2 _ _ (by omega) (by omega) (by omega) (by omega)]; exact v93) (gI_sIs _ _ _ _)
              refine ⟨h7, ?_, (M5.tr QM.p94).tr (M7.wd (by omega)), T7, ?_, fun j hj => ?_⟩
              · show _ = some (iv (rdA w G C (n + 1) (rdN w 1 C ((rdN w 1 G (p + 1)).2.1 + 1)).2.1).1, h7)
                rw [← e7, show ((k + 1 : Nat) : Int) = (k : Int) + 1 by omega]
                clear e7 M7 n7 v7 ih v3 v5
                simp -implicitDefEqProofs (disch := omega) only [lp_succ, F_b_X12_readsMatter_103, k_X12_readsMatter_103_1, k_X12_readsMatter_103_2, k_X12_readsMatter_103_3, k_X12_readsMatter_103_4, K91 hF, R91_3 hF, K94 hF, N94 hF, mt, v94, b1, b2, sg, K91 hF1, R91_3 hF1, R91_5 hF1, K94 hF1, N94 hF1, K96 hF1, N96 hF1, g94a, ex, ix, K91 hF2, R91_1 hF2, K92 hF2, N92 hF2, g92a, e3, K91 hF3, sg2, K91 hF4, R91_2 hF4, K93 hF4, N93 hF4, g93a, e5, K91 hF5, R91_3 hF5, K94 hF5, N94 hF5, nM5, iv_add, iv_sub, iv_mul, iv_neg, iv_zero, iv_ltT, iv_ltF, iv_leT, iv_leF, iv_eqT, iv_eqF, iv_div, rm_iv, tn_iv, ib_iv, some_cb, some_cbv, ↓nm_eq, ↓reduceIte, true_and, and_true, Bool.true_eq_false, Bool.false_eq_true, not_false_eq_true, not_true_eq_false]
              · show gI h7 94 m = iv ((k + ((rdA w G C (n + 1) (rdN w 1 C ((rdN w 1 G (p + 1)).2.1 + 1)).2.1).2.2.length + 1) : Nat) : Int)
                rw [n7]
                congr 1
                omega
              · cases j with
                | zero =>
                  show (∀ g, g < G → gI h7 95 (4 * (12 * m + (k + 0)) + g) = iv (if g < G then (rdN w 1 G (p + 1)).2.2.getD g 0 else (rdN w 1 C ((rdN w 1 G (p + 1)).2.1 + 1)).2.2.getD (g - G) 0)) ∧ (∀ c, c < C → gI h7 96 (3 * (12 * m + (k + 0)) + c) = iv (if G + c < G then (rdN w 1 G (p + 1)).2.2.getD (G + c) 0 else (rdN w 1 C ((rdN w 1 G (p + 1)).2.1 + 1)).2.2.getD (G + c - G) 0)) ∧ (C = 2 → gI h7 96 (3 * (12 * m + (k + 0)) + 2) = iv 0)
                  rw [Nat.add_zero]
                  refine ⟨fun g hg => ?_, fun c hc => ?_, fun hc => ?_⟩
                  · have := v3 u1 g hg
                    rw [Nat.add_zero] at this
                    rw [if_pos hg, M7.2.2.2.2.2.2 _ _ (by omega) (by omega) (by omega) (by omega), gI_sIo _ _ (by omega), F5.2.2.2.2.2.2 _ _ (by omega) (by omega), gI_sIo _ _ (by omega), this]
                  · have := v5 u3 c hc
                    rw [Nat.add_zero] at this
                    rw [if_neg (by omega), M7.2.2.2.2.2.2 _ _ (by omega) (by omega) (by omega) (by omega), gI_sIo _ _ (by omega), this, show G + c - G = c by omega]
                  · rw [M7.2.2.2.2.2.2 _ _ (by omega) (by omega) (by omega) (by omega), gI_sIo _ _ (by omega), F5.2.2.2.2.2.2 _ _ (by omega) (by omega), gI_sIo _ _ (by omega), F3.2.2.2.2.2.2 _ _ (by omega) (by omega), gI_sIs]
                | succ j =>
                  have := v7 j (Nat.lt_of_succ_lt_succ hj)
                  rw [show k + (j + 1) = k + 1 + j by omega]
                  exact this
            · rw [if_neg u3]
              have u0 : (rdN w 1 C ((rdN w 1 G (p + 1)).2.1 + 1)).1 = 0 := by omega
              rw [u1] at e3
              rw [u0] at e5
              refine ⟨h5, ?_, M5, T5, nM5, fun j y => absurd y (Nat.not_lt_zero j)⟩
              clear ih v3 v5
              simp -implicitDefEqProofs (disch := omega) only [lp_succ, F_b_X12_readsMatter_103, k_X12_readsMatter_103_1, k_X12_readsMatter_103_2, k_X12_readsMatter_103_3, k_X12_readsMatter_103_4, K91 hF, R91_3 hF, K94 hF, N94 hF, mt, v94, b1, b2, sg, K91 hF1, R91_3 hF1, R91_5 hF1, K94 hF1, N94 hF1, K96 hF1, N96 hF1, g94a, ex, ix, K91 hF2, R91_1 hF2, K92 hF2, N92 hF2, g92a, e3, K91 hF3, sg2, K91 hF4, R91_2 hF4, K93 hF4, N93 hF4, g93a, e5, zret0, iv_add, iv_sub, iv_mul, iv_neg, iv_zero, iv_ltT, iv_ltF, iv_leT, iv_leF, iv_eqT, iv_eqF, iv_div, rm_iv, tn_iv, ib_iv, some_cb, some_cbv, ↓nm_eq, ↓reduceIte, true_and, and_true, Bool.true_eq_false, Bool.false_eq_true, not_false_eq_true, not_true_eq_false]
          · have eB : rdB w G C (p + 1) = (0, (rdN w 1 G (p + 1)).2.1, fun _ => 0) := (if_pos u1).trans (if_neg u2)
            rw [eB, if_neg (by show ¬ (0 : Int) = 1; omega)]
            have sg2 := q_eats0 T3 (c := 47) (by omega) (by omega) u2
            obtain ⟨T4, F4⟩ := T3.pos (q := (rdN w 1 G (p + 1)).2.1) (by omega) r2
            have g92a : gI (sI (sI h 91 28 (iv (p + 1))) 96 (3 * (12 * m + k) + 2) (iv 0)) 92 m = iv G := by rw [gI_sIo _ _ (by omega), gI_sIo _ _ (by omega)]; exact v92
            have g94a : gI (sI h 91 28 (iv (p + 1))) 94 m = iv k := by rw [gI_sIo _ _ (by omega)]; exact v94
            rw [u1] at e3
            refine ⟨sI h3 91 28 (iv (rdN w 1 G (p + 1)).2.1), ?_, M3.tr ((F4 95 (4 * (12 * m + k)) (4 * (12 * m + k))).m95 (by omega) (by omega)), T4, by rw [gI_sIo _ _ (by omega), F3.2.2.2.2.2.2 _ _ (by omega) (by omega), gI_sIo _ _ (by omega)]; exact g94a, fun j y => absurd y (Nat.not_lt_zero j)⟩
            clear ih v3
            simp -implicitDefEqProofs (disch := omega) only [lp_succ, F_b_X12_readsMatter_103, k_X12_readsMatter_103_1, k_X12_readsMatter_103_2, k_X12_readsMatter_103_3, k_X12_readsMatter_103_4, K91 hF, R91_3 hF, K94 hF, N94 hF, mt, v94, b1, b2, sg, K91 hF1, R91_3 hF1, R91_5 hF1, K94 hF1, N94 hF1, K96 hF1, N96 hF1, g94a, ex, ix, K91 hF2, R91_1 hF2, K92 hF2, N92 hF2, g92a, e3, K91 hF3, sg2, zret0, iv_add, iv_sub, iv_mul, iv_neg, iv_zero, iv_ltT, iv_ltF, iv_leT, iv_leF, iv_eqT, iv_eqF, iv_div, rm_iv, tn_iv, ib_iv, some_cb, some_cbv, ↓nm_eq, ↓reduceIte, true_and, and_true, Bool.true_eq_false, Bool.false_eq_true, not_false_eq_true, not_true_eq_false]
        · have eB : rdB w G C (p + 1) = (0, (rdN w 1 G (p + 1)).2.1, fun _ => 0) := if_neg u1
          rw [eB, if_neg (by show ¬ (0 : Int) = 1; omega)]
          have u0 : (rdN w 1 G (p + 1)).1 = 0 := by omega
          have g92a : gI (sI (sI h 91 28 (iv (p + 1))) 96 (3 * (12 * m + k) + 2) (iv 0)) 92 m = iv G := by rw [gI_sIo _ _ (by omega), gI_sIo _ _ (by omega)]; exact v92
          have g94a : gI (sI h 91 28 (iv (p + 1))) 94 m = iv k := by rw [gI_sIo _ _ (by omega)]; exact v94
          rw [u0] at e3
          refine ⟨h3, ?_, M3, T3, by rw [F3.2.2.2.2.2.2 _ _ (by omega) (by omega), gI_sIo _ _ (by omega)]; exact g94a, fun j y => absurd y (Nat.not_lt_zero j)⟩
          clear ih v3
          simp -implicitDefEqProofs (disch := omega) only [lp_succ, F_b_X12_readsMatter_103, k_X12_readsMatter_103_1, k_X12_readsMatter_103_2, k_X12_readsMatter_103_3, k_X12_readsMatter_103_4, K91 hF, R91_3 hF, K94 hF, N94 hF, mt, v94, b1, b2, sg, K91 hF1, R91_3 hF1, R91_5 hF1, K94 hF1, N94 hF1, K96 hF1, N96 hF1, g94a, ex, ix, K91 hF2, R91_1 hF2, K92 hF2, N92 hF2, g92a, e3, zret0, iv_add, iv_sub, iv_mul, iv_neg, iv_zero, iv_ltT, iv_ltF, iv_leT, iv_leF, iv_eqT, iv_eqF, iv_div, rm_iv, tn_iv, ib_iv, some_cb, some_cbv, ↓nm_eq, ↓reduceIte, true_and, and_true, Bool.true_eq_false, Bool.false_eq_true, not_false_eq_true, not_true_eq_false]
      · rw [if_neg y]
        have sg := q_eats0 H (c := 59) (by omega) (by omega) y
        obtain ⟨T1, F1⟩ := H.pos (q := p) q0 q1
        refine ⟨sI h 91 28 (iv p), ?_, (F1 95 (4 * (12 * m + k)) (4 * (12 * m + k))).m95 (by omega) (by omega), T1, by rw [gI_sIo _ _ (by omega)]; exact v94, fun j y => absurd y (Nat.not_lt_zero j)⟩
        simp -implicitDefEqProofs (disch := omega) only [lp_succ, F_b_X12_readsMatter_103, k_X12_readsMatter_103_1, k_X12_readsMatter_103_2, k_X12_readsMatter_103_3, k_X12_readsMatter_103_4, K91 hF, R91_3 hF, K94 hF, N94 hF, mt, v94, b1, b2, sg, zret0, iv_add, iv_sub, iv_mul, iv_neg, iv_zero, iv_ltT, iv_ltF, iv_leT, iv_leF, iv_eqT, iv_eqF, iv_div, rm_iv, tn_iv, ib_iv, some_cb, some_cbv, ↓nm_eq, ↓reduceIte, true_and, and_true, Bool.true_eq_false, Bool.false_eq_true, not_false_eq_true, not_true_eq_false]
end Q
