/-! sets as bits; boxes that a set names; whether that is too much -/
def bt (v : Int32) (b : Int) : Prop := (v >>> (iv b &&& 31)) &&& iv 1 = iv 1
theorem sh_r (v : Int32) {b : Int} (b0 : 0 ≤ b) (b1 : b ≤ 11) : (v >>> (iv b &&& 31)).toBitVec = v.toBitVec.sshiftRight b.toNat := by
  rcases (show b = 0 ∨ b = 1 ∨ b = 2 ∨ b = 3 ∨ b = 4 ∨ b = 5 ∨ b = 6 ∨ b = 7 ∨ b = 8 ∨ b = 9 ∨ b = 10 ∨ b = 11 by omega) with q | q | q | q | q | q | q | q | q | q | q | q <;> subst q <;> rfl
theorem sh_l {c : Int} (c0 : 0 ≤ c) (c1 : c ≤ 11) : (iv 1 <<< (iv c &&& 31)).toBitVec = 1#32 <<< c.toNat := by
  rcases (show c = 0 ∨ c = 1 ∨ c = 2 ∨ c = 3 ∨ c = 4 ∨ c = 5 ∨ c = 6 ∨ c = 7 ∨ c = 8 ∨ c = 9 ∨ c = 10 ∨ c = 11 by omega) with q | q | q | q | q | q | q | q | q | q | q | q <;> subst q <;> rfl
theorem and1 (x : BitVec 32) : x &&& 1#32 = if x.getLsbD 0 then 1#32 else 0#32 := by
  apply BitVec.eq_of_getLsbD_eq
  intro i hi
  rw [BitVec.getLsbD_and]
  by_cases z : i = 0
  · subst z
    cases x.getLsbD 0 <;> rfl
  · have h1 : (1#32).getLsbD i = false := by
      rw [BitVec.getLsbD_one]
      simp [z]
    rw [h1, Bool.and_false]
    cases x.getLsbD 0
    · simp
    · simp [h1]
theorem sh_0 (v : Int32) {b : Int} (b0 : 0 ≤ b) (b1 : b ≤ 11) : (v.toBitVec.sshiftRight b.toNat).getLsbD 0 = v.toBitVec.getLsbD b.toNat := by
  rw [BitVec.getLsbD_sshiftRight, Nat.add_zero]
  have : b.toNat < 32 := by omega
  simp [this]
theorem bt_iff (v : Int32) {b : Int} (b0 : 0 ≤ b) (b1 : b ≤ 11) : bt v b ↔ v.toBitVec.getLsbD b.toNat = true := by
  unfold bt
  rw [← Int32.toBitVec_inj, Int32.toBitVec_and, sh_r v b0 b1, show (iv 1).toBitVec = 1#32 from rfl, and1, sh_0 v b0 b1]
  cases v.toBitVec.getLsbD b.toNat <;> decide
theorem bt_0 (v : Int32) {b : Int} (b0 : 0 ≤ b) (b1 : b ≤ 11) (h : ¬ bt v b) : (v >>> (iv b &&& 31)) &&& iv 1 = iv 0 := by
  rw [bt_iff v b0 b1] at h
  rw [← Int32.toBitVec_inj, Int32.toBitVec_and, sh_r v b0 b1, show (iv 1).toBitVec = 1#32 from rfl, and1, sh_0 v b0 b1]
  cases e : v.toBitVec.getLsbD b.toNat
  · rfl
  · exact absurd e h
theorem bt_or (v : Int32) {b c : Int} (b0 : 0 ≤ b) (b1 : b ≤ 11) (c0 : 0 ≤ c) (c1 : c ≤ 11) : bt (v ||| (iv 1 <<< (iv c &&& 31))) b ↔ bt v b ∨ b = c := by
  rw [bt_iff _ b0 b1, bt_iff _ b0 b1, Int32.toBitVec_or, BitVec.getLsbD_or, sh_l c0 c1, BitVec.getLsbD_shiftLeft, BitVec.getLsbD_one]
  by_cases z : b = c
  · subst z
    simp
    omega
  · have : (b.toNat - c.toNat = 0 ∧ ¬ b.toNat < c.toNat) → False := by omega
    simp only [z, or_false, Bool.or_eq_true, Bool.and_eq_true, Bool.not_eq_true', decide_eq_false_iff_not, decide_eq_true_eq]
    constructor
    · rintro (h | ⟨⟨h1, h2⟩, h3⟩)
      · exact h
      · omega
    · exact Or.inl
theorem bt_z {b : Int} (b0 : 0 ≤ b) (b1 : b ≤ 11) : ¬ bt (iv 0) b := by
  rw [bt_iff _ b0 b1, show (iv 0).toBitVec = 0#32 from rfl, BitVec.getLsbD_zero]
  simp
section Q
variable {w : WD} {A : Int → Nat} {h h1 : AH} {m : Int} {S : Int32}
/-- a set names a box -/
def nmB (w : WD) (m : Int) (S : Int32) (b : Int) : Prop := ∃ k : Int, 0 ≤ k ∧ k < wH w m ∧ bt S k ∧ (hBo w (12 * m + k) = b ∨ (2 ≤ hSo w (12 * m + k) ∧ hOt w (12 * m + k) = b))
theorem held_rng (hW : WI w) (hl : lvM w m) {k : Int} (k0 : 0 ≤ k) (k1 : k < wH w m) : (0 ≤ hBo w (12 * m + k) ∧ hBo w (12 * m + k) ≤ 11) ∧ (2 ≤ hSo w (12 * m + k) → 0 ≤ hOt w (12 * m + k) ∧ hOt w (12 * m + k) ≤ 11) ∧ (0 ≤ hSo w (12 * m + k) ∧ hSo w (12 * m + k) ≤ 3) ∧ (0 ≤ hMu w (12 * m + k) ∧ hMu w (12 * m + k) ≤ 999) ∧ (0 ≤ hOt w (12 * m + k) ∧ hOt w (12 * m + k) ≤ 99) := by
  obtain ⟨-, -, bb, -, -, hh⟩ := hW.mat hl
  obtain ⟨z1, z2, z3, z4, z5, z6⟩ := hh k k0 k1
  exact ⟨by omega, fun y => by have := z6 y; omega, z1, z5, z4⟩
set_option maxRecDepth 100000 in
theorem q_namedBy (hS : QS w h) (hl : lvM w m) (S : Int32) : ∃ N : Int32, f_X12_namedBy 91 (iv m) S h = some (N, h) ∧ ∀ b : Int, 0 ≤ b → b ≤ 11 → (bt N b ↔ nmB w m S b) := by
  have hF := hS.F
  have hR := hS.R
  have l0 := hl.1
  have l4 : m < 4 := by have := hl.2; have := hS.W.1.2; omega
  obtain ⟨-, -, -, hh, -⟩ := hS.W.mat hl
  have l : ∀ (n L : Nat) (j : Int) (N : Int32), n < L → 0 ≤ j → j + n = wH w m → (∀ b : Int, 0 ≤ b → b ≤ 11 → (bt N b ↔ ∃ k : Int, 0 ≤ k ∧ k < j ∧ bt S k ∧ (hBo w (12 * m + k) = b ∨ (2 ≤ hSo w (12 * m + k) ∧ hOt w (12 * m + k) = b)))) → ∃ N' : Int32, lp b_X12_namedBy_5 (fun _ _ _ _ _ _ => none) L 91 (iv m) S N (iv j) h = some (N', h) ∧ ∀ b : Int, 0 ≤ b → b ≤ 11 → (bt N' b ↔ nmB w m S b) := by
    intro n
    induction n with
    | zero =>
      intro L j N hL j0 hj hN
      obtain ⟨L, rfl⟩ : ∃ L', L = L' + 1 := ⟨L - 1, by omega⟩
      refine ⟨N, ?_, fun b b0 b1 => ?_⟩
      · simp -implicitDefEqProofs (disch := omega) only [lp_succ, F_b_X12_namedBy_5, K91 hF, R91_12 hF, K103 hF, N103 hF, RR_H hR, iv_add, iv_sub, iv_mul, iv_neg, iv_zero, iv_ltT, iv_ltF, iv_leT, iv_leF, iv_eqT, iv_eqF, iv_div, rm_iv, tn_iv, ib_iv, some_cb, some_cbv, ↓nm_eq, ↓reduceIte, true_and, and_true, Bool.true_eq_false, Bool.false_eq_true, not_false_eq_true, not_true_eq_false]
      · rw [hN b b0 b1]
        unfold nmB
        rw [show wH w m = j by omega]
    | succ n ih =>
      intro L j N hL j0 hj hN
      obtain ⟨L, rfl⟩ : ∃ L', L = L' + 1 := ⟨L - 1, by omega⟩
      obtain ⟨r1, r2, r3, r4, r5⟩ := held_rng hS.W hl j0 (by omega)
      by_cases z : bt S j
      · have z' : ((S >>> (iv j &&& 31)) &&& iv 1 = iv 1) = True := eq_true z
        by_cases y : hSo w (12 * m + j) < 2
        · obtain ⟨N', e1, e2⟩ := ih L (j + 1) (N ||| (iv 1 <<< (iv (hBo w (12 * m + j)) &&& 31))) (by omega) (by omega) (by omega) (fun b b0 b1 => by
            rw [bt_or _ b0 b1 r1.1 r1.2, hN b b0 b1]
            constructor
            · rintro (⟨k, k0, k1, k2⟩ | k)
              · exact ⟨k, k0, by omega, k2⟩
              · exact ⟨j, j0, by omega, z, Or.inl k.symm⟩
            · rintro ⟨k, k0, k1, k2, k3⟩
              by_cases q : k = j
              · subst q
                rcases k3 with k3 | k3
                · exact Or.inr k3.symm
                · omega
              · exact Or.inl ⟨k, k0, by omega, k2, k3⟩)
          refine ⟨N', ?_, e2⟩
          rw [← e1]
          simp -implicitDefEqProofs (disch := omega) only [lp_succ, F_b_X12_namedBy_5, K91 hF, R91_12 hF, R91_13 hF, R91_15 hF, R91_16 hF, K103 hF, N103 hF, K104 hF, N104 hF, K106 hF, N106 hF, K107 hF, N107 hF, RR_H hR, RR_hSo hR, RR_hBo hR, RR_hOt hR, z', or_iv0, iv_add, iv_sub, iv_mul, iv_neg, iv_zero, iv_ltT, iv_ltF, iv_leT, iv_leF, iv_eqT, iv_eqF, iv_div, rm_iv, tn_iv, ib_iv, some_cb, some_cbv, ↓nm_eq, ↓reduceIte, true_and, and_true, Bool.true_eq_false, Bool.false_eq_true, not_false_eq_true, not_true_eq_false]
        · obtain ⟨s1, s2⟩ := r2 (by omega)
          obtain ⟨N', e1, e2⟩ := ih L (j + 1) ((N ||| (iv 1 <<< (iv (hBo w (12 * m + j)) &&& 31))) ||| (iv 1 <<< (iv (hOt w (12 * m + j)) &&& 31))) (by omega) (by omega) (by omega) (fun b b0 b1 => by
            rw [bt_or _ b0 b1 s1 s2, bt_or _ b0 b1 r1.1 r1.2, hN b b0 b1]
            constructor
            · rintro ((⟨k, k0, k1, k2⟩ | k) | k)
              · exact ⟨k, k0, by omega, k2⟩
              · exact ⟨j, j0, by omega, z, Or.inl k.symm⟩
              · exact ⟨j, j0, by omega, z, Or.inr ⟨by omega, k.symm⟩⟩
            · rintro ⟨k, k0, k1, k2, k3⟩
              by_cases q : k = j
              · subst q
                rcases k3 with k3 | k3
                · exact Or.inl (Or.inr k3.symm)
                · exact Or.inr k3.2.symm
              · exact Or.inl (Or.inl ⟨k, k0, by omega, k2, k3⟩))
          refine ⟨N', ?_, e2⟩
          rw [← e1]
          simp -implicitDefEqProofs (disch := omega) only [lp_succ, F_b_X12_namedBy_5, K91 hF, R91_12 hF, R91_13 hF, R91_15 hF, R91_16 hF, K103 hF, N103 hF, K104 hF, N104 hF, K106 hF, N106 hF, K107 hF, N107 hF, RR_H hR, RR_hSo hR, RR_hBo hR, RR_hOt hR, z', iv_add, iv_sub, iv_mul, iv_neg, iv_zero, iv_ltT, iv_ltF, iv_leT, iv_leF, iv_eqT, iv_eqF, iv_div, rm_iv, tn_iv, ib_iv, some_cb, some_cbv, ↓nm_eq, ↓reduceIte, true_and, and_true, Bool.true_eq_false, Bool.false_eq_true, not_false_eq_true, not_true_eq_false]
      · have z' : ((S >>> (iv j &&& 31)) &&& iv 1 = iv 1) = False := eq_false z
        obtain ⟨N', e1, e2⟩ := ih L (j + 1) N (by omega) (by omega) (by omega) (fun b b0 b1 => by
          rw [hN b b0 b1]
          constructor
          · rintro ⟨k, k0, k1, k2⟩
            exact ⟨k, k0, by omega, k2⟩
          · rintro ⟨k, k0, k1, k2, k3⟩
            by_cases q : k = j
            · subst q; exact absurd k2 z
            · exact ⟨k, k0, by omega, k2, k3⟩)
        refine ⟨N', ?_, e2⟩
        rw [← e1]
        simp -implicitDefEqProofs (disch := omega) only [lp_succ, F_b_X12_namedBy_5, K91 hF, R91_12 hF, K103 hF, N103 hF, RR_H hR, z', iv_add, iv_sub, iv_mul, iv_neg, iv_zero, iv_ltT, iv_ltF, iv_leT, iv_leF, iv_eqT, iv_eqF, iv_div, rm_iv, tn_iv, ib_iv, some_cb, some_cbv, ↓nm_eq, ↓reduceIte, true_and, and_true, Bool.true_eq_false, Bool.false_eq_true, not_false_eq_true, not_true_eq_false]
  have := l (wH w m).toNat FU 0 (iv 0) (FU_gt (by omega)) (by omega) (by omega) (fun b b0 b1 => ⟨fun y => absurd y (bt_z b0 b1), fun ⟨k, k0, k1, _⟩ => by omega⟩)
  exact this
set_option maxRecDepth 100000 in
theorem c_named (hS : Sim w A h) (hl : lvM w m) (S : Int32) : ∃ N : Int32, f_X6_named (A m) S h = some (N, h) ∧ ∀ b : Int, 0 ≤ b → b ≤ 11 → (bt N b ↔ nmB w m S b) := by
  have hF := hS.F
  have hM := hS.M hl
  have l0 := hl.1
  obtain ⟨-, -, -, hh, -⟩ := hS.W.mat hl
  have l : ∀ (n L : Nat) (j : Int) (N : Int32), n < L → 0 ≤ j → j + n = wH w m → (∀ b : Int, 0 ≤ b → b ≤ 11 → (bt N b ↔ ∃ k : Int, 0 ≤ k ∧ k < j ∧ bt S k ∧ (hBo w (12 * m + k) = b ∨ (2 ≤ hSo w (12 * m + k) ∧ hOt w (12 * m + k) = b)))) → ∃ N' : Int32, lp b_X6_named_4 (fun _ _ _ _ _ => none) L (A m) S N (iv j) h = some (N', h) ∧ ∀ b : Int, 0 ≤ b → b ≤ 11 → (bt N' b ↔ nmB w m S b) := by
    intro n
    induction n with
    | zero =>
      intro L j N hL j0 hj hN
      obtain ⟨L, rfl⟩ : ∃ L', L = L' + 1 := ⟨L - 1, by omega⟩
      refine ⟨N, ?_, fun b b0 b1 => ?_⟩
      · simp -implicitDefEqProofs (disch := omega) only [lp_succ, F_b_X6_named_4, oM_k hM, oM_6 hM, iv_add, iv_sub, iv_mul, iv_neg, iv_zero, iv_ltT, iv_ltF, iv_leT, iv_leF, iv_eqT, iv_eqF, iv_div, rm_iv, tn_iv, ib_iv, some_cb, some_cbv, ↓nm_eq, ↓reduceIte, true_and, and_true, Bool.true_eq_false, Bool.false_eq_true, not_false_eq_true, not_true_eq_false]
      · rw [hN b b0 b1]
        unfold nmB
        rw [show wH w m = j by omega]
    | succ n ih =>
      intro L j N hL j0 hj hN
      obtain ⟨L, rfl⟩ : ∃ L', L = L' + 1 := ⟨L - 1, by omega⟩
      obtain ⟨r1, r2, r3, r4, r5⟩ := held_rng hS.W hl j0 (by omega)
      obtain ⟨o1, o2, o3, o4, o5, o6⟩ := hS.H hl j0 (show j < wH w m by omega)
      have rj := oM_h hM j0 (show j < wH w m by omega)
      by_cases z : bt S j
      · have z1 : (S >>> (iv j &&& 31)) &&& iv 1 = iv 1 := z
        by_cases y : hSo w (12 * m + j) < 2
        · obtain ⟨N', e1, e2⟩ := ih L (j + 1) (N ||| (iv 1 <<< (iv (hBo w (12 * m + j)) &&& 31))) (by omega) (by omega) (by omega) (fun b b0 b1 => by
            rw [bt_or _ b0 b1 r1.1 r1.2, hN b b0 b1]
            constructor
            · rintro (⟨k, k0, k1, k2⟩ | k)
              · exact ⟨k, k0, by omega, k2⟩
              · exact ⟨j, j0, by omega, z, Or.inl k.symm⟩
            · rintro ⟨k, k0, k1, k2, k3⟩
              by_cases q : k = j
              · subst q
                rcases k3 with k3 | k3
                · exact Or.inr k3.symm
                · omega
              · exact Or.inl ⟨k, k0, by omega, k2, k3⟩)
          refine ⟨N', ?_, e2⟩
          rw [← e1]
          simp -implicitDefEqProofs (disch := omega) only [lp_succ, F_b_X6_named_4, k_X6_named_4_1, k_X1_boxBits_1, F_f_X1_boxBits, F_f_X1_isOfTwo, oM_k hM, oM_6 hM, oM_3 hM, oM_k2 hM, oM_n2 hM, rj, o1, o2, o4, o5, z1, zret0, zret1, iv_add, iv_sub, iv_mul, iv_neg, iv_zero, iv_ltT, iv_ltF, iv_leT, iv_leF, iv_eqT, iv_eqF, iv_div, rm_iv, tn_iv, ib_iv, some_cb, some_cbv, ↓nm_eq, ↓reduceIte, true_and, and_true, Bool.true_eq_false, Bool.false_eq_true, not_false_eq_true, not_true_eq_false]
        · obtain ⟨s1, s2⟩ := r2 (by omega)
          obtain ⟨N', e1, e2⟩ := ih L (j + 1) (N ||| ((iv 1 <<< (iv (hBo w (12 * m + j)) &&& 31)) ||| (iv 1 <<< (iv (hOt w (12 * m + j)) &&& 31)))) (by omega) (by omega) (by omega) (fun b b0 b1 => by
            rw [← Int32.or_assoc, bt_or _ b0 b1 s1 s2, bt_or _ b0 b1 r1.1 r1.2, hN b b0 b1]
            constructor
            · rintro ((⟨k, k0, k1, k2⟩ | k) | k)
              · exact ⟨k, k0, by omega, k2⟩
              · exact ⟨j, j0, by omega, z, Or.inl k.symm⟩
              · exact ⟨j, j0, by omega, z, Or.inr ⟨by omega, k.symm⟩⟩
            · rintro ⟨k, k0, k1, k2, k3⟩
              by_cases q : k = j
              · subst q
                rcases k3 with k3 | k3
                · exact Or.inl (Or.inr k3.symm)
                · exact Or.inr k3.2.symm
              · exact Or.inl (Or.inl ⟨k, k0, by omega, k2, k3⟩))
          refine ⟨N', ?_, e2⟩
          rw [← e1]
          simp -implicitDefEqProofs (disch := omega) only [lp_succ, F_b_X6_named_4, k_X6_named_4_1, k_X1_boxBits_1, F_f_X1_boxBits, F_f_X1_isOfTwo, oM_k hM, oM_6 hM, oM_3 hM, oM_k2 hM, oM_n2 hM, rj, o1, o2, o4, o5, z1, zret0, zret1, iv_add, iv_sub, iv_mul, iv_neg, iv_zero, iv_ltT, iv_ltF, iv_leT, iv_leF, iv_eqT, iv_eqF, iv_div, rm_iv, tn_iv, ib_iv, some_cb, some_cbv, ↓nm_eq, ↓reduceIte, true_and, and_true, Bool.true_eq_false, Bool.false_eq_true, not_false_eq_true, not_true_eq_false]
      · have z0 := bt_0 S j0 (by omega) z
        obtain ⟨N', e1, e2⟩ := ih L (j + 1) N (by omega) (by omega) (by omega) (fun b b0 b1 => by
          rw [hN b b0 b1]
          constructor
          · rintro ⟨k, k0, k1, k2⟩
            exact ⟨k, k0, by omega, k2⟩
          · rintro ⟨k, k0, k1, k2, k3⟩
            by_cases q : k = j
            · subst q; exact absurd k2 z
            · exact ⟨k, k0, by omega, k2, k3⟩)
        refine ⟨N', ?_, e2⟩
        rw [← e1]
        simp -implicitDefEqProofs (disch := omega) only [lp_succ, F_b_X6_named_4, oM_k hM, oM_6 hM, z0, iv_add, iv_sub, iv_mul, iv_neg, iv_zero, iv_ltT, iv_ltF, iv_leT, iv_leF, iv_eqT, iv_eqF, iv_div, rm_iv, tn_iv, ib_iv, some_cb, some_cbv, ↓nm_eq, ↓reduceIte, true_and, and_true, Bool.true_eq_false, Bool.false_eq_true, not_false_eq_true, not_true_eq_false]
  have := l (wH w m).toNat FU 0 (iv 0) (FU_gt (by omega)) (by omega) (by omega) (fun b b0 b1 => ⟨fun y => absurd y (bt_z b0 b1), fun ⟨k, k0, k1, _⟩ => by omega⟩)
  exact this
/-- how many rows of tables a set's boxes have -/
noncomputable def bigF (w : WD) (m : Int) (S : Int32) (b : Int) : Int := @ite Int (nmB w m S b ∧ wO w (12 * m + b) ≠ 1) (Classical.propDecidable _) (cnX w m (12 * m + b)) 1
noncomputable def bigN (w : WD) (m : Int) (S : Int32) : Nat → Int
  | 0 => 1
  | n + 1 => bigN w m S n * bigF w m S n
theorem bigF_y {b : Int} (y : nmB w m S b ∧ wO w (12 * m + b) ≠ 1) : bigF w m S b = cnX w m (12 * m + b) := if_pos y
theorem bigF_n {b : Int} (y : ¬ (nmB w m S b ∧ wO w (12 * m + b) ≠ 1)) : bigF w m S b = 1 := if_neg y
end Q
