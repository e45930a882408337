/-! boxes from a row: the reference's side -/
section Q
variable {w w' : WD} {A A' : Int → Nat} {h h' h1 : AH} {m s i x : Int}
set_option maxRecDepth 100000 in
theorem q_sumG {v : WD} {u : Nat → Int} {G : Nat} (hF : Fix h) (hR : RR v h) (m0 : 0 ≤ m) (m4 : m < 4) (x0 : 0 ≤ x) (x1 : x < 48) (hG : (G : Int) = wGr v m) (g4 : G ≤ 4) (hu : ∀ g : Nat, g < G → wG v x g = u g) : f_X12_sumGroups 91 (iv m) (iv x) h = some (iv (suU u G), h) := by
  have l : ∀ (n N g : Nat), n < N → g + n = G → lp b_X12_sumGroups_5 (fun _ _ _ _ _ _ => none) N 91 (iv m) (iv x) (iv (suU u g)) (iv g) h = some (iv (suU u G), h) := by
    intro n
    induction n with
    | zero =>
      intro N g hN hg
      obtain ⟨N, rfl⟩ : ∃ N', N = N' + 1 := ⟨N - 1, by omega⟩
      obtain rfl : g = G := by omega
      simp -implicitDefEqProofs (disch := omega) only [lp_succ, F_b_X12_sumGroups_5, K91 hF, R91_1 hF, K92 hF, N92 hF, RR_Gr hR, iv_add, iv_sub, iv_mul, iv_neg, iv_zero, iv_ltT, iv_ltF, iv_leT, iv_leF, iv_eqT, iv_eqF, iv_div, rm_iv, tn_iv, ib_iv, some_cb, some_cbv, ↓nm_eq, ↓reduceIte, true_and, and_true, Bool.true_eq_false, Bool.false_eq_true, not_false_eq_true, not_true_eq_false]
    | succ n ih =>
      intro N g hN hg
      obtain ⟨N, rfl⟩ : ∃ N', N = N' + 1 := ⟨N - 1, by omega⟩
      rw [← ih N (g + 1) (by omega) (by omega), show ((g + 1 : Nat) : Int) = (g : Int) + 1 by omega]
      have e := hu g (by omega)
      show _ = lp b_X12_sumGroups_5 (fun _ _ _ _ _ _ => none) N 91 (iv m) (iv x) (iv (suU u g + u g)) (iv ((g : Int) + 1)) h
      simp -implicitDefEqProofs (disch := omega) only [lp_succ, F_b_X12_sumGroups_5, K91 hF, R91_1 hF, R91_4 hF, K92 hF, N92 hF, K95 hF, N95 hF, RR_Gr hR, RR_G hR, e, iv_add, iv_sub, iv_mul, iv_neg, iv_zero, iv_ltT, iv_ltF, iv_leT, iv_leF, iv_eqT, iv_eqF, iv_div, rm_iv, tn_iv, ib_iv, some_cb, some_cbv, ↓nm_eq, ↓reduceIte, true_and, and_true, Bool.true_eq_false, Bool.false_eq_true, not_false_eq_true, not_true_eq_false]
  have := l G FU 0 (FU_gt (by omega)) (by omega)
  change lp b_X12_sumGroups_5 (fun _ _ _ _ _ _ => none) FU 91 (iv m) (iv x) (iv 0) (iv 0) h = _ at this
  simp -implicitDefEqProofs (disch := omega) only [F_f_X12_sumGroups, f_X12_sumGroups_5, this, some_cb, some_cbv, ↓nm_eq, ↓reduceIte, true_and, and_true, Bool.true_eq_false, Bool.false_eq_true, not_false_eq_true, not_true_eq_false]
set_option maxRecDepth 100000 in
theorem q_sumC {v : WD} (hF : Fix h) (hR : RR v h) (x0 : 0 ≤ x) (x1 : x < 48) : f_X12_sumChoices 91 (iv x) h = some (iv (wC v x 0 + wC v x 1 + wC v x 2), h) := by
  simp -implicitDefEqProofs (disch := omega) only [F_f_X12_sumChoices, K91 hF, R91_5 hF, K96 hF, N96 hF, RR_C hR, RR_C0 hR, iv_add, iv_sub, iv_mul, iv_neg, iv_zero, iv_ltT, iv_ltF, iv_leT, iv_leF, iv_eqT, iv_eqF, iv_div, rm_iv, tn_iv, ib_iv, some_cb, some_cbv, ↓nm_eq, ↓reduceIte, true_and, and_true, Bool.true_eq_false, Bool.false_eq_true, not_false_eq_true, not_true_eq_false]
/-- a box begins -/
def beQ (h : AH) (x S : Int) : AH := sI (sI (sI h 97 x.toNat (iv S)) 98 x.toNat (iv 0)) 100 x.toNat (iv 0)
def beW (w : WD) (x S : Int) : WD := wZ (wZ (wZ w 97 x S) 98 x 0) 100 x 0
theorem beQ_RR {v : WD} {S : Int} (hR : RR v h) (x0 : 0 ≤ x) : RR (beW v x S) (beQ h x S) := RR_wZ (RR_wZ (RR_wZ hR (by omega) (by omega) x0) (by omega) (by omega) x0) (by omega) (by omega) x0
set_option maxRecDepth 100000 in
theorem q_begins0 {v : WD} {u : Nat → Int} {G : Nat} (hF : Fix h) (hR : RR v h) (m0 : 0 ≤ m) (m4 : m < 4) (x0 : 0 ≤ x) (x1 : x < 48) (hG : (G : Int) = wGr v m) (g4 : G ≤ 4) (hu : ∀ g : Nat, g < G → wG v x g = u g) : f_X12_begins 91 (iv m) (iv x) h = some (beQ h x (suU u G)) := by
  have sg := q_sumG hF hR m0 m4 x0 x1 hG g4 hu
  unfold beQ
  simp -implicitDefEqProofs (disch := omega) only [k_X12_begins_1, F_f_X12_begins, sg, K91 hF, R91_6 hF, R91_7 hF, R91_9 hF, K97 hF, N97 hF, K98 hF, N98 hF, K100 hF, N100 hF, gK_sI, gN_sI, gR_sI, true_or, iv_add, iv_sub, iv_mul, iv_neg, iv_zero, iv_ltT, iv_ltF, iv_leT, iv_leF, iv_eqT, iv_eqF, iv_div, rm_iv, tn_iv, ib_iv, some_cb, some_cbv, ↓nm_eq, ↓reduceIte, true_and, and_true, Bool.true_eq_false, Bool.false_eq_true, not_false_eq_true, not_true_eq_false]
/-- rows as numbers come -/
def cmQ (h : AH) (x : Int) (G : Nat) (u : Nat → Int) : Nat → AH
  | 0 => sI h 96 (3 * x + 2).toNat (iv 0)
  | k + 1 => if k < G then sI (cmQ h x G u k) 95 (4 * x + k).toNat (iv (u k)) else sI (cmQ h x G u k) 96 (3 * x + k - G).toNat (iv (u k))
def cmW (w : WD) (x : Int) (G : Nat) (u : Nat → Int) : Nat → WD
  | 0 => wZ w 96 (3 * x + 2) 0
  | k + 1 => if k < G then wZ (cmW w x G u k) 95 (4 * x + k) (u k) else wZ (cmW w x G u k) 96 (3 * x + k - G) (u k)
section R
variable {G : Nat} {u : Nat → Int}
theorem cmQ_f (k : Nat) : (∀ a, gK (cmQ h x G u k) a = gK h a) ∧ (∀ a, gN (cmQ h x G u k) a = gN h a) ∧ (∀ a i, gR (cmQ h x G u k) a i = gR h a i) ∧ (∀ a i, gJ (cmQ h x G u k) a i = gJ h a i) ∧ gC (cmQ h x G u k) = gC h ∧ gS (cmQ h x G u k) = gS h ∧ ∀ a i, a ≠ 95 → a ≠ 96 → gI (cmQ h x G u k) a i = gI h a i := by
  induction k with
  | zero => exact ⟨fun _ => rfl, fun _ => rfl, fun _ _ => rfl, fun _ _ => rfl, rfl, rfl, fun a i y z => gI_sIo _ _ (Or.inl z)⟩
  | succ k ih =>
    obtain ⟨i1, i2, i3, i4, i5, i6, i7⟩ := ih
    by_cases q : k < G
    · have e : cmQ h x G u (k + 1) = sI (cmQ h x G u k) 95 (4 * x + k).toNat (iv (u k)) := if_pos q
      rw [e]
      exact ⟨i1, i2, i3, i4, i5, i6, fun a i y z => (gI_sIo _ _ (Or.inl y)).trans (i7 a i y z)⟩
    · have e : cmQ h x G u (k + 1) = sI (cmQ h x G u k) 96 (3 * x + k - G).toNat (iv (u k)) := if_neg q
      rw [e]
      exact ⟨i1, i2, i3, i4, i5, i6, fun a i y z => (gI_sIo _ _ (Or.inl z)).trans (i7 a i y z)⟩
theorem cmQ_RR (hR : RR w h) (x0 : 0 ≤ x) (k : Nat) : RR (cmW w x G u k) (cmQ h x G u k) := by
  induction k with
  | zero => exact RR_wZ hR (by omega) (by omega) (by omega)
  | succ k ih =>
    by_cases q : k < G
    · have e : cmQ h x G u (k + 1) = sI (cmQ h x G u k) 95 (4 * x + k).toNat (iv (u k)) := if_pos q
      have e2 : cmW w x G u (k + 1) = wZ (cmW w x G u k) 95 (4 * x + k) (u k) := if_pos q
      rw [e, e2]
      exact RR_wZ ih (by omega) (by omega) (by omega)
    · have e : cmQ h x G u (k + 1) = sI (cmQ h x G u k) 96 (3 * x + k - G).toNat (iv (u k)) := if_neg q
      have e2 : cmW w x G u (k + 1) = wZ (cmW w x G u k) 96 (3 * x + k - G) (u k) := if_neg q
      rw [e, e2]
      exact RR_wZ ih (by omega) (by omega) (by omega)
theorem cmW_o (k : Nat) {n : Nat} (hn : G ≤ 4 ∧ n ≤ G + 3) (hk : k ≤ n) : (cmW w x G u k).2 = w.2 ∧ ∀ (a : Nat) (z : Int), (a ≠ 95 ∨ z < 4 * x ∨ 4 * x + 4 ≤ z) → (a ≠ 96 ∨ z < 3 * x ∨ 3 * x + 3 ≤ z) → (cmW w x G u k).1 a z = w.1 a z := by
  induction k with
  | zero => exact ⟨rfl, fun a z y1 y2 => wZ_o _ (by omega)⟩
  | succ k ih =>
    obtain ⟨i1, i2⟩ := ih (by omega)
    by_cases q : k < G
    · have e2 : cmW w x G u (k + 1) = wZ (cmW w x G u k) 95 (4 * x + k) (u k) := if_pos q
      rw [e2]
      exact ⟨i1, fun a z y1 y2 => (wZ_o _ (by omega)).trans (i2 a z y1 y2)⟩
    · have e2 : cmW w x G u (k + 1) = wZ (cmW w x G u k) 96 (3 * x + k - G) (u k) := if_neg q
      rw [e2]
      exact ⟨i1, fun a z y1 y2 => (wZ_o _ (by omega)).trans (i2 a z y1 y2)⟩
theorem cmW_v (k : Nat) : (∀ g : Nat, g < k → g < G → (cmW w x G u k).1 95 (4 * x + g) = u g) ∧ (∀ c : Nat, G + c < k → (cmW w x G u k).1 96 (3 * x + c) = u (G + c)) ∧ (k ≤ G + 2 → (cmW w x G u k).1 96 (3 * x + 2) = 0) := by
  induction k with
  | zero => exact ⟨fun g y => by omega, fun c y => by omega, fun _ => wZ_at _ _ _ _⟩
  | succ k ih =>
    obtain ⟨i1, i2, i3⟩ := ih
    by_cases q : k < G
    · have e2 : cmW w x G u (k + 1) = wZ (cmW w x G u k) 95 (4 * x + k) (u k) := if_pos q
      rw [e2]
      refine ⟨fun g y z => ?_, fun c y => by omega, fun y => (wZ_o _ (by omega)).trans (i3 (by omega))⟩
      by_cases e : g = k
      · rw [e]; exact wZ_at _ _ _ _
      · exact (wZ_o _ (by omega)).trans (i1 g (by omega) z)
    · have e2 : cmW w x G u (k + 1) = wZ (cmW w x G u k) 96 (3 * x + k - G) (u k) := if_neg q
      rw [e2]
      refine ⟨fun g y z => (wZ_o _ (by omega)).trans (i1 g (by omega) z), fun c y => ?_, fun y => ?_⟩
      · by_cases e : G + c = k
        · rw [show 3 * x + (c : Int) = 3 * x + k - G by omega, wZ_at, e]
        · exact (wZ_o _ (by omega)).trans (i2 c (by omega))
      · exact (wZ_o _ (by omega)).trans (i3 (by omega))
end R
/-- what the reference needs for a box to come -/
def ComQ (w : WD) (h : AH) (m s i b : Int) (G C : Nat) : Prop := Fix h ∧ RR w h ∧ (0 ≤ m ∧ m < 4) ∧ (0 ≤ s ∧ s < 6) ∧ ((G : Int) = wGr w m ∧ (C : Int) = wCh w m ∧ 2 ≤ G ∧ G ≤ 4 ∧ 2 ≤ C ∧ C ≤ 3) ∧ (wBx w m = b ∧ 0 ≤ b ∧ b ≤ 12) ∧ (0 ≤ i ∧ i ≤ 2147483647) ∧ (0 ≤ sSz w s ∧ sSz w s ≤ 60) ∧ ∀ z : Int, 0 ≤ z → z < 60 → -32768 ≤ (sEl w (60 * s + z)).toInt ∧ (sEl w (60 * s + z)).toInt ≤ 32767
theorem jv_t (v : Int64) : v = jv v.toInt := (jv_self v).symm
set_option maxRecDepth 100000 in
theorem q_com1 {b : Int} {G C : Nat} {u : Nat → Int} (H : ComQ w h m s i b G C) (fit : i + ((G + C : Nat) : Int) ≤ sSz w s) (b12 : b < 12) (hu : ∀ k : Nat, k < G + C → u k = (sEl w (60 * s + i + (k : Int))).toInt) (q : Nat) : ∀ (N k : Nat), q < N → k + q = G + C → (∀ j : Nat, k ≤ j → j < G + C → 0 ≤ u j ∧ u j ≤ 99) → ∃ N', lp b_X12_comes_69 (fun _ _ _ _ _ _ _ _ => none) N 91 (iv m) (iv s) (iv i) (iv ((G + C : Nat) : Int)) (iv (12 * m + b)) (iv k) (cmQ h (12 * m + b) G u k) = lp b_X12_comes_69 (fun _ _ _ _ _ _ _ _ => none) (N' + 1) 91 (iv m) (iv s) (iv i) (iv ((G + C : Nat) : Int)) (iv (12 * m + b)) (iv ((G + C : Nat) : Int)) (cmQ h (12 * m + b) G u (G + C)) := by
  obtain ⟨hF, hR, ⟨m0, m4⟩, ⟨s0, s5⟩, ⟨eG, eC, g2, g4, c2, c3⟩, ⟨eb, b0, b1⟩, ⟨i0, i1⟩, ⟨z0, z1⟩, hel⟩ := H
  induction q with
  | zero =>
    intro N k hN hk hv
    obtain ⟨N, rfl⟩ : ∃ N', N = N' + 1 := ⟨N - 1, by omega⟩
    exact ⟨N, by rw [show k = G + C by omega]⟩
  | succ q ih =>
    intro N k hN hk hv
    obtain ⟨N, rfl⟩ : ∃ N', N = N' + 1 := ⟨N - 1, by omega⟩
    obtain ⟨N3, e3⟩ := ih N (k + 1) (by omega) (by omega) (fun j y z => hv j (by omega) z)
    refine ⟨N3, ?_⟩
    rw [← e3, show ((k + 1 : Nat) : Int) = (k : Int) + 1 by omega]
    clear e3 ih
    obtain ⟨f1, f2, f3, f4, f5, f6, f7⟩ := cmQ_f (h := h) (x := 12 * m + b) (G := G) (u := u) k
    have hv' := hv k (Nat.le_refl _) (by omega)
    have el : gJ (cmQ h (12 * m + b) G u k) 115 (60 * s + i + (k : Int)).toNat = jv (u k) := by
      rw [f4, RR_El hR (by omega), hu k (by omega)]
      exact jv_t _
    have hF2 : Fix (cmQ h (12 * m + b) G u k) := hF.fr (fun a _ => f1 a) (fun a _ => f2 a) (fun a j _ _ _ _ => f3 a j)
    have g92 : gI (cmQ h (12 * m + b) G u k) 92 m.toNat = iv G := by rw [f7 _ _ (by omega) (by omega), RR_Gr hR m0, eG]
    by_cases kG : k < G
    · have e2 : cmQ h (12 * m + b) G u (k + 1) = sI (cmQ h (12 * m + b) G u k) 95 (4 * (12 * m + b) + k).toNat (iv (u k)) := if_pos kG
      rw [e2]
      generalize cmQ h (12 * m + b) G u k = hk at *
      simp -implicitDefEqProofs (disch := omega) only [lp_succ, F_b_X12_comes_69, K91 hF2, R91_1 hF2, R91_4 hF2, R91_27 hF2, K92 hF2, N92 hF2, K95 hF2, N95 hF2, K115 hF2, N115 hF2, g92, el, jv_i, iv_add, iv_sub, iv_mul, iv_neg, iv_zero, iv_ltT, iv_ltF, iv_leT, iv_leF, iv_eqT, iv_eqF, iv_div, rm_iv, tn_iv, ib_iv, lc_lt, lc_le, lc_gt, lc_ge, lc_eq, iv_l, jv_add, jv_sub, jv_mul, jv_zero, if_pos, if_neg, some_cb, some_cbv, ↓nm_eq, ↓reduceIte, true_and, and_true, Bool.true_eq_false, Bool.false_eq_true, not_false_eq_true, not_true_eq_false]
    · have e2 : cmQ h (12 * m + b) G u (k + 1) = sI (cmQ h (12 * m + b) G u k) 96 (3 * (12 * m + b) + k - G).toNat (iv (u k)) := if_neg kG
      rw [e2]
      generalize cmQ h (12 * m + b) G u k = hk at *
      simp -implicitDefEqProofs (disch := omega) only [lp_succ, F_b_X12_comes_69, K91 hF2, R91_1 hF2, R91_5 hF2, R91_27 hF2, K92 hF2, N92 hF2, K96 hF2, N96 hF2, K115 hF2, N115 hF2, g92, el, jv_i, iv_add, iv_sub, iv_mul, iv_neg, iv_zero, iv_ltT, iv_ltF, iv_leT, iv_leF, iv_eqT, iv_eqF, iv_div, rm_iv, tn_iv, ib_iv, lc_lt, lc_le, lc_gt, lc_ge, lc_eq, iv_l, jv_add, jv_sub, jv_mul, jv_zero, if_pos, if_neg, some_cb, some_cbv, ↓nm_eq, ↓reduceIte, true_and, and_true, Bool.true_eq_false, Bool.false_eq_true, not_false_eq_true, not_true_eq_false]
set_option maxRecDepth 100000 in
theorem q_com0 {b : Int} {G C : Nat} {u : Nat → Int} (H : ComQ w h m s i b G C) (fit : i + ((G + C : Nat) : Int) ≤ sSz w s) (b12 : b < 12) (hu : ∀ k : Nat, k < G + C → u k = (sEl w (60 * s + i + (k : Int))).toInt) (q : Nat) : ∀ (N k : Nat), q < N → k + q = G + C → (∃ j : Nat, k ≤ j ∧ j < G + C ∧ ¬ (0 ≤ u j ∧ u j ≤ 99)) → ∃ k1, k1 ≤ G + C ∧ lp b_X12_comes_69 (fun _ _ _ _ _ _ _ _ => none) N 91 (iv m) (iv s) (iv i) (iv ((G + C : Nat) : Int)) (iv (12 * m + b)) (iv k) (cmQ h (12 * m + b) G u k) = some (iv 0, cmQ h (12 * m + b) G u k1) := by
  obtain ⟨hF, hR, ⟨m0, m4⟩, ⟨s0, s5⟩, ⟨eG, eC, g2, g4, c2, c3⟩, ⟨eb, b0, b1⟩, ⟨i0, i1⟩, ⟨z0, z1⟩, hel⟩ := H
  induction q with
  | zero =>
    intro N k hN hk hv
    obtain ⟨j, y, z, -⟩ := hv
    omega
  | succ q ih =>
    intro N k hN hk hv
    obtain ⟨N, rfl⟩ : ∃ N', N = N' + 1 := ⟨N - 1, by omega⟩
    obtain ⟨f1, f2, f3, f4, f5, f6, f7⟩ := cmQ_f (h := h) (x := 12 * m + b) (G := G) (u := u) k
    have el : gJ (cmQ h (12 * m + b) G u k) 115 (60 * s + i + (k : Int)).toNat = jv (u k) := by
      rw [f4, RR_El hR (by omega), hu k (by omega)]
      exact jv_t _
    have ub := hel (i + (k : Int)) (by omega) (by omega)
    rw [← Int.add_assoc, ← hu k (by omega)] at ub
    have hF2 : Fix (cmQ h (12 * m + b) G u k) := hF.fr (fun a _ => f1 a) (fun a _ => f2 a) (fun a j _ _ _ _ => f3 a j)
    have g92 : gI (cmQ h (12 * m + b) G u k) 92 m.toNat = iv G := by rw [f7 _ _ (by omega) (by omega), RR_Gr hR m0, eG]
    by_cases hv' : 0 ≤ u k ∧ u k ≤ 99
    · obtain ⟨v0, v1⟩ := hv'
      obtain ⟨k1, hk1, e3⟩ := ih N (k + 1) (by omega) (by omega) (by
        obtain ⟨j, y, z, t⟩ := hv
        refine ⟨j, ?_, z, t⟩
        by_cases p : j = k
        · subst p; exact absurd ⟨v0, v1⟩ t
        · omega)
      refine ⟨k1, hk1, ?_⟩
      rw [← e3, show ((k + 1 : Nat) : Int) = (k : Int) + 1 by omega]
      clear e3 ih
      by_cases kG : k < G
      · have e2 : cmQ h (12 * m + b) G u (k + 1) = sI (cmQ h (12 * m + b) G u k) 95 (4 * (12 * m + b) + k).toNat (iv (u k)) := if_pos kG
        rw [e2]
        generalize cmQ h (12 * m + b) G u k = hk at *
        simp -implicitDefEqProofs (disch := omega) only [lp_succ, F_b_X12_comes_69, K91 hF2, R91_1 hF2, R91_4 hF2, R91_27 hF2, K92 hF2, N92 hF2, K95 hF2, N95 hF2, K115 hF2, N115 hF2, g92, el, jv_i, iv_add, iv_sub, iv_mul, iv_neg, iv_zero, iv_ltT, iv_ltF, iv_leT, iv_leF, iv_eqT, iv_eqF, iv_div, rm_iv, tn_iv, ib_iv, lc_lt, lc_le, lc_gt, lc_ge, lc_eq, iv_l, jv_add, jv_sub, jv_mul, jv_zero, if_pos, if_neg, some_cb, some_cbv, ↓nm_eq, ↓reduceIte, true_and, and_true, Bool.true_eq_false, Bool.false_eq_true, not_false_eq_true, not_true_eq_false]
      · have e2 : cmQ h (12 * m + b) G u (k + 1) = sI (cmQ h (12 * m + b) G u k) 96 (3 * (12 * m + b) + k - G).toNat (iv (u k)) := if_neg kG
        rw [e2]
        generalize cmQ h (12 * m + b) G u k = hk at *
        simp -implicitDefEqProofs (disch := omega) only [lp_succ, F_b_X12_comes_69, K91 hF2, R91_1 hF2, R91_5 hF2, R91_27 hF2, K92 hF2, N92 hF2, K96 hF2, N96 hF2, K115 hF2, N115 hF2, g92, el, jv_i, iv_add, iv_sub, iv_mul, iv_neg, iv_zero, iv_ltT, iv_ltF, iv_leT, iv_leF, iv_eqT, iv_eqF, iv_div, rm_iv, tn_iv, ib_iv, lc_lt, lc_le, lc_gt, lc_ge, lc_eq, iv_l, jv_add, jv_sub, jv_mul, jv_zero, if_pos, if_neg, some_cb, some_cbv, ↓nm_eq, ↓reduceIte, true_and, and_true, Bool.true_eq_false, Bool.false_eq_true, not_false_eq_true, not_true_eq_false]
    · refine ⟨k, by omega, ?_⟩
      by_cases p : u k < 0
      · simp -implicitDefEqProofs (disch := omega) only [lp_succ, F_b_X12_comes_69, K91 hF2, R91_27 hF2, K115 hF2, N115 hF2, el, zret0, iv_add, iv_sub, iv_mul, iv_neg, iv_zero, iv_ltT, iv_ltF, iv_leT, iv_leF, iv_eqT, iv_eqF, iv_div, rm_iv, tn_iv, ib_iv, lc_lt, lc_le, lc_gt, lc_ge, lc_eq, iv_l, jv_add, jv_sub, jv_mul, jv_zero, if_pos, if_neg, some_cb, some_cbv, ↓nm_eq, ↓reduceIte, true_and, and_true, Bool.true_eq_false, Bool.false_eq_true, not_false_eq_true, not_true_eq_false]
      · simp -implicitDefEqProofs (disch := omega) only [lp_succ, F_b_X12_comes_69, K91 hF2, R91_27 hF2, K115 hF2, N115 hF2, el, zret0, iv_add, iv_sub, iv_mul, iv_neg, iv_zero, iv_ltT, iv_ltF, iv_leT, iv_leF, iv_eqT, iv_eqF, iv_div, rm_iv, tn_iv, ib_iv, lc_lt, lc_le, lc_gt, lc_ge, lc_eq, iv_l, jv_add, jv_sub, jv_mul, jv_zero, if_pos, if_neg, some_cb, some_cbv, ↓nm_eq, ↓reduceIte, true_and, and_true, Bool.true_eq_false, Bool.false_eq_true, not_false_eq_true, not_true_eq_false]
end Q
