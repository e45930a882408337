/-! a tape read: what it says, and how the one side reads it -/
def byt (w : WD) (p : Int) : Int := if p < wT w then wTa w p else -1
def dig (w : WD) (p : Int) : Prop := 48 ≤ byt w p ∧ byt w p ≤ 57
def pNv (w : WD) (p : Int) : Int := if 48 ≤ byt w p ∧ byt w p ≤ 57 then (if 48 ≤ byt w (p + 1) ∧ byt w (p + 1) ≤ 57 then (byt w p - 48) * 10 + (byt w (p + 1) - 48) else byt w p - 48) else -1
def pNp (w : WD) (p : Int) : Int := if 48 ≤ byt w p ∧ byt w p ≤ 57 then (if 48 ≤ byt w (p + 1) ∧ byt w (p + 1) ≤ 57 then p + 2 else p + 1) else p
def rdN (w : WD) : Int → Nat → Int → (Int × Int × List Int)
  | _, 0, p => (1, p, [])
  | f, n + 1, p => if f = 1 ∨ byt w p = 44 then (if 0 ≤ pNv w (if f = 1 then p else p + 1) then ((rdN w 0 n (pNp w (if f = 1 then p else p + 1))).1, (rdN w 0 n (pNp w (if f = 1 then p else p + 1))).2.1, pNv w (if f = 1 then p else p + 1) :: (rdN w 0 n (pNp w (if f = 1 then p else p + 1))).2.2) else (0, pNp w (if f = 1 then p else p + 1), [])) else (0, p, [])
section P
variable {w : WD} {p : Int}
theorem byt_rng (hW : WI w) (p0 : 0 ≤ p) : -1 ≤ byt w p ∧ byt w p ≤ 255 := by
  obtain ⟨-, ⟨t0, t1⟩, -, ta, -⟩ := hW
  unfold byt
  by_cases q : p < wT w
  · rw [if_pos q]
    have := ta p p0 (by omega)
    omega
  · rw [if_neg q]; omega
theorem byt_in {c : Int} (c0 : 0 ≤ c) (e : c ≤ byt w p) : p < wT w := by
  unfold byt at e
  by_cases q : p < wT w
  · exact q
  · rw [if_neg q] at e; omega
theorem pN_rng (hW : WI w) (p0 : 0 ≤ p) (pT : p ≤ wT w) : -1 ≤ pNv w p ∧ pNv w p ≤ 99 ∧ p ≤ pNp w p ∧ pNp w p ≤ wT w ∧ (0 ≤ pNv w p → p < pNp w p) ∧ (pNv w p < 0 → pNp w p = p) := by
  unfold pNv pNp
  by_cases q : 48 ≤ byt w p ∧ byt w p ≤ 57
  · have h1 := byt_in (by omega) q.1
    rw [if_pos q, if_pos q]
    by_cases q2 : 48 ≤ byt w (p + 1) ∧ byt w (p + 1) ≤ 57
    · have h2 := byt_in (by omega) q2.1
      rw [if_pos q2, if_pos q2]; omega
    · rw [if_neg q2, if_neg q2]; omega
  · rw [if_neg q, if_neg q]; omega
theorem rdN_rng (hW : WI w) (n : Nat) : ∀ (f p : Int), 0 ≤ p → p ≤ wT w → p ≤ (rdN w f n p).2.1 ∧ (rdN w f n p).2.1 ≤ wT w ∧ ((rdN w f n p).1 = 0 ∨ (rdN w f n p).1 = 1) ∧ ((rdN w f n p).1 = 1 → (rdN w f n p).2.2.length = n ∧ ∀ q, q < n → 0 ≤ (rdN w f n p).2.2.getD q 0 ∧ (rdN w f n p).2.2.getD q 0 ≤ 99) := by
  induction n with
  | zero => exact fun f p p0 p1 => ⟨Int.le_refl _, p1, Or.inr rfl, fun _ => ⟨rfl, fun q y => by omega⟩⟩
  | succ n ih =>
    intro f p p0 p1
    have key : ∀ p1 : Int, p ≤ p1 → p1 ≤ wT w → ∀ r : Int × Int × List Int, r = (if 0 ≤ pNv w p1 then ((rdN w 0 n (pNp w p1)).1, (rdN w 0 n (pNp w p1)).2.1, pNv w p1 :: (rdN w 0 n (pNp w p1)).2.2) else (0, pNp w p1, [])) → p ≤ r.2.1 ∧ r.2.1 ≤ wT w ∧ (r.1 = 0 ∨ r.1 = 1) ∧ (r.1 = 1 → r.2.2.length = n + 1 ∧ ∀ q, q < n + 1 → 0 ≤ r.2.2.getD q 0 ∧ r.2.2.getD q 0 ≤ 99) := by
      intro p1 y1 y2 r hr
      obtain ⟨a1, a2, a3, a4, a5, a6⟩ := pN_rng hW (p := p1) (by omega) y2
      by_cases q : 0 ≤ pNv w p1
      · rw [if_pos q] at hr
        obtain ⟨b1, b2, b3, b4⟩ := ih 0 (pNp w p1) (by omega) a4
        subst hr
        refine ⟨by show p ≤ (rdN w 0 n (pNp w p1)).2.1; omega, b2, b3, fun y => ?_⟩
        obtain ⟨c1, c2⟩ := b4 y
        refine ⟨by show (rdN w 0 n (pNp w p1)).2.2.length + 1 = _; omega, fun k hk => ?_⟩
        cases k with
        | zero => exact ⟨q, a2⟩
        | succ k => exact c2 k (by omega)
      · rw [if_neg q] at hr
        subst hr
        exact ⟨by show p ≤ pNp w p1; omega, a4, Or.inl rfl, fun y => by exact absurd y (by show ¬ (0 : Int) = 1; omega)⟩
    by_cases z : f = 1 ∨ byt w p = 44
    · have e : rdN w f (n + 1) p = (if 0 ≤ pNv w (if f = 1 then p else p + 1) then ((rdN w 0 n (pNp w (if f = 1 then p else p + 1))).1, (rdN w 0 n (pNp w (if f = 1 then p else p + 1))).2.1, pNv w (if f = 1 then p else p + 1) :: (rdN w 0 n (pNp w (if f = 1 then p else p + 1))).2.2) else (0, pNp w (if f = 1 then p else p + 1), [])) := if_pos z
      refine key (if f = 1 then p else p + 1) ?_ ?_ _ e
      · by_cases y : f = 1
        · rw [if_pos y]; exact Int.le_refl _
        · rw [if_neg y]; omega
      · by_cases y : f = 1
        · rw [if_pos y]; exact p1
        · rw [if_neg y]
          have := byt_in (w := w) (p := p) (c := 44) (by omega) (by omega)
          omega
    · have e : rdN w f (n + 1) p = (0, p, []) := if_neg z
      rw [e]
      exact ⟨Int.le_refl _, p1, Or.inl rfl, fun y => absurd y (by show ¬ (0 : Int) = 1; omega)⟩
end P
section Q
variable {w : WD} {h h' h1 h2 : AH} {p k : Int} {G C : Nat}
/-- where the tape stands -/
def TSt (w : WD) (h : AH) (p k : Int) (G C : Nat) : Prop := (gK h 4 = 109 ∧ gR h 4 0 = 5 ∧ gR h 4 1 = 6 ∧ gK h 5 = 1 ∧ gN h 5 = 200 ∧ gK h 6 = 1 ∧ gN h 6 = 84) ∧ (gI h 4 2 = iv (wT w) ∧ gI h 4 3 = iv p ∧ gI h 4 4 = iv G ∧ gI h 4 5 = iv C ∧ gI h 4 6 = iv k) ∧ (∀ i : Int, 0 ≤ i → i < 200 → gI h 5 i.toNat = iv (wTa w i)) ∧ WI w ∧ 0 ≤ p ∧ p ≤ wT w
def CF (h h' : AH) (lo hi : Nat) : Prop := (∀ a, gK h' a = gK h a) ∧ (∀ a, gN h' a = gN h a) ∧ (∀ a i, gR h' a i = gR h a i) ∧ (∀ a i, gJ h' a i = gJ h a i) ∧ gC h' = gC h ∧ gS h' = gS h ∧ ∀ a i, (a ≠ 4 ∨ i ≠ 3) → (a ≠ 6 ∨ i < lo ∨ hi ≤ i) → gI h' a i = gI h a i
theorem CF.rf (h : AH) (lo hi : Nat) : CF h h lo hi := ⟨fun _ => rfl, fun _ => rfl, fun _ _ => rfl, fun _ _ => rfl, rfl, rfl, fun _ _ _ _ => rfl⟩
theorem CF.tr {lo hi : Nat} (a : CF h h1 lo hi) (b : CF h1 h2 lo hi) : CF h h2 lo hi := ⟨fun x => (b.1 x).trans (a.1 x), fun x => (b.2.1 x).trans (a.2.1 x), fun x i => (b.2.2.1 x i).trans (a.2.2.1 x i), fun x i => (b.2.2.2.1 x i).trans (a.2.2.2.1 x i), b.2.2.2.2.1.trans a.2.2.2.2.1, b.2.2.2.2.2.1.trans a.2.2.2.2.2.1, fun x i y z => (b.2.2.2.2.2.2 x i y z).trans (a.2.2.2.2.2.2 x i y z)⟩
theorem CF.wd {lo hi lo' hi' : Nat} (a : CF h h1 lo hi) (y : lo' ≤ lo) (z : hi ≤ hi') : CF h h1 lo' hi' := ⟨a.1, a.2.1, a.2.2.1, a.2.2.2.1, a.2.2.2.2.1, a.2.2.2.2.2.1, fun x i u v => a.2.2.2.2.2.2 x i u (by omega)⟩
theorem TSt.pos (H : TSt w h p k G C) {q : Int} (q0 : 0 ≤ q) (q1 : q ≤ wT w) : TSt w (sI h 4 3 (iv q)) q k G C ∧ ∀ lo hi, CF h (sI h 4 3 (iv q)) lo hi := by
  obtain ⟨⟨a1, a2, a3, a4, a5, a6, a7⟩, ⟨b1, b2, b3, b4, b5⟩, c, hW, -, -⟩ := H
  exact ⟨⟨⟨a1, a2, a3, a4, a5, a6, a7⟩, ⟨by rw [gI_sIo _ _ (by omega)]; exact b1, gI_sIs _ _ _ _, by rw [gI_sIo _ _ (by omega)]; exact b3, by rw [gI_sIo _ _ (by omega)]; exact b4, by rw [gI_sIo _ _ (by omega)]; exact b5⟩, fun i i0 i1 => by rw [gI_sIo _ _ (by omega)]; exact c i i0 i1, hW, q0, q1⟩, fun lo hi => ⟨fun _ => rfl, fun _ => rfl, fun _ _ => rfl, fun _ _ => rfl, rfl, rfl, fun a i y z => gI_sIo _ _ y⟩⟩
theorem TSt.put (H : TSt w h p k G C) {i : Nat} {v : Int32} : TSt w (sI h 6 i v) p k G C := by
  obtain ⟨⟨a1, a2, a3, a4, a5, a6, a7⟩, ⟨b1, b2, b3, b4, b5⟩, c, hW, q0, q1⟩ := H
  exact ⟨⟨a1, a2, a3, a4, a5, a6, a7⟩, ⟨by rw [gI_sIo _ _ (by omega)]; exact b1, by rw [gI_sIo _ _ (by omega)]; exact b2, by rw [gI_sIo _ _ (by omega)]; exact b3, by rw [gI_sIo _ _ (by omega)]; exact b4, by rw [gI_sIo _ _ (by omega)]; exact b5⟩, fun j i0 i1 => by rw [gI_sIo _ _ (by omega)]; exact c j i0 i1, hW, q0, q1⟩
/-- the same, before the head is read -/
def TS0 (w : WD) (h : AH) (p : Int) : Prop := (gK h 4 = 109 ∧ gR h 4 0 = 5 ∧ gR h 4 1 = 6 ∧ gK h 5 = 1 ∧ gN h 5 = 200 ∧ gK h 6 = 1 ∧ gN h 6 = 84) ∧ (gI h 4 2 = iv (wT w) ∧ gI h 4 3 = iv p) ∧ (∀ i : Int, 0 ≤ i → i < 200 → gI h 5 i.toNat = iv (wTa w i)) ∧ WI w ∧ 0 ≤ p ∧ p ≤ wT w
theorem TSt.t0 (H : TSt w h p k G C) : TS0 w h p := ⟨H.1, ⟨H.2.1.1, H.2.1.2.1⟩, H.2.2⟩
theorem TS0.pos (H : TS0 w h p) {q : Int} (q0 : 0 ≤ q) (q1 : q ≤ wT w) : TS0 w (sI h 4 3 (iv q)) q := by
  obtain ⟨a, ⟨b1, b2⟩, c, hW, -, -⟩ := H
  exact ⟨a, ⟨by rw [gI_sIo _ _ (by omega)]; exact b1, gI_sIs _ _ _ _⟩, fun i i0 i1 => by rw [gI_sIo _ _ (by omega)]; exact c i i0 i1, hW, q0, q1⟩
theorem TS0.fld (H : TS0 w h p) {i : Nat} {v : Int32} (hi : 4 ≤ i) : TS0 w (sI h 4 i v) p := by
  obtain ⟨a, ⟨b1, b2⟩, c, hW, q⟩ := H
  exact ⟨a, ⟨by rw [gI_sIo _ _ (by omega)]; exact b1, by rw [gI_sIo _ _ (by omega)]; exact b2⟩, fun i i0 i1 => by rw [gI_sIo _ _ (by omega)]; exact c i i0 i1, hW, q⟩
set_option maxRecDepth 100000 in
theorem c_sign1 (H : TS0 w h p) {c : Int} (c0 : 0 ≤ c) (c1 : c ≤ 255) (e : byt w p = c) : f_X9_readSign 4 (iv c) h = some (iv 1, sI h 4 3 (iv (p + 1))) := by
  obtain ⟨⟨a1, a2, a3, a4, a5, a6, a7⟩, ⟨b1, b2⟩, ct, hW, q0, q1⟩ := H
  have hp := byt_in (w := w) (p := p) c0 (by omega)
  have et : wTa w p = c := by rw [← e]; exact (if_pos hp).symm
  have := hW.2.1
  simp -implicitDefEqProofs (disch := omega) only [F_f_X9_readSign, a1, a2, a4, a5, b1, b2, ct, et, zret1, iv_add, iv_sub, iv_mul, iv_neg, iv_zero, iv_ltT, iv_ltF, iv_leT, iv_leF, iv_eqT, iv_eqF, iv_div, rm_iv, tn_iv, ib_iv, some_cb, some_cbv, ↓nm_eq, ↓reduceIte, true_and, and_true, Bool.true_eq_false, Bool.false_eq_true, not_false_eq_true, not_true_eq_false]
set_option maxRecDepth 100000 in
theorem c_sign0 (H : TS0 w h p) {c : Int} (c0 : 0 ≤ c) (c1 : c ≤ 255) (e : byt w p ≠ c) : f_X9_readSign 4 (iv c) h = some (iv 0, h) := by
  obtain ⟨⟨a1, a2, a3, a4, a5, a6, a7⟩, ⟨b1, b2⟩, ct, hW, q0, q1⟩ := H
  have := hW.2.1
  by_cases hp : p < wT w
  · have et : wTa w p ≠ c := by rw [show wTa w p = byt w p from (if_pos hp).symm]; exact e
    have br := hW.2.2.2.1 p q0 (by omega)
    simp -implicitDefEqProofs (disch := omega) only [F_f_X9_readSign, a1, a2, a4, a5, b1, b2, ct, zret0, iv_add, iv_sub, iv_mul, iv_neg, iv_zero, iv_ltT, iv_ltF, iv_leT, iv_leF, iv_eqT, iv_eqF, iv_div, rm_iv, tn_iv, ib_iv, some_cb, some_cbv, ↓nm_eq, ↓reduceIte, true_and, and_true, Bool.true_eq_false, Bool.false_eq_true, not_false_eq_true, not_true_eq_false]
  · simp -implicitDefEqProofs (disch := omega) only [F_f_X9_readSign, a1, b1, b2, zret0, iv_add, iv_sub, iv_mul, iv_neg, iv_zero, iv_ltT, iv_ltF, iv_leT, iv_leF, iv_eqT, iv_eqF, iv_div, rm_iv, tn_iv, ib_iv, some_cb, some_cbv, ↓nm_eq, ↓reduceIte, true_and, and_true, Bool.true_eq_false, Bool.false_eq_true, not_false_eq_true, not_true_eq_false]
set_option maxRecDepth 100000 in
theorem c_digit1 (H : TS0 w h p) {lo hi : Int} (c0 : 0 ≤ lo) (c1 : lo ≤ hi) (c2 : hi ≤ 9) (e : 48 + lo ≤ byt w p ∧ byt w p ≤ 48 + hi) : f_X9_isDigit 4 (iv lo) (iv hi) h = some (iv 1, h) := by
  obtain ⟨⟨a1, a2, a3, a4, a5, a6, a7⟩, ⟨b1, b2⟩, ct, hW, q0, q1⟩ := H
  have hp := byt_in (w := w) (p := p) (c := 48 + lo) (by omega) e.1
  have et : wTa w p = byt w p := (if_pos hp).symm
  have := hW.2.1
  simp -implicitDefEqProofs (disch := omega) only [F_f_X9_isDigit, a1, a2, a4, a5, b1, b2, ct, et, zret0, zret1, iv_add, iv_sub, iv_mul, iv_neg, iv_zero, iv_ltT, iv_ltF, iv_leT, iv_leF, iv_eqT, iv_eqF, iv_div, rm_iv, tn_iv, ib_iv, some_cb, some_cbv, ↓nm_eq, ↓reduceIte, true_and, and_true, Bool.true_eq_false, Bool.false_eq_true, not_false_eq_true, not_true_eq_false]
set_option maxRecDepth 100000 in
theorem c_digit0 (H : TS0 w h p) {lo hi : Int} (c0 : 0 ≤ lo) (c1 : lo ≤ hi) (c2 : hi ≤ 9) (e : ¬ (48 + lo ≤ byt w p ∧ byt w p ≤ 48 + hi)) : f_X9_isDigit 4 (iv lo) (iv hi) h = some (iv 0, h) := by
  obtain ⟨⟨a1, a2, a3, a4, a5, a6, a7⟩, ⟨b1, b2⟩, ct, hW, q0, q1⟩ := H
  have := hW.2.1
  by_cases hp : p < wT w
  · have et : wTa w p = byt w p := (if_pos hp).symm
    have br := hW.2.2.2.1 p q0 (by omega)
    by_cases z : byt w p < 48 + lo
    · simp -implicitDefEqProofs (disch := omega) only [F_f_X9_isDigit, a1, a2, a4, a5, b1, b2, ct, et, zret0, zret1, iv_add, iv_sub, iv_mul, iv_neg, iv_zero, iv_ltT, iv_ltF, iv_leT, iv_leF, iv_eqT, iv_eqF, iv_div, rm_iv, tn_iv, ib_iv, some_cb, some_cbv, ↓nm_eq, ↓reduceIte, true_and, and_true, Bool.true_eq_false, Bool.false_eq_true, not_false_eq_true, not_true_eq_false]
    · simp -implicitDefEqProofs (disch := omega) only [F_f_X9_isDigit, a1, a2, a4, a5, b1, b2, ct, et, zret0, zret1, iv_add, iv_sub, iv_mul, iv_neg, iv_zero, iv_ltT, iv_ltF, iv_leT, iv_leF, iv_eqT, iv_eqF, iv_div, rm_iv, tn_iv, ib_iv, some_cb, some_cbv, ↓nm_eq, ↓reduceIte, true_and, and_true, Bool.true_eq_false, Bool.false_eq_true, not_false_eq_true, not_true_eq_false]
  · simp -implicitDefEqProofs (disch := omega) only [F_f_X9_isDigit, a1, b1, b2, zret0, iv_add, iv_sub, iv_mul, iv_neg, iv_zero, iv_ltT, iv_ltF, iv_leT, iv_leF, iv_eqT, iv_eqF, iv_div, rm_iv, tn_iv, ib_iv, some_cb, some_cbv, ↓nm_eq, ↓reduceIte, true_and, and_true, Bool.true_eq_false, Bool.false_eq_true, not_false_eq_true, not_true_eq_false]
set_option maxRecDepth 100000 in
theorem c_rdig (H : TS0 w h p) (hp : p < wT w) : f_X9_readDigit 4 h = some (iv (byt w p - 48), sI h 4 3 (iv (p + 1))) := by
  obtain ⟨⟨a1, a2, a3, a4, a5, a6, a7⟩, ⟨b1, b2⟩, ct, hW, q0, q1⟩ := H
  have et : wTa w p = byt w p := (if_pos hp).symm
  have := hW.2.1
  simp -implicitDefEqProofs (disch := omega) only [F_f_X9_readDigit, a1, a2, a4, a5, b1, b2, ct, et, gK_sI, gN_sI, gR_sI, gI_sIo, iv_add, iv_sub, iv_mul, iv_neg, iv_zero, iv_ltT, iv_ltF, iv_leT, iv_leF, iv_eqT, iv_eqF, iv_div, rm_iv, tn_iv, ib_iv, some_cb, some_cbv, ↓nm_eq, ↓reduceIte, true_and, and_true, Bool.true_eq_false, Bool.false_eq_true, not_false_eq_true, not_true_eq_false]
set_option maxRecDepth 100000 in
theorem c_num (H : TSt w h p k G C) {idx : Nat} (k0 : 0 ≤ k) (k1 : k < 12) (hG : G ≤ 4) (hC : C ≤ 3) (hi : idx < G + C) (k2 : Nat → Int32 → AH → Option (Int32 × AH)) : ∃ h', TSt w h' (pNp w p) k G C ∧ CF h h' (k.toNat * (G + C) + idx) (k.toNat * (G + C) + idx + 1) ∧ (0 ≤ pNv w p → f_X9_readSums_43 k2 4 (iv idx) h = k2 4 (iv ((idx : Int) + 1)) h' ∧ gI h' 6 (k.toNat * (G + C) + idx) = iv (pNv w p)) ∧ (pNv w p < 0 → f_X9_readSums_43 k2 4 (iv idx) h = some (iv 0, h')) := by
  have hW := H.2.2.2.1
  obtain ⟨q0, q1⟩ := H.2.2.2.2
  obtain ⟨a1, a2, a3, a4, a5, a6⟩ := pN_rng hW q0 q1
  have k4 := H.1.1
  have kw : k * ((G : Int) + C) = ((k.toNat * (G + C) : Nat) : Int) := by
    obtain ⟨k', rfl⟩ : ∃ k' : Nat, k = k' := ⟨k.toNat, by omega⟩
    rw [Int.toNat_natCast]; push_cast; rfl
  have kb : k.toNat * (G + C) ≤ k.toNat * 7 := Nat.mul_le_mul_left _ (by omega)
  have kb2 : k.toNat * (G + C) + (G + C) ≤ 84 := by
    have : (k.toNat + 1) * (G + C) ≤ 12 * 7 := Nat.mul_le_mul (by omega) (by omega)
    rw [Nat.succ_mul] at this; omega
  have it : ((k.toNat * (G + C) : Nat) : Int).toNat + 0 = k.toNat * (G + C) := by omega
  have put : ∀ {h2 : AH} {p2 : Int} {v : Int}, TSt w h2 p2 k G C → f_X9_readSums_80 k2 4 (iv idx) (iv v) h2 = k2 4 (iv ((idx : Int) + 1)) (sI h2 6 (k.toNat * (G + C) + idx) (iv v)) := fun {h2 p2 v} T => by
    obtain ⟨⟨t1, t2, t3, t4, t5, t6, t7⟩, ⟨u1, u2, u3, u4, u5⟩, -⟩ := T
    have ix : (((k.toNat * (G + C) : Nat) : Int) + (idx : Int)).toNat = k.toNat * (G + C) + idx := by omega
    simp -implicitDefEqProofs (disch := omega) only [F_f_X9_readSums_80, k_X9_readSums_43_1, k_X9_readSums_43_2, k_X9_readSums_43_3, k_X9_readSums_43_4, F_f_X9_readSums_43, k_X9_readSums_2_1, k_X9_readSums_2_2, f_X9_readSums_2, F_f_X9_readSums, t1, t3, t6, t7, u3, u4, u5, kw, ix, iv_add, iv_sub, iv_mul, iv_neg, iv_zero, iv_ltT, iv_ltF, iv_leT, iv_leF, iv_eqT, iv_eqF, iv_div, rm_iv, tn_iv, ib_iv, some_cb, some_cbv, ↓nm_eq, ↓reduceIte, true_and, and_true, Bool.true_eq_false, Bool.false_eq_true, not_false_eq_true, not_true_eq_false]
  by_cases d1 : 48 ≤ byt w p ∧ byt w p ≤ 57
  · have hp := byt_in (w := w) (p := p) (c := 48) (by omega) d1.1
    have e1 := c_digit1 H.t0 (lo := 0) (hi := 9) (by omega) (by omega) (by omega) (by omega)
    have e2 := c_rdig H.t0 hp
    obtain ⟨T1, F1⟩ := H.pos (q := p + 1) (by omega) (by omega)
    have k4' := T1.1.1
    by_cases d2 : 48 ≤ byt w (p + 1) ∧ byt w (p + 1) ≤ 57
    · have hp2 := byt_in (w := w) (p := p + 1) (c := 48) (by omega) d2.1
      have ev : pNv w p = (byt w p - 48) * 10 + (byt w (p + 1) - 48) := (if_pos d1).trans (if_pos d2)
      have ep : pNp w p = p + 2 := (if_pos d1).trans (if_pos d2)
      have e3 := c_digit1 T1.t0 (lo := 0) (hi := 9) (by omega) (by omega) (by omega) (by omega)
      have e4 := c_rdig T1.t0 hp2
      obtain ⟨T2, F2⟩ := T1.pos (q := p + 1 + 1) (by omega) (by omega)
      have pt := put (v := pNv w p) T2
      rw [ep]
      rw [show p + 2 = p + 1 + 1 by omega]
      refine ⟨_, T2.put (i := k.toNat * (G + C) + idx) (v := iv (pNv w p)), ((F1 _ _).tr (F2 _ _)).tr ⟨fun _ => rfl, fun _ => rfl, fun _ _ => rfl, fun _ _ => rfl, rfl, rfl, fun a i y z => gI_sIo _ _ (by omega)⟩, fun _ => ⟨?_, gI_sIs _ _ _ _⟩, fun y => by omega⟩
      rw [← pt, ev]
      simp -implicitDefEqProofs (disch := omega) only [F_f_X9_readSums_43, k_X9_readSums_43_1, k_X9_readSums_43_2, k_X9_readSums_43_3, k_X9_readSums_43_4, k4, k4', e1, e2, e3, e4, iv_add, iv_sub, iv_mul, iv_neg, iv_zero, iv_ltT, iv_ltF, iv_leT, iv_leF, iv_eqT, iv_eqF, iv_div, rm_iv, tn_iv, ib_iv, some_cb, some_cbv, ↓nm_eq, ↓reduceIte, true_and, and_true, Bool.true_eq_false, Bool.false_eq_true, not_false_eq_true, not_true_eq_false]
    · have ev : pNv w p = byt w p - 48 := (if_pos d1).trans (if_neg d2)
      have ep : pNp w p = p + 1 := (if_pos d1).trans (if_neg d2)
      have e3 := c_digit0 T1.t0 (lo := 0) (hi := 9) (by omega) (by omega) (by omega) (by omega)
      have pt := put (v := pNv w p) T1
      rw [ep]
      refine ⟨_, T1.put (i := k.toNat * (G + C) + idx) (v := iv (pNv w p)), (F1 _ _).tr ⟨fun _ => rfl, fun _ => rfl, fun _ _ => rfl, fun _ _ => rfl, rfl, rfl, fun a i y z => gI_sIo _ _ (by omega)⟩, fun _ => ⟨?_, gI_sIs _ _ _ _⟩, fun y => by omega⟩
      rw [← pt, ev]
      simp -implicitDefEqProofs (disch := omega) only [F_f_X9_readSums_43, k_X9_readSums_43_1, k_X9_readSums_43_2, k_X9_readSums_43_3, k_X9_readSums_43_4, k4, k4', e1, e2, e3, iv_add, iv_sub, iv_mul, iv_neg, iv_zero, iv_ltT, iv_ltF, iv_leT, iv_leF, iv_eqT, iv_eqF, iv_div, rm_iv, tn_iv, ib_iv, some_cb, some_cbv, ↓nm_eq, ↓reduceIte, true_and, and_true, Bool.true_eq_false, Bool.false_eq_true, not_false_eq_true, not_true_eq_false]
  · have ev : pNv w p = -1 := if_neg d1
    have ep : pNp w p = p := if_neg d1
    have e1 := c_digit0 H.t0 (lo := 0) (hi := 9) (by omega) (by omega) (by omega) (by omega)
    rw [ep]
    refine ⟨h, H, CF.rf _ _ _, fun y => by omega, fun _ => ?_⟩
    simp -implicitDefEqProofs (disch := omega) only [F_f_X9_readSums_43, k_X9_readSums_43_1, k_X9_readSums_43_2, k_X9_readSums_43_3, k_X9_readSums_43_4, k4, e1, zret0, iv_add, iv_sub, iv_mul, iv_neg, iv_zero, iv_ltT, iv_ltF, iv_leT, iv_leF, iv_eqT, iv_eqF, iv_div, rm_iv, tn_iv, ib_iv, some_cb, some_cbv, ↓nm_eq, ↓reduceIte, true_and, and_true, Bool.true_eq_false, Bool.false_eq_true, not_false_eq_true, not_true_eq_false]
end Q
