/-! the class: what is known after so many rows -/
section Q
variable {w : WD} {A : Int → Nat} {h hh h' : AH} {m g k : Int} {S : Int32}
def KIo (hh : AH) : Option (Int × Int) → Prop
  | none => gI hh 16 0 = iv 0
  | some q => gI hh 16 0 = iv 1 ∧ gI hh 16 1 = iv q.1 ∧ gI hh 16 2 = iv q.2 ∧ gI hh 16 13 = iv q.1 ∧ gI hh 16 14 = iv q.2 ∧ (0 ≤ q.1 ∧ q.1 ≤ 10000) ∧ 0 ≤ q.2 ∧ q.2 ≤ 10000
def KI (lo hi : RoT → Int) (hh : AH) (P : RoT → Prop) : Option Int → Prop
  | none => gI hh 16 15 = iv 1 ∧ ∃ o, RsOK lo hi P o ∧ KIo hh o
  | some v => gI hh 16 15 = iv 0 ∧ gI hh 16 14 = iv 2147483647 ∧ ((gI hh 16 0 = iv 0 ∧ gI hh 16 13 = iv v ∧ ∀ r, ¬ P r) ∨ (gI hh 16 0 = iv 1 ∧ (∃ r, P r) ∧ ∃ le mo : Int, gI hh 16 1 = iv le ∧ gI hh 16 2 = iv mo ∧ (0 ≤ le ∧ le ≤ 10000) ∧ (0 ≤ mo ∧ mo ≤ 10000) ∧ ((v ≤ le ∧ gI hh 16 13 = iv v ∧ ∀ r, P r → v ≤ lo r) ∨ (le < v ∧ gI hh 16 13 = iv (-2147483648) ∧ ∃ r, P r ∧ lo r < v))))
def mdOK : Option Int → Prop
  | none => True
  | some v => 0 ≤ v ∧ v ≤ 2147483647
theorem KI.congr {lo hi : RoT → Int} {P Q : RoT → Prop} {md : Option Int} (H : KI lo hi hh P md) (e : ∀ r, P r ↔ Q r) : KI lo hi hh Q md := by
  have : P = Q := funext fun r => propext (e r)
  rwa [← this]
theorem KI.fr {lo hi : RoT → Int} {P : RoT → Prop} {md : Option Int} (H : KI lo hi hh P md) (e : ∀ i : Nat, gI h' 16 i = gI hh 16 i) : KI lo hi h' P md := by
  cases md with
  | none =>
    obtain ⟨a, o, b, c⟩ := H
    refine ⟨by rw [e, a], o, b, ?_⟩
    cases o with
    | none => show gI h' 16 0 = _; rw [e]; exact c
    | some q => obtain ⟨c1, c2, c3, c4, c5, c6⟩ := c; exact ⟨by rw [e, c1], by rw [e, c2], by rw [e, c3], by rw [e, c4], by rw [e, c5], c6⟩
  | some v =>
    obtain ⟨a, b, c⟩ := H
    refine ⟨by rw [e, a], by rw [e, b], ?_⟩
    rw [e, e, e, e]
    exact c
def Fn (hh h' : AH) : Prop := (∀ a i : Nat, ¬ (a = 16 ∧ (i = 0 ∨ i = 1 ∨ i = 2 ∨ i = 13 ∨ i = 14)) → gI h' a i = gI hh a i) ∧ ∀ a i : Nat, gR h' a i = gR hh a i
def FW (l : Nat) (hh h' : AH) : Prop := (∀ a i : Nat, ¬ (a = 16 ∧ (i = 0 ∨ i = 1 ∨ i = 2 ∨ i = 13 ∨ i = 14)) → ¬ (24 + 4 * l ≤ a ∧ a < 72) → gI h' a i = gI hh a i) ∧ ∀ a i : Nat, gR h' a i = gR hh a i
theorem FW.rf (l : Nat) (h : AH) : FW l h h := ⟨fun _ _ _ _ => rfl, fun _ _ => rfl⟩
theorem FW.tr {l : Nat} {h1 h2 h3 : AH} (a : FW l h1 h2) (b : FW l h2 h3) : FW l h1 h3 := ⟨fun x i y z => (b.1 x i y z).trans (a.1 x i y z), fun x i => (b.2 x i).trans (a.2 x i)⟩
theorem FW.up {l : Nat} {h1 h2 : AH} (a : FW (l + 1) h1 h2) : FW l h1 h2 := ⟨fun x i y z => a.1 x i y (by omega), a.2⟩
theorem Fn.fw {h1 h2 : AH} (a : Fn h1 h2) (l : Nat) : FW l h1 h2 := ⟨fun x i y _ => a.1 x i y, a.2⟩
theorem Fr.fw {l : Nat} (hl : l < 12) {h1 h2 : AH} (a : Fr (24 + 4 * l) h1 h2) : FW l h1 h2 := ⟨fun x i _ z => a.1 x i (by omega), a.2.1⟩
theorem gI_s16 (h : AH) {i j : Nat} (v : Int32) (e : j ≠ i) : gI (sI h 16 i v) 16 j = gI h 16 j := gI_sIo _ _ (Or.inr e)
def ntA (hh : AH) (le mo : Int) : AH := sI (sI (sI hh 16 1 (iv le)) 16 2 (iv mo)) 16 0 (iv 1)
theorem Fn.s {hh h1 : AH} (a : Fn hh h1) {i : Nat} (v : Int32) (hi : i = 0 ∨ i = 1 ∨ i = 2 ∨ i = 13 ∨ i = 14) : Fn hh (sI h1 16 i v) := ⟨fun x j y => by rw [gI_sIo _ _ (by omega)]; exact a.1 x j y, a.2⟩
theorem Fn.rf (h : AH) : Fn h h := ⟨fun _ _ _ => rfl, fun _ _ => rfl⟩
theorem k16 (i : Nat) : ¬ kpI 16 i := by unfold kpI; omega
set_option maxRecDepth 100000 in
theorem c_note (hS : Sim w A hh) {lo hi : RoT → Int} {P : RoT → Prop} {md : Option Int} (hm : mdOK md) (H : KI lo hi hh P md) (r : RoT) {a b : Int} (ea : lo r = a) (eb : hi r = b) (a0 : 0 ≤ a ∧ a ≤ 10000) (b0 : 0 ≤ b ∧ b ≤ 10000) : ∃ h1 : AH, f_X3_note 16 (iv a) (iv b) hh = some h1 ∧ Sc w A hh h1 ∧ Fn hh h1 ∧ KI lo hi h1 (fun s => P s ∨ s = r) md := by
  have hF := hS.F
  have sA : ∀ x y : Int, Sc w A hh (ntA hh x y) := fun x y => (((Sc.rf hS).sI (k16 _)).sI (k16 _)).sI (k16 _)
  have fA : ∀ x y : Int, Fn hh (ntA hh x y) := fun x y => (((Fn.rf hh).s _ (by omega)).s _ (by omega)).s _ (by omega)
  have r0 : ∀ x y : Int, gI (ntA hh x y) 16 0 = iv 1 := fun x y => gI_sIs _ _ _ _
  have r1 : ∀ x y : Int, gI (ntA hh x y) 16 1 = iv x := fun x y => by unfold ntA; rw [gI_s16 _ _ (by omega), gI_s16 _ _ (by omega), gI_sIs]
  have r2 : ∀ x y : Int, gI (ntA hh x y) 16 2 = iv y := fun x y => by unfold ntA; rw [gI_s16 _ _ (by omega), gI_sIs]
  have r13 : ∀ x y : Int, gI (ntA hh x y) 16 13 = gI hh 16 13 := fun x y => by unfold ntA; rw [gI_s16 _ _ (by omega), gI_s16 _ _ (by omega), gI_s16 _ _ (by omega)]
  have r14 : ∀ x y : Int, gI (ntA hh x y) 16 14 = gI hh 16 14 := fun x y => by unfold ntA; rw [gI_s16 _ _ (by omega), gI_s16 _ _ (by omega), gI_s16 _ _ (by omega)]
  have r15 : ∀ x y : Int, gI (ntA hh x y) 16 15 = gI hh 16 15 := fun x y => by unfold ntA; rw [gI_s16 _ _ (by omega), gI_s16 _ _ (by omega), gI_s16 _ _ (by omega)]
  -- the first part, up to what is kept of the ends
  have first : ∃ x y : Int, (0 ≤ x ∧ x ≤ 10000) ∧ (0 ≤ y ∧ y ≤ 10000) ∧ (gI hh 16 0 = iv 0 → x = a ∧ y = b) ∧ (∀ p q : Int, gI hh 16 0 = iv 1 → gI hh 16 1 = iv p → gI hh 16 2 = iv q → (0 ≤ p ∧ p ≤ 10000) → (0 ≤ q ∧ q ≤ 10000) → x = min p a ∧ y = max q b) ∧ (gI hh 16 15 = iv 1 → f_X3_note 16 (iv a) (iv b) hh = some (sI (sI (ntA hh x y) 16 13 (iv x)) 16 14 (iv y))) ∧ (gI hh 16 15 = iv 0 → ∀ u : Int, -2147483648 ≤ u → u ≤ 2147483647 → gI hh 16 13 = iv u → f_X3_note 16 (iv a) (iv b) hh = if u ≤ a then some (ntA hh x y) else some (sI (ntA hh x y) 16 13 (iv (-2147483648)))) := by
    by_cases z : gI hh 16 0 = iv 0
    · refine ⟨a, b, a0, b0, fun _ => ⟨rfl, rfl⟩, fun p q y => ?_, fun y => ?_, fun y u u0 u1 yu => ?_⟩
      · rw [z] at y; exact absurd y (by decide)
      · simp -implicitDefEqProofs (disch := omega) only [F_f_X3_note_43, k_X3_note_20_1, F_f_X3_note_20, k_X3_note_1, F_f_X3_note, K16 hF, z, y, gK_sI, gI_sIs, gI_s16, bo1, iv_add, iv_sub, iv_mul, iv_neg, iv_zero, iv_ltT, iv_ltF, iv_leT, iv_leF, iv_eqT, iv_eqF, iv_div, rm_iv, tn_iv, ib_iv, some_cb, some_cbv, ↓nm_eq, ↓reduceIte, true_and, and_true, Bool.true_eq_false, Bool.false_eq_true, not_false_eq_true, not_true_eq_false]
        rfl
      · by_cases e : u ≤ a
        · rw [if_pos e]
          simp -implicitDefEqProofs (disch := omega) only [F_f_X3_note_43, k_X3_note_20_1, F_f_X3_note_20, k_X3_note_1, F_f_X3_note, K16 hF, z, y, yu, gK_sI, gI_sIs, gI_s16, bo1, iv_add, iv_sub, iv_mul, iv_neg, iv_zero, iv_ltT, iv_ltF, iv_leT, iv_leF, iv_eqT, iv_eqF, iv_div, rm_iv, tn_iv, ib_iv, some_cb, some_cbv, ↓nm_eq, ↓reduceIte, true_and, and_true, Bool.true_eq_false, Bool.false_eq_true, not_false_eq_true, not_true_eq_false]
          rfl
        · rw [if_neg e]
          simp -implicitDefEqProofs (disch := omega) only [F_f_X3_note_43, k_X3_note_20_1, F_f_X3_note_20, k_X3_note_1, F_f_X3_note, K16 hF, z, y, yu, gK_sI, gI_sIs, gI_s16, bo1, iv_add, iv_sub, iv_mul, iv_neg, iv_zero, iv_ltT, iv_ltF, iv_leT, iv_leF, iv_eqT, iv_eqF, iv_div, rm_iv, tn_iv, ib_iv, some_cb, some_cbv, ↓nm_eq, ↓reduceIte, true_and, and_true, Bool.true_eq_false, Bool.false_eq_true, not_false_eq_true, not_true_eq_false]
          rfl
    · by_cases z1 : gI hh 16 0 = iv 1 ∧ ∃ p q : Int, gI hh 16 1 = iv p ∧ gI hh 16 2 = iv q ∧ (0 ≤ p ∧ p ≤ 10000) ∧ (0 ≤ q ∧ q ≤ 10000)
      · obtain ⟨z1, p, q, z2, z3, p0, q0⟩ := z1
        refine ⟨min p a, max q b, by omega, by omega, fun y => absurd y z, fun p' q' _ y2 y3 p0' q0' => ?_, fun y => ?_, fun y u u0 u1 yu => ?_⟩
        · rw [z2] at y2
          rw [z3] at y3
          have e1 := (iv_eq (by omega) (by omega) (by omega) (by omega)).mp y2
          have e2 := (iv_eq (by omega) (by omega) (by omega) (by omega)).mp y3
          rw [e1, e2]; exact ⟨rfl, rfl⟩
        · simp -implicitDefEqProofs (disch := omega) only [F_f_X3_note_43, k_X3_note_20_1, F_f_X3_note_20, k_X3_note_1, F_f_X3_note, K16 hF, z1, z2, z3, y, gK_sI, gI_sIs, gI_s16, j_min, j_max, bo1, iv_add, iv_sub, iv_mul, iv_neg, iv_zero, iv_ltT, iv_ltF, iv_leT, iv_leF, iv_eqT, iv_eqF, iv_div, rm_iv, tn_iv, ib_iv, some_cb, some_cbv, ↓nm_eq, ↓reduceIte, true_and, and_true, Bool.true_eq_false, Bool.false_eq_true, not_false_eq_true, not_true_eq_false]
          rfl
        · by_cases e : u ≤ a
          · rw [if_pos e]
            simp -implicitDefEqProofs (disch := omega) only [F_f_X3_note_43, k_X3_note_20_1, F_f_X3_note_20, k_X3_note_1, F_f_X3_note, K16 hF, z1, z2, z3, y, yu, gK_sI, gI_sIs, gI_s16, j_min, j_max, bo1, iv_add, iv_sub, iv_mul, iv_neg, iv_zero, iv_ltT, iv_ltF, iv_leT, iv_leF, iv_eqT, iv_eqF, iv_div, rm_iv, tn_iv, ib_iv, some_cb, some_cbv, ↓nm_eq, ↓reduceIte, true_and, and_true, Bool.true_eq_false, Bool.false_eq_true, not_false_eq_true, not_true_eq_false]
            rfl
          · rw [if_neg e]
            simp -implicitDefEqProofs (disch := omega) only [F_f_X3_note_43, k_X3_note_20_1, F_f_X3_note_20, k_X3_note_1, F_f_X3_note, K16 hF, z1, z2, z3, y, yu, gK_sI, gI_sIs, gI_s16, j_min, j_max, bo1, iv_add, iv_sub, iv_mul, iv_neg, iv_zero, iv_ltT, iv_ltF, iv_leT, iv_leF, iv_eqT, iv_eqF, iv_div, rm_iv, tn_iv, ib_iv, some_cb, some_cbv, ↓nm_eq, ↓reduceIte, true_and, and_true, Bool.true_eq_false, Bool.false_eq_true, not_false_eq_true, not_true_eq_false]
            rfl
      · exfalso
        cases md with
        | none =>
          obtain ⟨-, o, -, c⟩ := H
          cases o with
          | none => exact z c
          | some q => exact z1 ⟨c.1, q.1, q.2, c.2.1, c.2.2.1, c.2.2.2.2.2.1, c.2.2.2.2.2.2⟩
        | some v =>
          obtain ⟨-, -, c⟩ := H
          rcases c with c | ⟨c1, -, le, mo, c2, c3, c4, c5, -⟩
          · exact z c.1
          · exact z1 ⟨c1, le, mo, c2, c3, c4, c5⟩
  obtain ⟨x, y, x0, y0, f0, f1, f2, f3⟩ := first
  cases md with
  | none =>
    obtain ⟨h15, o, hO, c⟩ := H
    refine ⟨_, f2 h15, ((sA x y).sI (k16 _)).sI (k16 _), ((fA x y).s _ (by omega)).s _ (by omega), ?_, some (x, y), ?_, ?_⟩
    · rw [gI_s16 _ _ (by omega), gI_s16 _ _ (by omega), r15, h15]
    · have st := (hO.step (K := fun _ => True) r).congr (Q := fun s => P s ∨ s = r) (fun s => by simp)
      rw [acF_yN trivial, ea, eb] at st
      cases o with
      | none => obtain ⟨e1, e2⟩ := f0 c; rw [e1, e2]; exact st
      | some q =>
        obtain ⟨c1, c2, c3, c4, c5, c6, c7⟩ := c
        obtain ⟨e1, e2⟩ := f1 q.1 q.2 c1 c2 c3 c6 c7
        have : acN a b (some q) = some (x, y) := by
          show some (min a q.1, max b q.2) = _
          rw [e1, e2, Int.min_comm, Int.max_comm]
        rw [this] at st
        exact st
    · refine ⟨?_, ?_, ?_, ?_, ?_, x0, y0⟩
      · rw [gI_s16 _ _ (by omega), gI_s16 _ _ (by omega), r0]
      · rw [gI_s16 _ _ (by omega), gI_s16 _ _ (by omega), r1]
      · rw [gI_s16 _ _ (by omega), gI_s16 _ _ (by omega), r2]
      · rw [gI_s16 _ _ (by omega), gI_sIs]
      · rw [gI_sIs]
  | some v =>
    obtain ⟨v0, v1⟩ := hm
    obtain ⟨h15, h14, c⟩ := H
    -- the two ends of the note
    have stay : ∀ u : Int, -2147483648 ≤ u → u ≤ 2147483647 → gI hh 16 13 = iv u → u ≤ a → ((v ≤ x ∧ u = v ∧ ∀ s, (P s ∨ s = r) → v ≤ lo s) ∨ (x < v ∧ u = -2147483648 ∧ ∃ s, (P s ∨ s = r) ∧ lo s < v)) → ∃ h1 : AH, f_X3_note 16 (iv a) (iv b) hh = some h1 ∧ Sc w A hh h1 ∧ Fn hh h1 ∧ KI lo hi h1 (fun s => P s ∨ s = r) (some v) := fun u u0 u1 hu hua hx => by
      refine ⟨ntA hh x y, by rw [f3 h15 u u0 u1 hu, if_pos hua], sA x y, fA x y, by rw [r15, h15], by rw [r14, h14], Or.inr ⟨r0 x y, ⟨r, Or.inr rfl⟩, x, y, r1 x y, r2 x y, x0, y0, ?_⟩⟩
      rw [r13, hu]
      rcases hx with ⟨y1, y2, y3⟩ | ⟨y1, y2, y3⟩
      · exact Or.inl ⟨y1, by rw [y2], y3⟩
      · exact Or.inr ⟨y1, by rw [y2], y3⟩
    have drop : ∀ u : Int, -2147483648 ≤ u → u ≤ 2147483647 → gI hh 16 13 = iv u → ¬ u ≤ a → x < v → lo r < v → ∃ h1 : AH, f_X3_note 16 (iv a) (iv b) hh = some h1 ∧ Sc w A hh h1 ∧ Fn hh h1 ∧ KI lo hi h1 (fun s => P s ∨ s = r) (some v) := fun u u0 u1 hu hua hx hr => by
      refine ⟨sI (ntA hh x y) 16 13 (iv (-2147483648)), by rw [f3 h15 u u0 u1 hu, if_neg hua], (sA x y).sI (k16 _), (fA x y).s _ (by omega), by rw [gI_s16 _ _ (by omega), r15, h15], by rw [gI_s16 _ _ (by omega), r14, h14], Or.inr ⟨by rw [gI_s16 _ _ (by omega)]; exact r0 x y, ⟨r, Or.inr rfl⟩, x, y, by rw [gI_s16 _ _ (by omega)]; exact r1 x y, by rw [gI_s16 _ _ (by omega)]; exact r2 x y, x0, y0, Or.inr ⟨hx, gI_sIs _ _ _ _, r, Or.inr rfl, hr⟩⟩⟩
    rcases c with ⟨c1, c2, c3⟩ | ⟨c1, c2, le, mo, c3, c4, c5, c6, c7⟩
    · obtain ⟨e1, e2⟩ := f0 c1
      by_cases z : v ≤ a
      · exact stay v (by omega) v1 c2 z (Or.inl ⟨by omega, rfl, fun s hs => by
          rcases hs with hs | rfl
          · exact absurd hs (c3 s)
          · omega⟩)
      · exact drop v (by omega) v1 c2 z (by omega) (by omega)
    · obtain ⟨e1, e2⟩ := f1 le mo c1 c3 c4 c5 c6
      rcases c7 with ⟨d1, d2, d3⟩ | ⟨d1, d2, s, d3, d4⟩
      · by_cases z : v ≤ a
        · exact stay v (by omega) v1 d2 z (Or.inl ⟨by omega, rfl, fun s hs => by
            rcases hs with hs | rfl
            · exact d3 s hs
            · omega⟩)
        · exact drop v (by omega) v1 d2 z (by omega) (by omega)
      · exact stay (-2147483648) (by omega) (by omega) d2 (by omega) (Or.inr ⟨by omega, rfl, s, Or.inl d3, d4⟩)
set_option maxRecDepth 100000 in
theorem c_canTell (hS : Sim w A hh) (hl : lvM w m) (hK : KS w A m S g k hh) {lo hi : RoT → Int} {P : RoT → Prop} {md : Option Int} (hm : mdOK md) (H : KI lo hi hh P md) {d rest : List Int} (hd : lvs w m S = d ++ rest) {sum a b : Int} (ea : sum + (uLe w m S g k (wBx w m).toNat + sLe w m g k rest) = a) (eb : sum + (uMo w m S g k (wBx w m).toNat + sMo w m g k rest) = b) (a0 : 0 ≤ a ∧ a ≤ 10000) (b0 : 0 ≤ b ∧ b ≤ 10000) : ∃ t : Int, (t = 0 ∨ t = 1) ∧ f_X3_canTell 16 (iv d.length) (iv sum) hh = some (iv t, hh) ∧ (t = 0 → ∀ Q : RoT → Prop, (∀ r, Q r → a ≤ lo r ∧ hi r ≤ b) → KI lo hi hh (fun r => P r ∨ Q r) md) := by
  have hF := hS.F
  have hL := lvs_len (S := S) hS.W hl
  have hdl : d.length ≤ 12 := by rw [hd, List.length_append] at hL; omega
  obtain ⟨-, -, -, -, -, s6, -⟩ := hK
  obtain ⟨l20, l21⟩ := s6 d rest hd
  cases md with
  | none =>
    obtain ⟨h15, o, hO, c⟩ := H
    cases o with
    | none =>
      have c : gI hh 16 0 = iv 0 := c
      refine ⟨1, Or.inr rfl, ?_, fun y => absurd y (by decide)⟩
      simp -implicitDefEqProofs (disch := omega) only [F_f_X3_canTell, K16 hF, c, zret1, iv_add, iv_sub, iv_mul, iv_neg, iv_zero, iv_ltT, iv_ltF, iv_leT, iv_leF, iv_eqT, iv_eqF, iv_div, rm_iv, tn_iv, ib_iv, some_cb, some_cbv, ↓nm_eq, ↓reduceIte, true_and, and_true, Bool.true_eq_false, Bool.false_eq_true, not_false_eq_true, not_true_eq_false]
    | some q =>
      obtain ⟨c1, c2, c3, c4, c5, c6, c7⟩ := id c
      by_cases z1 : a < q.1
      · refine ⟨1, Or.inr rfl, ?_, fun y => absurd y (by decide)⟩
        simp -implicitDefEqProofs (disch := omega) only [F_f_X3_canTell, K16 hF, R16_6 hF, K20 hF, N20 hF, R16_7 hF, K21 hF, N21 hF, Int.toNat_natCast, l20, l21, ea, eb, c1, c4, c5, zret0, zret1, iv_add, iv_sub, iv_mul, iv_neg, iv_zero, iv_ltT, iv_ltF, iv_leT, iv_leF, iv_eqT, iv_eqF, iv_div, rm_iv, tn_iv, ib_iv, some_cb, some_cbv, ↓nm_eq, ↓reduceIte, true_and, and_true, Bool.true_eq_false, Bool.false_eq_true, not_false_eq_true, not_true_eq_false]
      · by_cases z2 : b ≤ q.2
        · refine ⟨0, Or.inl rfl, ?_, fun _ Q hQ => ⟨h15, some q, ?_, c⟩⟩
          · simp -implicitDefEqProofs (disch := omega) only [F_f_X3_canTell, K16 hF, R16_6 hF, K20 hF, N20 hF, R16_7 hF, K21 hF, N21 hF, Int.toNat_natCast, l20, l21, ea, eb, c1, c4, c5, zret0, zret1, iv_add, iv_sub, iv_mul, iv_neg, iv_zero, iv_ltT, iv_ltF, iv_leT, iv_leF, iv_eqT, iv_eqF, iv_div, rm_iv, tn_iv, ib_iv, some_cb, some_cbv, ↓nm_eq, ↓reduceIte, true_and, and_true, Bool.true_eq_false, Bool.false_eq_true, not_false_eq_true, not_true_eq_false]
          · obtain ⟨⟨r1, p1, p2⟩, p3, ⟨r2, p4, p5⟩, p6⟩ := hO
            refine ⟨⟨r1, Or.inl p1, p2⟩, fun s hs => ?_, ⟨r2, Or.inl p4, p5⟩, fun s hs => ?_⟩
            · rcases hs with hs | hs
              · exact p3 s hs
              · have := hQ s hs; omega
            · rcases hs with hs | hs
              · exact p6 s hs
              · have := hQ s hs; omega
        · refine ⟨1, Or.inr rfl, ?_, fun y => absurd y (by decide)⟩
          simp -implicitDefEqProofs (disch := omega) only [F_f_X3_canTell, K16 hF, R16_6 hF, K20 hF, N20 hF, R16_7 hF, K21 hF, N21 hF, Int.toNat_natCast, l20, l21, ea, eb, c1, c4, c5, zret0, zret1, iv_add, iv_sub, iv_mul, iv_neg, iv_zero, iv_ltT, iv_ltF, iv_leT, iv_leF, iv_eqT, iv_eqF, iv_div, rm_iv, tn_iv, ib_iv, some_cb, some_cbv, ↓nm_eq, ↓reduceIte, true_and, and_true, Bool.true_eq_false, Bool.false_eq_true, not_false_eq_true, not_true_eq_false]
  | some v =>
    obtain ⟨v0, v1⟩ := hm
    obtain ⟨h15, h14, c⟩ := H
    rcases c with ⟨c1, c2, c3⟩ | ⟨c1, c2, le, mo, c3, c4, c5, c6, c7⟩
    · refine ⟨1, Or.inr rfl, ?_, fun y => absurd y (by decide)⟩
      simp -implicitDefEqProofs (disch := omega) only [F_f_X3_canTell, K16 hF, c1, zret1, iv_add, iv_sub, iv_mul, iv_neg, iv_zero, iv_ltT, iv_ltF, iv_leT, iv_leF, iv_eqT, iv_eqF, iv_div, rm_iv, tn_iv, ib_iv, some_cb, some_cbv, ↓nm_eq, ↓reduceIte, true_and, and_true, Bool.true_eq_false, Bool.false_eq_true, not_false_eq_true, not_true_eq_false]
    · rcases c7 with ⟨d1, d2, d3⟩ | ⟨d1, d2, d3⟩
      · by_cases z1 : a < v
        · refine ⟨1, Or.inr rfl, ?_, fun y => absurd y (by decide)⟩
          simp -implicitDefEqProofs (disch := omega) only [F_f_X3_canTell, K16 hF, R16_6 hF, K20 hF, N20 hF, R16_7 hF, K21 hF, N21 hF, Int.toNat_natCast, l20, l21, ea, eb, c1, d2, h14, zret0, zret1, iv_add, iv_sub, iv_mul, iv_neg, iv_zero, iv_ltT, iv_ltF, iv_leT, iv_leF, iv_eqT, iv_eqF, iv_div, rm_iv, tn_iv, ib_iv, some_cb, some_cbv, ↓nm_eq, ↓reduceIte, true_and, and_true, Bool.true_eq_false, Bool.false_eq_true, not_false_eq_true, not_true_eq_false]
        · refine ⟨0, Or.inl rfl, ?_, fun _ Q hQ => ⟨h15, h14, Or.inr ⟨c1, ?_, le, mo, c3, c4, c5, c6, Or.inl ⟨d1, d2, fun s hs => ?_⟩⟩⟩⟩
          · simp -implicitDefEqProofs (disch := omega) only [F_f_X3_canTell, K16 hF, R16_6 hF, K20 hF, N20 hF, R16_7 hF, K21 hF, N21 hF, Int.toNat_natCast, l20, l21, ea, eb, c1, d2, h14, zret0, zret1, iv_add, iv_sub, iv_mul, iv_neg, iv_zero, iv_ltT, iv_ltF, iv_leT, iv_leF, iv_eqT, iv_eqF, iv_div, rm_iv, tn_iv, ib_iv, some_cb, some_cbv, ↓nm_eq, ↓reduceIte, true_and, and_true, Bool.true_eq_false, Bool.false_eq_true, not_false_eq_true, not_true_eq_false]
          · obtain ⟨r, hr⟩ := c2; exact ⟨r, Or.inl hr⟩
          · rcases hs with hs | hs
            · exact d3 s hs
            · have := hQ s hs; omega
      · refine ⟨0, Or.inl rfl, ?_, fun _ Q hQ => ⟨h15, h14, Or.inr ⟨c1, ?_, le, mo, c3, c4, c5, c6, Or.inr ⟨d1, d2, ?_⟩⟩⟩⟩
        · simp -implicitDefEqProofs (disch := omega) only [F_f_X3_canTell, K16 hF, R16_6 hF, K20 hF, N20 hF, R16_7 hF, K21 hF, N21 hF, Int.toNat_natCast, l20, l21, ea, eb, c1, d2, h14, zret0, zret1, iv_add, iv_sub, iv_mul, iv_neg, iv_zero, iv_ltT, iv_ltF, iv_leT, iv_leF, iv_eqT, iv_eqF, iv_div, rm_iv, tn_iv, ib_iv, some_cb, some_cbv, ↓nm_eq, ↓reduceIte, true_and, and_true, Bool.true_eq_false, Bool.false_eq_true, not_false_eq_true, not_true_eq_false]
        · obtain ⟨r, hr⟩ := c2; exact ⟨r, Or.inl hr⟩
        · obtain ⟨r, hr1, hr2⟩ := d3; exact ⟨r, Or.inl hr1, hr2⟩
end Q
