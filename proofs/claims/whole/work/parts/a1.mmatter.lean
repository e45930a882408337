/-! a matter from the tape: both -/
section Q
variable {w w' : WD} {A A' : Int → Nat} {h h' h1 h2 hq : AH} {m K G C : Nat} {us : Nat → Nat → Int}
theorem rdT_ok (hW : WI w) (e : (rdT w).1 = 1) : (2 ≤ (byt w 1 - 48).toNat ∧ (byt w 1 - 48).toNat ≤ 4) ∧ (2 ≤ (byt w 3 - 48).toNat ∧ (byt w 3 - 48).toNat ≤ 3) ∧ (((byt w 1 - 48).toNat : Int) = byt w 1 - 48 ∧ ((byt w 3 - 48).toNat : Int) = byt w 3 - 48) ∧ (rdT w).2.2.length ≤ 12 ∧ ∀ j, j < (rdT w).2.2.length → ∀ q, q < (byt w 1 - 48).toNat + (byt w 3 - 48).toNat → 0 ≤ (rdT w).2.2.getD j (fun _ => 0) q ∧ (rdT w).2.2.getD j (fun _ => 0) q ≤ 99 := by
  unfold rdT at e ⊢
  by_cases z : (rdH w 0).1 = 1
  · rw [if_pos z] at e ⊢
    obtain ⟨o1, o2⟩ := rdH_ok z
    rw [Int.zero_add] at o1 o2
    obtain ⟨r1, r2, -⟩ := rdH_rng hW (p := 0) (by omega) hW.2.1.1
    obtain ⟨a1, a2, a3, a4, a5⟩ := rdA_rng (G := (byt w 1 - 48).toNat) (C := (byt w 3 - 48).toNat) hW 13 (rdH w 0).2 r1 r2
    exact ⟨by omega, by omega, by omega, a4, a5⟩
  · rw [if_neg z] at e
    exact absurd e (by show ¬ (0 : Int) = 1; omega)
theorem rdT_pos (hW : WI w) : 0 ≤ (rdT w).2.1 ∧ (rdT w).2.1 ≤ wT w ∧ ((rdT w).1 = 0 ∨ (rdT w).1 = 1) := by
  obtain ⟨r1, r2, r3⟩ := rdH_rng hW (p := 0) (by omega) hW.2.1.1
  unfold rdT
  by_cases z : (rdH w 0).1 = 1
  · rw [if_pos z]
    obtain ⟨a1, a2, a3, a4, a5⟩ := rdA_rng (G := (byt w 1 - 48).toNat) (C := (byt w 3 - 48).toNat) hW 13 (rdH w 0).2 r1 r2
    exact ⟨by omega, a2, a3⟩
  · rw [if_neg z]
    exact ⟨r1, r2, Or.inl rfl⟩
/-- rows that a matter's reading writes -/
def ZM (m : Nat) (s : Int) (a : Nat) (z : Int) : Prop := ((a = 92 ∨ a = 93 ∨ a = 94) ∧ z = m) ∨ (a = 95 ∧ 48 * (m : Int) ≤ z ∧ z < 48 * m + 48) ∨ (a = 96 ∧ 36 * (m : Int) ≤ z ∧ z < 36 * m + 36) ∨ ((a = 97 ∨ a = 98 ∨ a = 100) ∧ 12 * (m : Int) ≤ z ∧ z < 12 * m + 12) ∨ (s = 1 ∧ a = 102 ∧ 12 * (m : Int) ≤ z ∧ z < 12 * m + 12) ∨ (s = 1 ∧ a = 103 ∧ z = m)
noncomputable def mtW (w : WD) (h : AH) (m : Nat) (s v : Int) : WD := ((fun a z => @ite Int (ZM m s a z) (Classical.propDecidable _) (gI h a z.toNat).toInt (if a = 91 ∧ z = 19 then 0 else if a = 91 ∧ z = 0 then v else w.1 a z)), w.2)
theorem mtW_i {a : Nat} {z s v : Int} (y : ZM m s a z) : (mtW w h m s v).1 a z = (gI h a z.toNat).toInt := if_pos y
theorem mtW_o {a : Nat} {z s v : Int} (y : ¬ ZM m s a z) (y2 : a ≠ 91 ∨ (z ≠ 0 ∧ z ≠ 19)) : (mtW w h m s v).1 a z = w.1 a z := (if_neg y).trans ((if_neg (by omega)).trans (if_neg (by omega)))
theorem mtW_T {s v : Int} : wT (mtW w h m s v) = 0 := (if_neg (by unfold ZM; omega)).trans (if_pos ⟨rfl, rfl⟩)
theorem mtW_M {s v : Int} : wM (mtW w h m s v) = v := (if_neg (by unfold ZM; omega)).trans ((if_neg (by omega)).trans (if_pos ⟨rfl, rfl⟩))
theorem mtW_RR {s v : Int} (R : RR w h) (fr : ∀ a i : Nat, 92 ≤ a → a ≤ 114 → ¬ ZM m s a i → gI hq a i = gI h a i) (j : ∀ i, gJ hq 115 i = gJ h 115 i) (g0 : gI hq 91 0 = iv v) (g19 : gI hq 91 19 = iv 0) (g20 : gI hq 91 20 = gI h 91 20) (g23 : gI hq 91 23 = gI h 91 23) : RR (mtW w hq m s v) hq := by
  obtain ⟨q1, q2, q3, q4, q5, q6⟩ := R
  refine ⟨fun a z z1 z2 z3 => ?_, by rw [mtW_M]; exact g0, by rw [mtW_T]; exact g19, ?_, ?_, fun z hz => by rw [j]; exact q6 z hz⟩
  · by_cases y : ZM m s a z
    · rw [mtW_i y, iv_self]
    · rw [mtW_o y (by omega), fr a z.toNat z1 z2 (by rw [show ((z.toNat : Nat) : Int) = z by omega]; exact y)]
      exact q1 a z z1 z2 z3
  · rw [show wK (mtW w hq m s v) = wK w from mtW_o (by unfold ZM; omega) (by omega), g20]; exact q4
  · rw [show wBo (mtW w hq m s v) = wBo w from mtW_o (by unfold ZM; omega) (by omega), g23]; exact q5
/-- what does not come leaves all as it was -/
theorem mt_fail (hS : Sim w A h) (hm : (m : Int) = wM w) (m4 : m < 4) (M : CM h h1 0) (Q : QG (sI h1 4 2 (iv 0)) hq m) (t0 : gI hq 91 19 = iv 0) : ∃ w', Sim w' A hq := by
  have hW := hS.W
  obtain ⟨a1, a2, a3, a4, a5, a6, a7, a8, a9⟩ := id hW
  obtain ⟨k1, n1, r1, j1, c1, s1, i1⟩ := M
  obtain ⟨k2, n2, r2, j2, c2, s2, i2⟩ := Q
  have low : ∀ a i, (a ≠ 4 ∧ a ≠ 6) → (a < 91 ∨ 100 < a ∨ (a = 91 ∧ i ≠ 28 ∧ i ≠ 19) ∨ a = 99) → gI hq a i = gI h a i := fun a i y z => by
    rw [i2 a i (by omega) (by omega) (by omega) (by omega) (by omega), gI_sIo _ _ (by omega), i1 a i (by omega) (by omega)]
  have K : ∀ a, gK hq a = gK h a := fun a => (k2 a).trans (k1 a)
  have N : ∀ a, gN hq a = gN h a := fun a => (n2 a).trans (n1 a)
  have Rr : ∀ a i, gR hq a i = gR h a i := fun a i => (r2 a i).trans (r1 a i)
  have J : ∀ a i, gJ hq a i = gJ h a i := fun a i => (j2 a i).trans (j1 a i)
  have R : RR (mtW w hq m 0 (wM w)) hq := by
    refine mtW_RR hS.R (fun a i z1 z2 y => ?_) (fun i => J _ _) ?_ t0 (low _ _ (by omega) (by omega)) (low _ _ (by omega) (by omega))
    · unfold ZM at y
      rw [i2 a i (by omega) (by omega) (by omega) (by omega) (by omega), gI_sIo _ _ (by omega), i1 a i (by omega) (by omega)]
    · rw [low _ _ (by omega) (by omega)]; exact hS.R.2.1
  have blk : ∀ c n : Nat, (c + n ≤ 4 ∨ 4 < c) → (c + n ≤ 6 ∨ 6 < c) → (c + n ≤ 91 ∨ 115 < c) → Blk h hq c n := fun c n y1 y2 y3 a z1 z2 => ⟨K a, N a, fun i => low a i (by omega) (by omega), J a, Rr a⟩
  have ow : ∀ (a : Nat) (z : Int), ¬ ZM m 0 a z → (a ≠ 91 ∨ (z ≠ 0 ∧ z ≠ 19)) → (mtW w hq m 0 (wM w)).1 a z = w.1 a z := fun a z y1 y2 => mtW_o y1 y2
  have eM : wM (mtW w hq m 0 (wM w)) = wM w := mtW_M
  have eK : wK (mtW w hq m 0 (wM w)) = wK w := ow 91 20 (by unfold ZM; omega) (by omega)
  refine ⟨mtW w hq m 0 (wM w), hS.dead ⟨⟨eM, eK⟩, fun a i y => ?_, fun m' hm' a y1 y2 => ?_, fun m' b hm' b0 b1 => ⟨fun g g0 g1 => ?_, fun k k0 k1 => ?_, fun a y => ?_⟩⟩ (hS.F.fr (fun a _ => K a) (fun a _ => N a) (fun a i _ _ _ _ => Rr a i)) R (by rw [mtW_T]; omega) (fun i i0 i1 => by rw [show wTa (mtW w hq m 0 (wM w)) i = wTa w i from ow 109 i (by unfold ZM; omega) (by omega)]; exact a4 i i0 i1) (fun s s0 s1 => ?_) (by rw [show wBo (mtW w hq m 0 (wM w)) = wBo w from ow 91 23 (by unfold ZM; omega) (by omega)]; exact a9) ?_ (fun s s0 s1 => (hS.S s0 s1).kp (blk _ _ (by omega) (by omega) (by omega)) (ow 113 s (by unfold ZM; omega) (by omega)) (ow 114 s (by unfold ZM; omega) (by omega)) (ow 112 s (by unfold ZM; omega) (by omega)) (fun _ => rfl) (fun _ _ _ => rfl)) (fun b n y _ => blk b n (by omega) (by omega) (by omega)) (by rw [c2, gC_sI, c1]; exact Nat.le_refl _)⟩
  · exact ow a i (by unfold ZM; omega) (by omega)
  · have := hm'.2
    exact ow a m' (by unfold ZM; omega) (by omega)
  · have := hm'.2
    have := (hW.mat hm').2.2.1
    exact ow 95 _ (by unfold ZM; omega) (by omega)
  · have := hm'.2
    have := (hW.mat hm').2.2.1
    exact ow 96 _ (by unfold ZM; omega) (by omega)
  · have := hm'.2
    have := (hW.mat hm').2.2.1
    exact ow a _ (by unfold ZM; omega) (by omega)
  · have := a8 s s0 s1
    unfold shOK at this ⊢
    rw [eK, show sIs (mtW w hq m 0 (wM w)) s = sIs w s from ow 112 s (by unfold ZM; omega) (by omega), show sSo (mtW w hq m 0 (wM w)) s = sSo w s from ow 113 s (by unfold ZM; omega) (by omega), show sSz (mtW w hq m 0 (wM w)) s = sSz w s from ow 114 s (by unfold ZM; omega) (by omega)]
    exact this
  · obtain ⟨q1, q2, q3, q4, q5, q6, q7, q8⟩ := hS.C
    unfold Cls
    rw [eM, eK, mtW_T, show wBo (mtW w hq m 0 (wM w)) = wBo w from ow 91 23 (by unfold ZM; omega) (by omega)]
    refine ⟨by rw [low _ _ (by omega) (by omega), q1], by rw [low _ _ (by omega) (by omega), q2], ?_, fun i y z => by rw [low _ _ (by omega) (by omega), q4 i y z, show wTa (mtW w hq m 0 (wM w)) i = wTa w i from ow 109 i (by unfold ZM; omega) (by omega)], fun i y z => by rw [low _ _ (by omega) (by omega), q5 i y z, show wTr (mtW w hq m 0 (wM w)) i = wTr w i from ow 111 i (by unfold ZM; omega) (by omega)], by rw [low _ _ (by omega) (by omega), q6], fun m' hm' => ?_, fun k y z => by rw [Rr, q8 k y z]⟩
    · rw [i2 _ _ (by omega) (by omega) (by omega) (by omega) (by omega), gI_sIs]
    · rw [Rr]
      exact q7 m' (by rwa [lvM_el eM] at hm')
end Q
