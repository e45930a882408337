/-! rows that no living thing has, and heaps of two halves -/
section Q
variable {w w' : WD} {A A' : Int → Nat} {h h' h1 : AH} {m : Int}
/-- the world is the same for all that lives; tape, trace and shelves apart -/
def Eld (w w' : WD) : Prop := (w'.1 91 0 = w.1 91 0 ∧ w'.1 91 20 = w.1 91 20) ∧ (∀ (a : Nat) (i : Int), (a = 99 ∨ 101 ≤ a ∧ a ≤ 108 ∨ a = 110) → w'.1 a i = w.1 a i) ∧ (∀ m : Int, lvM w m → ∀ a : Nat, 92 ≤ a → a ≤ 94 → w'.1 a m = w.1 a m) ∧ ∀ m b : Int, lvM w m → 0 ≤ b → b < wBx w m → (∀ g : Int, 0 ≤ g → g < 4 → w'.1 95 (4 * (12 * m + b) + g) = w.1 95 (4 * (12 * m + b) + g)) ∧ (∀ k : Int, 0 ≤ k → k < 3 → w'.1 96 (3 * (12 * m + b) + k) = w.1 96 (3 * (12 * m + b) + k)) ∧ ∀ a : Nat, (a = 97 ∨ a = 98 ∨ a = 100) → w'.1 a (12 * m + b) = w.1 a (12 * m + b)
theorem Sim.dead (hS : Sim w A h) (e : Eld w w') (F : Fix h') (R : RR w' h') (t : 0 ≤ wT w' ∧ wT w' ≤ 200) (ta : ∀ i : Int, 0 ≤ i → i < 200 → 0 ≤ wTa w' i ∧ wTa w' i ≤ 255) (sh : ∀ s : Int, 0 ≤ s → s < 6 → shOK w' s) (bo : 0 ≤ wBo w' ∧ wBo w' ≤ 100000) (C : Cls w' A h') (S : ∀ s : Int, 0 ≤ s → s < 6 → ObS w' A h' s) (B : ∀ b n : Nat, 121 ≤ b → b + n ≤ gC h → Blk h h' b n) (g : gC h ≤ gC h') : Sim w' A h' := by
  obtain ⟨⟨eM, eK⟩, eo, em, eb⟩ := e
  change wM w' = wM w at eM
  change wK w' = wK w at eK
  have hW := hS.W
  obtain ⟨a1, a2, a3, a4, a5, a6, a7, a8, a9⟩ := id hW
  have lv : ∀ m, lvM w' m = lvM w m := fun m => lvM_el eM
  have eGr : ∀ {m}, lvM w m → wGr w' m = wGr w m := fun {m} hm => em m hm 92 (by omega) (by omega)
  have eCh : ∀ {m}, lvM w m → wCh w' m = wCh w m := fun {m} hm => em m hm 93 (by omega) (by omega)
  have eB : ∀ {m}, lvM w m → wBx w' m = wBx w m := fun {m} hm => em m hm 94 (by omega) (by omega)
  have eH : ∀ m, wH w' m = wH w m := fun m => eo 103 m (by omega)
  have eP : ∀ m b : Int, lvM w m → 0 ≤ b → b < wBx w m → ∀ g : Int, 0 ≤ g → g < 4 → wP w' m (12 * m + b) g = wP w m (12 * m + b) g := fun m b hm b0 b1 g g0 g1 => by
    unfold wP wG
    rw [eGr hm, (eb m b hm b0 b1).1 g g0 g1]
  have eC : ∀ m b : Int, lvM w m → 0 ≤ b → b < wBx w m → ∀ k : Int, 0 ≤ k → k < 3 → wC w' (12 * m + b) k = wC w (12 * m + b) k := fun m b hm b0 b1 k k0 k1 => (eb m b hm b0 b1).2.1 k k0 k1
  have e3 : ∀ m b : Int, lvM w m → 0 ≤ b → b < wBx w m → wV w' (12 * m + b) = wV w (12 * m + b) ∧ wO w' (12 * m + b) = wO w (12 * m + b) ∧ wS2 w' (12 * m + b) = wS2 w (12 * m + b) := fun m b hm b0 b1 => ⟨(eb m b hm b0 b1).2.2 97 (by omega), (eb m b hm b0 b1).2.2 98 (by omega), (eb m b hm b0 b1).2.2 100 (by omega)⟩
  have lq : ∀ q, lvq w' q → lvq w q := fun q hq => by
    unfold lvq at hq ⊢
    rcases hq with z | ⟨m', b', z1, z2, z3, z4⟩ | ⟨m', k', z1, z2, z3, z4⟩ | ⟨k', z1, z2, z3⟩
    · rw [lv] at z; exact Or.inl z
    · rw [lv] at z1; rw [eB z1] at z3
      exact Or.inr (Or.inl ⟨m', b', z1, z2, z3, z4⟩)
    · rw [lv] at z1; rw [eH] at z3
      exact Or.inr (Or.inr (Or.inl ⟨m', k', z1, z2, z3, z4⟩))
    · rw [eK] at z2
      exact Or.inr (Or.inr (Or.inr ⟨k', z1, z2, z3⟩))
  refine ⟨F, R, ?_, C, fun m hm => ?_, fun m b hm b0 b1 => ?_, fun m k hm k0 k1 => ?_, fun k k0 k1 => ?_, S, ?_, by have := hS.gc; omega, fun m b hm b0 b1 => ?_⟩
  · refine ⟨by rw [eM]; exact a1, t, by rw [eK]; exact a3, ta, fun k k0 k1 => ?_, fun m hm => ?_, fun m b hm b0 b1 => ?_, sh, bo⟩
    · rw [show wKi w' k = wKi w k from eo 110 k (by omega)]
      exact a5 k k0 (by omega)
    · rw [lv] at hm
      obtain ⟨y1, y2, y3, y4, y5, y6⟩ := a6 m hm
      unfold matOK
      rw [eGr hm, eCh hm, eB hm, eH]
      refine ⟨y1, y2, y3, y4, fun p p0 p1 => by rw [show wW w' m p = wW w m p from eo 102 _ (by omega)]; exact y5 p p0 p1, fun k k0 k1 => ?_⟩
      have := y6 k k0 k1
      unfold heldOK at *
      rw [show hSo w' (12 * m + k) = hSo w (12 * m + k) from eo 104 _ (by omega), show hCe w' (12 * m + k) = hCe w (12 * m + k) from eo 105 _ (by omega), show hBo w' (12 * m + k) = hBo w (12 * m + k) from eo 106 _ (by omega), show hOt w' (12 * m + k) = hOt w (12 * m + k) from eo 107 _ (by omega), show hMu w' (12 * m + k) = hMu w (12 * m + k) from eo 108 _ (by omega), eGr hm, eCh hm, eB hm]
      exact this
    · rw [lv] at hm
      rw [eB hm] at b1
      obtain ⟨z1, z2, z3, z4, z5, z6, z7, z8, z9⟩ := a7 m b hm b0 b1
      obtain ⟨v1, v2, v3⟩ := e3 m b hm b0 b1
      unfold boxOK
      rw [eGr hm, eCh hm, v1, v2, v3, eP m b hm b0 b1 0 (by omega) (by omega), eP m b hm b0 b1 1 (by omega) (by omega), eP m b hm b0 b1 2 (by omega) (by omega), eP m b hm b0 b1 3 (by omega) (by omega), eC m b hm b0 b1 0 (by omega) (by omega), eC m b hm b0 b1 1 (by omega) (by omega), eC m b hm b0 b1 2 (by omega) (by omega)]
      exact ⟨fun g y0 y1 => by rw [eP m b hm b0 b1 g y0 y1]; exact z1 g y0 y1, fun k y0 y1 => by rw [eC m b hm b0 b1 k y0 y1]; exact z2 k y0 y1, z3, z4, z5, z6, fun y p y0 y1 => by rw [show wSe w' (12 * m + b) p = wSe w (12 * m + b) p from eo 99 _ (by omega)]; exact z7 y p y0 y1, z8, fun y k y0 y1 => by rw [show wL w' (12 * m + b) k = wL w (12 * m + b) k from eo 101 _ (by omega)]; exact z9 y k y0 y1⟩
  · rw [lv] at hm
    exact (hS.M hm).kp (B _ _ (hS.aM hm) (hS.tM hm)) rfl (eGr hm) (eCh hm) (eB hm) (eH m) (fun p _ _ => eo 102 _ (by omega)) (fun _ _ _ => rfl) (fun _ _ _ => rfl)
  · rw [lv] at hm
    rw [eB hm] at b1
    obtain ⟨v1, v2, v3⟩ := e3 m b hm b0 b1
    exact (hS.B hm b0 b1).kp (B _ _ (hS.aB hm b0 b1) (hS.tB hm b0 b1)) rfl rfl (eGr hm) (fun g y0 y1 => eP m b hm b0 b1 g y0 y1) (fun k y0 y1 => eC m b hm b0 b1 k y0 y1) v3 (fun _ _ _ => eo 101 _ (by omega)) v2 (fun _ _ _ => eo 99 _ (by omega)) v1 (eCh hm)
  · rw [lv] at hm
    rw [eH] at k1
    exact (hS.H hm k0 k1).kp (B _ _ (hS.aH hm k0 k1) (hS.tH hm k0 k1)) rfl (eo 104 _ (by omega)) (eo 105 _ (by omega)) (eo 106 _ (by omega)) (eo 107 _ (by omega)) (eo 108 _ (by omega))
  · rw [eK] at k1
    exact (hS.K k0 k1).kp (B _ _ (hS.aK k0 k1) (hS.tK k0 k1)) rfl (eo 110 _ (by omega))
  · intro q hq
    obtain ⟨z1, z2, z3⟩ := hS.sep q (lq q hq)
    exact ⟨z1, by omega, fun q' hq' hne => z3 q' (lq q' hq') hne⟩
  · rw [lv] at hm
    rw [eB hm] at b1
    have z := (B _ _ (hS.aB hm b0 b1) (hS.tB hm b0 b1) _ (Nat.le_refl _) (by omega)).2.2.2.1
    have ec : cnX w' m (12 * m + b) = cnX w m (12 * m + b) := by
      unfold cnX
      rw [eP m b hm b0 b1 0 (by omega) (by omega), eP m b hm b0 b1 1 (by omega) (by omega), eP m b hm b0 b1 2 (by omega) (by omega), eP m b hm b0 b1 3 (by omega) (by omega), eC m b hm b0 b1 0 (by omega) (by omega), eC m b hm b0 b1 1 (by omega) (by omega), eC m b hm b0 b1 2 (by omega) (by omega)]
    rw [z, ec]
    exact hS.wy m b hm b0 b1
/-- rows 91 to 115 of one heap, all else of another -/
def mixH (hc hq : AH) : AH := ((fun a => if 91 ≤ a ∧ a ≤ 115 then gK hq a else gK hc a), (fun a => if 91 ≤ a ∧ a ≤ 115 then gN hq a else gN hc a), (fun a i => if 91 ≤ a ∧ a ≤ 115 then gI hq a i else gI hc a i), (fun a i => if 91 ≤ a ∧ a ≤ 115 then gJ hq a i else gJ hc a i), (fun a i => if 91 ≤ a ∧ a ≤ 115 then gR hq a i else gR hc a i), hc.2.2.2.2.2.1, hc.2.2.2.2.2.2)
theorem mixC {hc hq : AH} {a : Nat} (z : a < 91 ∨ 115 < a) : gK (mixH hc hq) a = gK hc a ∧ gN (mixH hc hq) a = gN hc a ∧ (∀ i, gI (mixH hc hq) a i = gI hc a i) ∧ (∀ i, gJ (mixH hc hq) a i = gJ hc a i) ∧ ∀ i, gR (mixH hc hq) a i = gR hc a i := ⟨if_neg (by omega), if_neg (by omega), fun _ => if_neg (by omega), fun _ => if_neg (by omega), fun _ => if_neg (by omega)⟩
theorem mixQ {hc hq : AH} {a : Nat} (z : 91 ≤ a ∧ a ≤ 115) : gK (mixH hc hq) a = gK hq a ∧ gN (mixH hc hq) a = gN hq a ∧ (∀ i, gI (mixH hc hq) a i = gI hq a i) ∧ (∀ i, gJ (mixH hc hq) a i = gJ hq a i) ∧ ∀ i, gR (mixH hc hq) a i = gR hq a i := ⟨if_pos z, if_pos z, fun _ => if_pos z, fun _ => if_pos z, fun _ => if_pos z⟩
theorem gC_mix (hc hq : AH) : gC (mixH hc hq) = gC hc := rfl
theorem RR.mix (R : RR w h) (hc : AH) : RR w (mixH hc h) := R.fr (fun a i z => (mixQ (by omega)).2.2.1 i) (fun i => (mixQ (by omega)).2.2.2.1 i)
/-- two heaps with the same cells and the same count are alike to all -/
theorem Sim.same (hS : Sim w A h) (B : ∀ a : Nat, gK h' a = gK h a ∧ gN h' a = gN h a ∧ (∀ i, gI h' a i = gI h a i) ∧ (∀ i, gJ h' a i = gJ h a i) ∧ ∀ i, gR h' a i = gR h a i) (g : gC h' = gC h) : Sim w A h' := by
  have hb : ∀ b n : Nat, Blk h h' b n := fun b n a _ _ => B a
  refine hS.hi (fun _ _ _ => rfl) (hS.F.fr (fun a _ => (B a).1) (fun a _ => (B a).2.1) (fun a i _ _ _ _ => (B a).2.2.2.2 i)) (hS.R.fr (fun a i _ => (B a).2.2.1 i) (fun i => (B 115).2.2.2.1 i)) hS.W (hS.C.kp (hb _ _) rfl rfl rfl (fun _ _ _ => rfl) (fun _ _ _ => rfl) rfl (fun _ _ => rfl) (fun _ _ _ => rfl)) (fun s s0 s1 => (hS.S s0 s1).kp (hb _ _) rfl rfl rfl (fun _ => rfl) (fun _ _ _ => rfl)) (fun b n _ _ => hb b n) (by omega)
end Q
