/-! one box changes: what is told of it later, what is seen in it -/
section Q
variable {w w' : WD} {A A' : Int → Nat} {h h' h1 : AH} {m b : Int}
theorem sep_B (hS : Sim w A h) (hl : lvM w m) (b0 : 0 ≤ b) (b1 : b < wBx w m) {q : Int} (hq : lvq w q) (hne : q ≠ 10 + (12 * m + b)) : A q + sz q ≤ A (10 + (12 * m + b)) ∨ A (10 + (12 * m + b)) + 5 ≤ A q := by
  have := (hS.sep q hq).2.2 _ (Or.inr (Or.inl ⟨m, b, hl, b0, b1, rfl⟩)) hne
  have bb := (hS.W.mat hl).2.2.1
  have l0 := hl.1
  have l1 := hl.2
  have w4 := hS.W.1.2
  rwa [show sz (10 + (12 * m + b)) = 5 by unfold sz; rw [if_neg (by omega), if_pos (by omega)]] at this
theorem Sim.box (hS : Sim w A h) (hl : lvM w m) (b0 : 0 ≤ b) (b1 : b < wBx w m) (e : ∀ (a : Nat) (i : Int), (a < 98 ∨ 101 < a ∨ (a = 98 ∨ a = 100) ∧ i ≠ 12 * m + b ∨ a = 99 ∧ (i < 12 * (12 * m + b) ∨ 12 * (12 * m + b) + 12 ≤ i) ∨ a = 101 ∧ (i < 3 * (12 * m + b) ∨ 3 * (12 * m + b) + 3 ≤ i)) → w'.1 a i = w.1 a i) (e2 : ∀ i, w'.2 i = w.2 i) (F : Fix h') (R : RR w' h') (B : ∀ c n : Nat, (c + n ≤ 91 ∨ 115 < c) → (c + n ≤ A (10 + (12 * m + b)) ∨ A (10 + (12 * m + b)) + 5 ≤ c) → c + n ≤ gC h → Blk h h' c n) (g : gC h' = gC h) (O : ObB w' A h' m (12 * m + b)) (ok : boxOK w' m (12 * m + b)) (wy : gJ h' (A (10 + (12 * m + b))) 8 = gJ h (A (10 + (12 * m + b))) 8) : Sim w' A h' := by
  have hG := hS.gc
  have hW := hS.W
  obtain ⟨a1, a2, a3, a4, a5, a6, a7, a8, a9⟩ := id hW
  have l0 := hl.1
  have eM : wM w' = wM w := e 91 0 (by omega)
  have eK : wK w' = wK w := e 91 20 (by omega)
  have eB : ∀ m, wBx w' m = wBx w m := fun m => e 94 m (by omega)
  have eH : ∀ m, wH w' m = wH w m := fun m => e 103 m (by omega)
  have eP : ∀ m y g, wP w' m y g = wP w m y g := fun m y g => by
    unfold wP wGr wG
    rw [e 92 _ (by omega), e 95 _ (by omega)]
  have lv : ∀ m, lvM w' m = lvM w m := fun m => lvM_el eM
  have lq : ∀ q, lvq w' q = lvq w q := fun q => by
    unfold lvq
    simp only [lv, eB, eH, eK]
  have lm : ∀ {m}, lvM w m → 0 ≤ m ∧ m < 4 := fun {m} hm => ⟨hm.1, by have := hm.2; omega⟩
  have lb : ∀ {m b}, lvM w m → 0 ≤ b → b < wBx w m → b < 12 := fun {m b} hm b0 b1 => by have := (hW.mat hm).2.2.1; omega
  have lh : ∀ {m k}, lvM w m → 0 ≤ k → k < wH w m → k < 8 := fun {m k} hm b0 b1 => by have := (hW.mat hm).2.2.2.1; omega
  have b12 := lb hl b0 b1
  have m4 := lm hl
  have aB := hS.aB hl b0 b1
  have szB : ∀ {m b}, lvM w m → 0 ≤ b → b < wBx w m → sz (10 + (12 * m + b)) = 5 := fun {m b} hm b0 b1 => by
    have := lm hm
    have := lb hm b0 b1
    unfold sz; rw [if_neg (by omega), if_pos (by omega)]
  have szH : ∀ {m k}, lvM w m → 0 ≤ k → k < wH w m → sz (60 + (12 * m + k)) = 1 := fun {m k} hm b0 b1 => by
    have := lm hm
    unfold sz; rw [if_neg (by omega), if_neg (by omega)]
  have szM : ∀ {m}, lvM w m → sz m = 4 := fun {m} hm => by
    have := lm hm
    unfold sz; rw [if_pos (by omega)]
  refine ⟨F, R, ?_, ?_, fun m' hm => ?_, fun m' b' hm b0' b1' => ?_, fun m' k' hm k0 k1 => ?_, fun k' k0 k1 => ?_, fun s' s0' s1' => ?_, ?_, by omega, fun m' b' hm b0' b1' => ?_⟩
  · refine ⟨by rw [eM]; exact a1, by rw [show wT w' = wT w from e 91 19 (by omega)]; exact a2, by rw [eK]; exact a3, fun i i0 i1 => by rw [show wTa w' i = wTa w i from e 109 i (by omega)]; exact a4 i i0 i1, fun k k0 k1 => by rw [show wKi w' k = wKi w k from e 110 k (by omega)]; rw [eK] at k1; exact a5 k k0 k1, fun m' hm => ?_, fun m' b' hm b0' b1' => ?_, fun s s0 s1 => ?_, by rw [show wBo w' = wBo w from e 91 23 (by omega)]; exact a9⟩
    · rw [lv] at hm
      have := a6 m' hm
      unfold matOK heldOK wGr wCh wBx wH wW hSo hCe hBo hOt hMu at *
      simp -implicitDefEqProofs (disch := omega) only [e]
      exact this
    · rw [lv] at hm
      rw [eB] at b1'
      have bb := lb hm b0' b1'
      by_cases z : m' = m ∧ b' = b
      · obtain ⟨rfl, rfl⟩ := z
        exact ok
      · have := a7 m' b' hm b0' b1'
        have mm := lm hm
        have gg := (hW.mat hm).1
        unfold boxOK wP wGr wCh wG wC wV wO wSe wS2 wL at *
        rw [e 98 (12 * m' + b') (by omega), e 100 (12 * m' + b') (by omega), e 97 (12 * m' + b') (by omega), e 92 m' (by omega), e 93 m' (by omega)]
        obtain ⟨z1, z2, z3, z4, z5, z6, z7, z8, z9⟩ := this
        refine ⟨fun g y0 y1 => ?_, fun k y0 y1 => ?_, fun y => ?_, ?_, ?_, z6, fun y p y0 y1 => ?_, z8, fun y k y0 y1 => ?_⟩
        · rw [e 95 _ (by omega)]; exact z1 g y0 y1
        · rw [e 96 _ (by omega)]; exact z2 k y0 y1
        · rw [e 96 _ (by omega)]; exact z3 y
        · rw [e 95 _ (by omega), e 95 _ (by omega), e 95 _ (by omega), e 95 _ (by omega)]; exact z4
        · rw [e 96 _ (by omega), e 96 _ (by omega), e 96 _ (by omega)]; exact z5
        · rw [e 99 _ (by omega)]; exact z7 y p y0 y1
        · rw [e 101 _ (by omega)]; exact z9 y k y0 y1
    · have := a8 s s0 s1
      unfold shOK at this ⊢
      rw [eK, show sIs w' s = sIs w s from e 112 s (by omega), show sSo w' s = sSo w s from e 113 s (by omega), show sSz w' s = sSz w s from e 114 s (by omega)]
      exact this
  · exact hS.C.kp (B _ _ (by omega) (by omega) (by omega)) eM eK (e 91 19 (by omega)) (fun i _ _ => e 109 i (by omega)) (fun i _ _ => e 111 i (by omega)) (e 91 23 (by omega)) (fun _ _ => rfl) (fun _ _ _ => rfl)
  · rw [lv] at hm
    have := lm hm
    have am := hS.aM hm
    have sp := sep_B hS hl b0 b1 (Or.inl hm) (by omega)
    rw [szM hm] at sp
    exact (hS.M hm).kp (B _ _ (by omega) (by omega) (hS.tM hm)) rfl (e 92 _ (by omega)) (e 93 _ (by omega)) (eB m') (eH m') (fun p _ _ => e 102 _ (by omega)) (fun _ _ _ => rfl) (fun _ _ _ => rfl)
  · rw [lv] at hm
    rw [eB] at b1'
    have := lm hm
    have := lb hm b0' b1'
    have gg := (hW.mat hm).1
    by_cases z : m' = m ∧ b' = b
    · obtain ⟨rfl, rfl⟩ := z
      exact O
    · have ab := hS.aB hm b0' b1'
      have sp := sep_B hS hl b0 b1 (Or.inr (Or.inl ⟨m', b', hm, b0', b1', rfl⟩)) (by omega)
      rw [szB hm b0' b1'] at sp
      exact (hS.B hm b0' b1').kp (B _ _ (by omega) (by omega) (hS.tB hm b0' b1')) rfl rfl (e 92 _ (by omega)) (fun g _ _ => eP m' _ g) (fun _ _ _ => e 96 _ (by omega)) (e 100 _ (by omega)) (fun k y0 y1 => e 101 _ (by omega)) (e 98 _ (by omega)) (fun p y0 y1 => e 99 _ (by omega)) (e 97 _ (by omega)) (e 93 _ (by omega))
  · rw [lv] at hm
    rw [eH] at k1
    have := lm hm
    have := lh hm k0 k1
    have ah := hS.aH hm k0 k1
    have sp := sep_B hS hl b0 b1 (Or.inr (Or.inr (Or.inl ⟨m', k', hm, k0, k1, rfl⟩))) (by omega)
    rw [szH hm k0 k1] at sp
    exact (hS.H hm k0 k1).kp (B _ _ (by omega) (by omega) (hS.tH hm k0 k1)) rfl (e 104 _ (by omega)) (e 105 _ (by omega)) (e 106 _ (by omega)) (e 107 _ (by omega)) (e 108 _ (by omega))
  · rw [eK] at k1
    have ak := hS.aK k0 k1
    have sp := sep_B hS hl b0 b1 (Or.inr (Or.inr (Or.inr ⟨k', k0, k1, rfl⟩))) (by omega)
    rw [show sz (110 + k') = 1 by unfold sz; rw [if_neg (by omega), if_neg (by omega)]] at sp
    exact (hS.K k0 k1).kp (B _ _ (by omega) (by omega) (hS.tK k0 k1)) rfl (e 110 _ (by omega))
  · exact (hS.S s0' s1').kp (B _ _ (by omega) (by omega) (by omega)) (e 113 _ (by omega)) (e 114 _ (by omega)) (e 112 _ (by omega)) (fun _ => rfl) (fun i _ _ => e2 _)
  · intro q hq
    rw [lq] at hq
    obtain ⟨z1, z2, z3⟩ := hS.sep q hq
    exact ⟨z1, by omega, fun q' hq' hne => z3 q' (by rwa [lq] at hq') hne⟩
  · rw [lv] at hm
    rw [eB] at b1'
    have := lm hm
    have := lb hm b0' b1'
    have gg := (hW.mat hm).1
    have y := hS.wy m' b' hm b0' b1'
    have eX : cnX w' m' (12 * m' + b') = cnX w m' (12 * m' + b') := by
      unfold cnX
      rw [eP, eP, eP, eP, show wC w' (12 * m' + b') 0 = wC w (12 * m' + b') 0 from e 96 _ (by omega), show wC w' (12 * m' + b') 1 = wC w (12 * m' + b') 1 from e 96 _ (by omega), show wC w' (12 * m' + b') 2 = wC w (12 * m' + b') 2 from e 96 _ (by omega)]
    rw [eX]
    by_cases z : m' = m ∧ b' = b
    · obtain ⟨rfl, rfl⟩ := z
      rw [wy]
      exact y
    · have ab := hS.aB hm b0' b1'
      have sp := sep_B hS hl b0 b1 (Or.inr (Or.inl ⟨m', b', hm, b0', b1', rfl⟩)) (by omega)
      rw [szB hm b0' b1'] at sp
      rw [((B _ _ (by omega) (by omega) (hS.tB hm b0' b1')) _ (Nat.le_refl _) (by omega)).2.2.2.1]
      exact y
end Q
