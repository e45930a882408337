/-! a box more: the likeness -/
section Q
variable {w w' : WD} {A A' : Int → Nat} {h h' h1 : AH} {m : Int}
/-- cells of a new box at c -/
def NewB (h' : AH) (c M G C : Nat) (u : Nat → Int) : Prop := gK h' c = 100 ∧ gR h' c 0 = M ∧ gR h' c 1 = c + 1 ∧ gR h' c 2 = c + 2 ∧ gR h' c 3 = c + 3 ∧ gR h' c 4 = c + 4 ∧ (gK h' (c + 1) = 1 ∧ gN h' (c + 1) = 4) ∧ (gK h' (c + 2) = 1 ∧ gN h' (c + 2) = 3) ∧ (gK h' (c + 3) = 1 ∧ gN h' (c + 3) = 3) ∧ (gK h' (c + 4) = 1 ∧ gN h' (c + 4) = 12) ∧ (∀ i, gI h' (c + 1) i = if i < G then iv (u i) else iv 0) ∧ (∀ i, gI h' (c + 2) i = if i < C then iv (u (G + i)) else iv 0) ∧ (∀ i, gI h' (c + 3) i = iv 0) ∧ (∀ i, gI h' (c + 4) i = iv 0) ∧ gI h' c 5 = iv (suU u G) ∧ gI h' c 6 = iv 0 ∧ gI h' c 7 = iv 0 ∧ gJ h' c 8 = jv 0
/-- the world's side of a new box -/
def NewW (w w' : WD) (m : Int) (G C : Nat) (u : Nat → Int) : Prop := (∀ (a : Nat) (i : Int), (a ≠ 94 ∨ i ≠ m) → (a ≠ 95 ∨ i < 4 * (12 * m + wBx w m) ∨ 4 * (12 * m + wBx w m) + 4 ≤ i) → (a ≠ 96 ∨ i < 3 * (12 * m + wBx w m) ∨ 3 * (12 * m + wBx w m) + 3 ≤ i) → ((a ≠ 97 ∧ a ≠ 98 ∧ a ≠ 100) ∨ i ≠ 12 * m + wBx w m) → w'.1 a i = w.1 a i) ∧ w'.2 = w.2 ∧ wBx w' m = wBx w m + 1 ∧ (∀ g : Nat, g < G → wG w' (12 * m + wBx w m) g = u g) ∧ (∀ k : Nat, k < 3 → wC w' (12 * m + wBx w m) k = if k < C then u (G + k) else 0) ∧ wV w' (12 * m + wBx w m) = suU u G ∧ wO w' (12 * m + wBx w m) = 0 ∧ wS2 w' (12 * m + wBx w m) = 0
theorem Sim.add (hS : Sim w A h) (hl : lvM w m) (hb : wBx w m < 12) {G C : Nat} {u : Nat → Int} (hG : (G : Int) = wGr w m) (hC : (C : Int) = wCh w m) (ok : AdOK G C u) (W : NewW w w' m G C u) (F : Fix h') (R : RR w' h') (low : ∀ a : Nat, a < gC h → (a < 91 ∨ 115 < a) → gK h' a = gK h a ∧ gN h' a = gN h a ∧ (∀ i, (a ≠ A m ∨ i ≠ 5) → gI h' a i = gI h a i) ∧ (∀ i, gJ h' a i = gJ h a i) ∧ ∀ i, (a ≠ A m + 1 ∨ i ≠ (wBx w m).toNat) → gR h' a i = gR h a i) (f5 : gI h' (A m) 5 = iv (wBx w m + 1)) (rb : gR h' (A m + 1) (wBx w m).toNat = gC h) (N : NewB h' (gC h) (A m) G C u) (gCe : gC h' = gC h + 5) : Sim w' (aU A (10 + (12 * m + wBx w m)) (gC h)) h' := by
  have hGc := hS.gc
  have hW := hS.W
  obtain ⟨a1, a2, a3, a4, a5, a6, a7, a8, a9⟩ := id hW
  obtain ⟨l0, l1⟩ := id hl
  obtain ⟨⟨gg1, gg2⟩, ⟨gc1, gc2⟩, ⟨bb1, bb2⟩, ⟨hh1, hh2⟩, mw, mh⟩ := hW.mat hl
  have am := hS.aM hl
  have tm := hS.tM hl
  obtain ⟨eo, e2, eB0, wg, wc, wv, wo, ws⟩ := W
  obtain ⟨hu, hs⟩ := ok
  have eM : wM w' = wM w := eo 91 0 (by omega) (by omega) (by omega) (by omega)
  have eK : wK w' = wK w := eo 91 20 (by omega) (by omega) (by omega) (by omega)
  have eB : ∀ m', m' ≠ m → wBx w' m' = wBx w m' := fun m' z => eo 94 m' (by omega) (by omega) (by omega) (by omega)
  have eH : ∀ m, wH w' m = wH w m := fun m => eo 103 m (by omega) (by omega) (by omega) (by omega)
  have eGr : ∀ m, wGr w' m = wGr w m := fun m => eo 92 m (by omega) (by omega) (by omega) (by omega)
  have eCh : ∀ m, wCh w' m = wCh w m := fun m => eo 93 m (by omega) (by omega) (by omega) (by omega)
  have lv : ∀ m, lvM w' m = lvM w m := fun m => lvM_el eM
  have lm : ∀ {m}, lvM w m → 0 ≤ m ∧ m < 4 := fun {m} hm => ⟨hm.1, by have := hm.2; omega⟩
  have lb : ∀ {m b}, lvM w m → 0 ≤ b → b < wBx w m → b < 12 := fun {m b} hm b0 b1 => by have := (hW.mat hm).2.2.1; omega
  have lh : ∀ {m k}, lvM w m → 0 ≤ k → k < wH w m → k < 8 := fun {m k} hm b0 b1 => by have := (hW.mat hm).2.2.2.1; omega
  have sep : ∀ q, lvq w q → q ≠ m → A q + sz q ≤ A m ∨ A m + 4 ≤ A q := fun q hq hne => by
    have := (hS.sep q hq).2.2 m (Or.inl hl) hne
    rwa [show sz m = 4 by unfold sz; rw [if_pos (by omega)]] at this
  have szB : ∀ {m b}, lvM w m → 0 ≤ b → b < wBx w m → sz (10 + (12 * m + b)) = 5 := fun {m b} hm b0 b1 => by
    have := lm hm
    have := lb hm b0 b1
    unfold sz; rw [if_neg (by omega), if_pos (by omega)]
  have szH : ∀ {m k}, lvM w m → 0 ≤ k → k < wH w m → sz (60 + (12 * m + k)) = 1 := fun {m k} hm b0 b1 => by
    have := lm hm
    unfold sz; rw [if_neg (by omega), if_neg (by omega)]
  have szM : ∀ {m}, lvM w m → sz m = 4 := fun {m} hm => by
    have := lm hm
    unfold sz; rw [if_pos (by omega)]
  have B : ∀ d n : Nat, d + n ≤ gC h → (d + n ≤ A m ∨ A m + 4 ≤ d) → (d + n ≤ 91 ∨ 115 < d) → Blk h h' d n := fun d n z0 z1 z2 a y1 y2 => by
    obtain ⟨p1, p2, p3, p4, p5⟩ := low a (by omega) (by omega)
    exact ⟨p1, p2, fun i => p3 i (by omega), p4, fun i => p5 i (by omega)⟩
  -- boxes that stood
  have oldb : ∀ m' b' : Int, lvM w m' → 0 ≤ b' → b' < wBx w m' → 12 * m' + b' ≠ 12 * m + wBx w m := fun m' b' hm b0 b1 => by
    have := lm hm
    have := lb hm b0 b1
    by_cases e : m' = m
    · subst e; omega
    · omega
  have oldw : ∀ m' b' : Int, lvM w' m' → 0 ≤ b' → b' < wBx w' m' → (m' = m ∧ b' = wBx w m) ∨ b' < wBx w m' := fun m' b' hm b0 b1 => by
    by_cases e : m' = m
    · subst e
      rw [eB0] at b1
      by_cases q : b' = wBx w m'
      · exact Or.inl ⟨rfl, q⟩
      · exact Or.inr (by omega)
    · rw [eB m' e] at b1
      exact Or.inr b1
  have oP : ∀ m' b' : Int, lvM w m' → 0 ≤ b' → b' < wBx w m' → ∀ g : Int, 0 ≤ g → g < 4 → wP w' m' (12 * m' + b') g = wP w m' (12 * m' + b') g := fun m' b' hm b0 b1 g g0 g1 => by
    have := oldb m' b' hm b0 b1
    unfold wP wG
    rw [eGr, eo 95 _ (by omega) (by omega) (by omega) (by omega)]
  have oC : ∀ m' b' : Int, lvM w m' → 0 ≤ b' → b' < wBx w m' → ∀ k : Int, 0 ≤ k → k < 3 → wC w' (12 * m' + b') k = wC w (12 * m' + b') k := fun m' b' hm b0 b1 k k0 k1 => by
    have := oldb m' b' hm b0 b1
    exact eo 96 _ (by omega) (by omega) (by omega) (by omega)
  have nP : ∀ g : Nat, g < 4 → wP w' m (12 * m + wBx w m) g = if g < G then u g else 0 := fun g g4 => by
    unfold wP
    rw [eGr]
    by_cases q : g < G
    · rw [if_pos (by omega), if_pos q, wg g q]
    · rw [if_neg (by omega), if_neg q]
  have sG : suU u G = wP w' m (12 * m + wBx w m) 0 + wP w' m (12 * m + wBx w m) 1 + wP w' m (12 * m + wBx w m) 2 + wP w' m (12 * m + wBx w m) 3 := by
    have e0 := nP 0 (by omega)
    have e1 := nP 1 (by omega)
    have e3 := nP 2 (by omega)
    have e4 := nP 3 (by omega)
    rw [show ((0 : Nat) : Int) = 0 from rfl] at e0
    rw [show ((1 : Nat) : Int) = 1 from rfl] at e1
    rw [show ((2 : Nat) : Int) = 2 from rfl] at e3
    rw [show ((3 : Nat) : Int) = 3 from rfl] at e4
    rw [e0, e1, e3, e4]
    rcases (show G = 2 ∨ G = 3 ∨ G = 4 by omega) with q | q | q <;> subst q <;> simp [suU]
  have sC : suU (fun k => u (G + k)) C = wC w' (12 * m + wBx w m) 0 + wC w' (12 * m + wBx w m) 1 + wC w' (12 * m + wBx w m) 2 := by
    have e0 := wc 0 (by omega)
    have e1 := wc 1 (by omega)
    have e3 := wc 2 (by omega)
    rw [show ((0 : Nat) : Int) = 0 from rfl] at e0
    rw [show ((1 : Nat) : Int) = 1 from rfl] at e1
    rw [show ((2 : Nat) : Int) = 2 from rfl] at e3
    rw [e0, e1, e3]
    rcases (show C = 2 ∨ C = 3 by omega) with q | q <;> subst q <;> simp [suU]
  refine ⟨F, R, ?_, ?_, fun m' hm => ?_, fun m' b' hm b0' b1' => ?_, fun m' k' hm k0 k1 => ?_, fun k' k0 k1 => ?_, fun s' s0' s1' => ?_, ?_, by omega, fun m' b' hm b0' b1' => ?_⟩
  · refine ⟨by rw [eM]; exact a1, by rw [show wT w' = wT w from eo 91 19 (by omega) (by omega) (by omega) (by omega)]; exact a2, by rw [eK]; exact a3, fun i i0 i1 => by rw [show wTa w' i = wTa w i from eo 109 i (by omega) (by omega) (by omega) (by omega)]; exact a4 i i0 i1, fun k k0 k1 => by rw [show wKi w' k = wKi w k from eo 110 k (by omega) (by omega) (by omega) (by omega)]; rw [eK] at k1; exact a5 k k0 k1, fun m' hm => ?_, fun m' b' hm b0' b1' => ?_, fun s s0 s1 => ?_, by rw [show wBo w' = wBo w from eo 91 23 (by omega) (by omega) (by omega) (by omega)]; exact a9⟩
    · rw [lv] at hm
      obtain ⟨y1, y2, y3, y4, y5, y6⟩ := hW.mat hm
      have bm : wBx w m' ≤ wBx w' m' ∧ wBx w' m' ≤ 12 := by
        by_cases e : m' = m
        · subst e; rw [eB0]; omega
        · rw [eB m' e]; omega
      unfold matOK
      rw [eGr, eCh, eH]
      refine ⟨y1, y2, by omega, y4, fun p p0 p1 => by rw [show wW w' m' p = wW w m' p from eo 102 _ (by omega) (by omega) (by omega) (by omega)]; exact y5 p p0 p1, fun k' k0 k1 => ?_⟩
      have := y6 k' k0 k1
      unfold heldOK at *
      rw [show hSo w' (12 * m' + k') = hSo w (12 * m' + k') from eo 104 _ (by omega) (by omega) (by omega) (by omega), show hCe w' (12 * m' + k') = hCe w (12 * m' + k') from eo 105 _ (by omega) (by omega) (by omega) (by omega), show hBo w' (12 * m' + k') = hBo w (12 * m' + k') from eo 106 _ (by omega) (by omega) (by omega) (by omega), show hOt w' (12 * m' + k') = hOt w (12 * m' + k') from eo 107 _ (by omega) (by omega) (by omega) (by omega), show hMu w' (12 * m' + k') = hMu w (12 * m' + k') from eo 108 _ (by omega) (by omega) (by omega) (by omega), eGr, eCh]
      omega
    · have hm' := hm
      rw [lv] at hm
      rcases oldw m' b' hm' b0' b1' with ⟨rfl, rfl⟩ | b1
      · unfold boxOK
        rw [wo, ws, wv]
        have r0 := wc 0 (by omega)
        have r1 := wc 1 (by omega)
        have r2 := wc 2 (by omega)
        rw [show ((2 : Nat) : Int) = 2 from rfl] at r2
        refine ⟨fun g y0 y1 => ?_, fun k y0 y1 => ?_, fun y => ?_, sG, by rw [hs]; exact sC, Or.inl rfl, fun y => by omega, Or.inl rfl, fun y => by omega⟩
        · obtain ⟨g', rfl⟩ : ∃ g' : Nat, g = g' := ⟨g.toNat, by omega⟩
          rw [nP g' (by omega)]
          by_cases q : g' < G
          · rw [if_pos q]; exact hu g' (by omega)
          · rw [if_neg q]; omega
        · obtain ⟨k', rfl⟩ : ∃ k' : Nat, k = k' := ⟨k.toNat, by omega⟩
          rw [wc k' (by omega)]
          by_cases q : k' < C
          · rw [if_pos q]; exact hu (G + k') (by omega)
          · rw [if_neg q]; omega
        · rw [eCh] at y
          rw [r2, if_neg (by omega)]
      · have := oldb m' b' hm b0' b1
        have bb := lb hm b0' b1
        have mm := lm hm
        have gg := (hW.mat hm).1
        obtain ⟨z1, z2, z3, z4, z5, z6, z7, z8, z9⟩ := a7 m' b' hm b0' b1
        unfold boxOK
        rw [eGr, eCh, show wV w' (12 * m' + b') = wV w (12 * m' + b') from eo 97 _ (by omega) (by omega) (by omega) (by omega), show wO w' (12 * m' + b') = wO w (12 * m' + b') from eo 98 _ (by omega) (by omega) (by omega) (by omega), show wS2 w' (12 * m' + b') = wS2 w (12 * m' + b') from eo 100 _ (by omega) (by omega) (by omega) (by omega), oP m' b' hm b0' b1 0 (by omega) (by omega), oP m' b' hm b0' b1 1 (by omega) (by omega), oP m' b' hm b0' b1 2 (by omega) (by omega), oP m' b' hm b0' b1 3 (by omega) (by omega), oC m' b' hm b0' b1 0 (by omega) (by omega), oC m' b' hm b0' b1 1 (by omega) (by omega), oC m' b' hm b0' b1 2 (by omega) (by omega)]
        exact ⟨fun g y0 y1 => by rw [oP m' b' hm b0' b1 g y0 y1]; exact z1 g y0 y1, fun k y0 y1 => by rw [oC m' b' hm b0' b1 k y0 y1]; exact z2 k y0 y1, z3, z4, z5, z6, fun y p y0 y1 => by rw [show wSe w' (12 * m' + b') p = wSe w (12 * m' + b') p from eo 99 _ (by omega) (by omega) (by omega) (by omega)]; exact z7 y p y0 y1, z8, fun y k y0 y1 => by rw [show wL w' (12 * m' + b') k = wL w (12 * m' + b') k from eo 101 _ (by omega) (by omega) (by omega) (by omega)]; exact z9 y k y0 y1⟩
    · have := a8 s s0 s1
      unfold shOK at this ⊢
      rw [eK, show sIs w' s = sIs w s from eo 112 s (by omega) (by omega) (by omega) (by omega), show sSo w' s = sSo w s from eo 113 s (by omega) (by omega) (by omega) (by omega), show sSz w' s = sSz w s from eo 114 s (by omega) (by omega) (by omega) (by omega)]
      exact this
  · exact hS.C.kp (B _ _ (by omega) (by omega) (by omega)) eM eK (eo 91 19 (by omega) (by omega) (by omega) (by omega)) (fun i _ _ => eo 109 i (by omega) (by omega) (by omega) (by omega)) (fun i _ _ => eo 111 i (by omega) (by omega) (by omega) (by omega)) (eo 91 23 (by omega) (by omega) (by omega) (by omega)) (fun m' hm => aU_o _ _ (by have := lm hm; omega)) (fun k' k0 k1 => aU_o _ _ (by omega))
  · rw [lv] at hm
    have := lm hm
    by_cases e : m' = m
    · subst e
      obtain ⟨k1, k2, k3, k4, k5, k6, k7, k8, k9, k10, k11, k12, k13, k14, k15, k16, k17⟩ := hS.M hm
      have am' : aU A (10 + (12 * m' + wBx w m')) (gC h) m' = A m' := aU_o _ _ (by omega)
      obtain ⟨p1, -, p3, -, p5⟩ := low (A m') (by omega) (by omega)
      obtain ⟨q1, q2, -, -, q5⟩ := low (A m' + 1) (by omega) (by omega)
      obtain ⟨r1, r2, -, -, r5⟩ := low (A m' + 2) (by omega) (by omega)
      obtain ⟨s1, s2, s3, -, -⟩ := low (A m' + 3) (by omega) (by omega)
      unfold ObM
      rw [am', eGr, eCh, eB0, eH]
      refine ⟨by rw [p1, k1], by rw [p3 _ (by omega), k2], by rw [p3 _ (by omega), k3], f5, by rw [p3 _ (by omega), k5], by rw [p5 _ (by omega), k6], by rw [p5 _ (by omega), k7], by rw [p5 _ (by omega), k8], by rw [q1, k9], by rw [q2, k10], by rw [r1, k11], by rw [r2, k12], by rw [s1, k13], by rw [s2, k14], fun p p0 p1 => by rw [s3 _ (by omega), k15 p p0 p1, show wW w' m' p = wW w m' p from eo 102 _ (by omega) (by omega) (by omega) (by omega)], fun b' y0 y1 => ?_, fun k' y0 y1 => ?_⟩
      · by_cases z : b' = wBx w m'
        · rw [z, rb, aU_at]
        · rw [q5 _ (by omega), k16 b' y0 (by omega), aU_o _ _ (by omega)]
      · rw [r5 _ (by omega), k17 k' y0 y1, aU_o _ _ (by have := lh hm y0 y1; omega)]
    · have l0' := hm.1
      have am' := hS.aM hm
      have sp := sep m' (Or.inl hm) e
      rw [szM hm] at sp
      have tm' := hS.tM hm
      exact (hS.M hm).kp (B _ _ tm' (by omega) (by omega)) (aU_o _ _ (by omega)) (eGr m') (eCh m') (eB m' e) (eH m') (fun p _ _ => eo 102 _ (by omega) (by omega) (by omega) (by omega)) (fun b y z => aU_o _ _ (by have := oldb m' b hm y z; omega)) (fun k y z => aU_o _ _ (by have := lh hm y z; omega))
  · have hm' := hm
    rw [lv] at hm
    have := lm hm
    rcases oldw m' b' hm' b0' b1' with ⟨rfl, rfl⟩ | b1
    · obtain ⟨n1, n2, n3, n4, n5, n6, n7, n8, n9, n10, n11, n12, n13, n14, n15, n16, n17, n18⟩ := N
      unfold ObB
      rw [aU_at, aU_o _ _ (by omega), wo, ws, wv, eCh, eGr]
      refine ⟨n1, n2, n3, n4, n5, n6, n7, n8, n9, n10, fun g y0 y1 => ?_, fun k y0 y1 => ?_, fun k y0 y1 => ⟨fun y => by omega, fun _ => n13 _⟩, fun p y0 y1 => ?_, n15, n16, n17⟩
      · obtain ⟨g', rfl⟩ : ∃ g' : Nat, g = g' := ⟨g.toNat, by omega⟩
        rw [nP g' (by omega), Int.toNat_natCast, n11]
        by_cases q : g' < G
        · rw [if_pos q, if_pos q]
        · rw [if_neg q, if_neg q]
      · obtain ⟨k', rfl⟩ : ∃ k' : Nat, k = k' := ⟨k.toNat, by omega⟩
        rw [wc k' (by omega), Int.toNat_natCast, n12]
        by_cases q : k' < C
        · rw [if_pos q, if_pos q]
        · rw [if_neg q, if_neg q]
      · rw [if_neg (by omega)]
        exact n14 _
    · have ob := oldb m' b' hm b0' b1
      have bb := lb hm b0' b1
      have gg := (hW.mat hm).1
      have := hS.aB hm b0' b1
      have tb := hS.tB hm b0' b1
      have sp := sep _ (Or.inr (Or.inl ⟨m', b', hm, b0', b1, rfl⟩)) (by omega)
      rw [szB hm b0' b1] at sp
      exact (hS.B hm b0' b1).kp (B _ _ tb (by omega) (by omega)) (aU_o _ _ (by omega)) (aU_o _ _ (by omega)) (eGr m') (fun g y0 y1 => oP m' b' hm b0' b1 g y0 y1) (fun k y0 y1 => oC m' b' hm b0' b1 k y0 y1) (eo 100 _ (by omega) (by omega) (by omega) (by omega)) (fun k _ _ => eo 101 _ (by omega) (by omega) (by omega) (by omega)) (eo 98 _ (by omega) (by omega) (by omega) (by omega)) (fun p _ _ => eo 99 _ (by omega) (by omega) (by omega) (by omega)) (eo 97 _ (by omega) (by omega) (by omega) (by omega)) (eCh m')
  · rw [lv] at hm
    rw [eH] at k1
    have := lm hm
    have := lh hm k0 k1
    have := hS.aH hm k0 k1
    have th := hS.tH hm k0 k1
    have sp := sep _ (Or.inr (Or.inr (Or.inl ⟨m', k', hm, k0, k1, rfl⟩))) (by omega)
    rw [szH hm k0 k1] at sp
    exact (hS.H hm k0 k1).kp (B _ _ th (by omega) (by omega)) (aU_o _ _ (by omega)) (eo 104 _ (by omega) (by omega) (by omega) (by omega)) (eo 105 _ (by omega) (by omega) (by omega) (by omega)) (eo 106 _ (by omega) (by omega) (by omega) (by omega)) (eo 107 _ (by omega) (by omega) (by omega) (by omega)) (eo 108 _ (by omega) (by omega) (by omega) (by omega))
  · rw [eK] at k1
    have := hS.aK k0 k1
    have tk := hS.tK k0 k1
    have sp := sep _ (Or.inr (Or.inr (Or.inr ⟨k', k0, k1, rfl⟩))) (by omega)
    rw [show sz (110 + k') = 1 by unfold sz; rw [if_neg (by omega), if_neg (by omega)]] at sp
    exact (hS.K k0 k1).kp (B _ _ tk (by omega) (by omega)) (aU_o _ _ (by omega)) (eo 110 _ (by omega) (by omega) (by omega) (by omega))
  · have := (a8 s' s0' s1').1
    exact (hS.S s0' s1').kp (B _ _ (by omega) (by omega) (by omega)) (eo 113 _ (by omega) (by omega) (by omega) (by omega)) (eo 114 _ (by omega) (by omega) (by omega) (by omega)) (eo 112 _ (by omega) (by omega) (by omega) (by omega)) (fun _ => aU_o _ _ (by omega)) (fun i _ _ => by unfold sEl; rw [e2])
  · refine hS.sep.add (q0 := 10 + (12 * m + wBx w m)) (fun q hq => ?_) (Nat.le_refl _) hGc ?_
    · unfold lvq at hq ⊢
      rcases hq with z | ⟨m', b', z1, z2, z3, z4⟩ | ⟨m', k', z1, z2, z3, z4⟩ | ⟨k', z1, z2, z3⟩
      · rw [lv] at z
        have := lm z
        exact Or.inr ⟨by omega, Or.inl z⟩
      · rcases oldw m' b' z1 z2 z3 with ⟨rfl, rfl⟩ | y
        · exact Or.inl z4
        · rw [lv] at z1
          have := oldb m' b' z1 z2 y
          exact Or.inr ⟨by omega, Or.inr (Or.inl ⟨m', b', z1, z2, y, z4⟩)⟩
      · rw [lv] at z1
        rw [eH] at z3
        have := lm z1
        have := lh z1 z2 z3
        exact Or.inr ⟨by omega, Or.inr (Or.inr (Or.inl ⟨m', k', z1, z2, z3, z4⟩))⟩
      · rw [eK] at z2
        exact Or.inr ⟨by omega, Or.inr (Or.inr (Or.inr ⟨k', z1, z2, z3⟩))⟩
    · rw [gCe, show sz (10 + (12 * m + wBx w m)) = 5 by unfold sz; rw [if_neg (by omega), if_pos (by omega)]]
      exact Nat.le_refl _
  · have hm' := hm
    rw [lv] at hm
    have := lm hm
    rcases oldw m' b' hm' b0' b1' with ⟨rfl, rfl⟩ | b1
    · rw [aU_at]
      exact Or.inl N.2.2.2.2.2.2.2.2.2.2.2.2.2.2.2.2.2
    · have ob := oldb m' b' hm b0' b1
      have bb := lb hm b0' b1
      have := hS.aB hm b0' b1
      have tb := hS.tB hm b0' b1
      have sp := sep _ (Or.inr (Or.inl ⟨m', b', hm, b0', b1, rfl⟩)) (by omega)
      rw [szB hm b0' b1] at sp
      have y := hS.wy m' b' hm b0' b1
      rw [aU_o _ _ (by omega), ((B _ _ tb (by omega) (by omega)) _ (Nat.le_refl _) (by omega)).2.2.2.1]
      unfold cnX at y ⊢
      rw [oP m' b' hm b0' b1 0 (by omega) (by omega), oP m' b' hm b0' b1 1 (by omega) (by omega), oP m' b' hm b0' b1 2 (by omega) (by omega), oP m' b' hm b0' b1 3 (by omega) (by omega), oC m' b' hm b0' b1 0 (by omega) (by omega), oC m' b' hm b0' b1 1 (by omega) (by omega), oC m' b' hm b0' b1 2 (by omega) (by omega)]
      exact y
end Q
