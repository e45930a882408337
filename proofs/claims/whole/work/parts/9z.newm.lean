/-! a matter more -/
section Q
variable {w w' : WD} {A A' : Int → Nat} {h h' h1 hc hq : AH} {m : Int}
/-- the world is the same for all that lived -/
def Elm (w w' : WD) : Prop := (w'.1 91 0 = wM w + 1 ∧ w'.1 91 20 = w.1 91 20) ∧ (∀ (a : Nat) (i : Int), (a = 99 ∨ a = 101 ∨ 104 ≤ a ∧ a ≤ 108 ∨ a = 110) → w'.1 a i = w.1 a i) ∧ (∀ m : Int, lvM w m → (∀ a : Nat, (92 ≤ a ∧ a ≤ 94 ∨ a = 103) → w'.1 a m = w.1 a m) ∧ ∀ p : Int, 0 ≤ p → p < 12 → w'.1 102 (12 * m + p) = w.1 102 (12 * m + p)) ∧ ∀ m b : Int, lvM w m → 0 ≤ b → b < wBx w m → (∀ g : Int, 0 ≤ g → g < 4 → w'.1 95 (4 * (12 * m + b) + g) = w.1 95 (4 * (12 * m + b) + g)) ∧ (∀ k : Int, 0 ≤ k → k < 3 → w'.1 96 (3 * (12 * m + b) + k) = w.1 96 (3 * (12 * m + b) + k)) ∧ ∀ a : Nat, (a = 97 ∨ a = 98 ∨ a = 100) → w'.1 a (12 * m + b) = w.1 a (12 * m + b)
theorem Sim.newM (hS : Sim w A h) {a : Nat} (m4 : wM w < 4) (e : Elm w w') (ng : 2 ≤ wGr w' (wM w) ∧ wGr w' (wM w) ≤ 4) (nc : 2 ≤ wCh w' (wM w) ∧ wCh w' (wM w) ≤ 3) (nb : wBx w' (wM w) = 0) (nh : wH w' (wM w) = 0) (nww : ∀ p : Int, 0 ≤ p → p < 12 → wW w' (wM w) p = 0) (F : Fix h') (R : RR w' h') (t : 0 ≤ wT w' ∧ wT w' ≤ 200) (ta : ∀ i : Int, 0 ≤ i → i < 200 → 0 ≤ wTa w' i ∧ wTa w' i ≤ 255) (sh : ∀ s : Int, 0 ≤ s → s < 6 → shOK w' s) (bo : 0 ≤ wBo w' ∧ wBo w' ≤ 100000) (C : Cls w' (aU A (wM w) a) h') (S : ∀ s : Int, 0 ≤ s → s < 6 → ObS w' (aU A (wM w) a) h' s) (OM : ObM w' (aU A (wM w) a) h' (wM w)) (B : ∀ b n : Nat, 121 ≤ b → b + n ≤ gC h → Blk h h' b n) (ga : gC h ≤ a) (g : a + 4 ≤ gC h') : Sim w' (aU A (wM w) a) h' := by
  obtain ⟨⟨eM, eK⟩, eo, em, eb⟩ := e
  change wM w' = wM w + 1 at eM
  change wK w' = wK w at eK
  have hW := hS.W
  have hGc := hS.gc
  obtain ⟨a1, a2, a3, a4, a5, a6, a7, a8, a9⟩ := id hW
  have lv : ∀ m, lvM w' m → m = wM w ∨ (m ≠ wM w ∧ lvM w m) := fun m hm => by
    obtain ⟨x, y⟩ := hm
    by_cases z : m = wM w
    · exact Or.inl z
    · exact Or.inr ⟨z, x, by omega⟩
  have lm : ∀ {m}, lvM w m → 0 ≤ m ∧ m < 4 ∧ m ≠ wM w := fun {m} hm => ⟨hm.1, by have := hm.2; omega, by have := hm.2; omega⟩
  have lb : ∀ {m b}, lvM w m → 0 ≤ b → b < wBx w m → b < 12 := fun {m b} hm b0 b1 => by have := (hW.mat hm).2.2.1; omega
  have lh : ∀ {m k}, lvM w m → 0 ≤ k → k < wH w m → k < 8 := fun {m k} hm b0 b1 => by have := (hW.mat hm).2.2.2.1; omega
  have eGr : ∀ {m}, lvM w m → wGr w' m = wGr w m := fun {m} hm => (em m hm).1 92 (by omega)
  have eCh : ∀ {m}, lvM w m → wCh w' m = wCh w m := fun {m} hm => (em m hm).1 93 (by omega)
  have eB : ∀ {m}, lvM w m → wBx w' m = wBx w m := fun {m} hm => (em m hm).1 94 (by omega)
  have eH : ∀ {m}, lvM w m → wH w' m = wH w m := fun {m} hm => (em m hm).1 103 (by omega)
  have eW : ∀ {m}, lvM w m → ∀ p : Int, 0 ≤ p → p < 12 → wW w' m p = wW w m p := fun {m} hm p p0 p1 => (em m hm).2 p p0 p1
  have eP : ∀ m b : Int, lvM w m → 0 ≤ b → b < wBx w m → ∀ g : Int, 0 ≤ g → g < 4 → wP w' m (12 * m + b) g = wP w m (12 * m + b) g := fun m b hm b0 b1 g g0 g1 => by
    unfold wP wG
    rw [eGr hm, (eb m b hm b0 b1).1 g g0 g1]
  have eC : ∀ m b : Int, lvM w m → 0 ≤ b → b < wBx w m → ∀ k : Int, 0 ≤ k → k < 3 → wC w' (12 * m + b) k = wC w (12 * m + b) k := fun m b hm b0 b1 k k0 k1 => (eb m b hm b0 b1).2.1 k k0 k1
  have e3 : ∀ m b : Int, lvM w m → 0 ≤ b → b < wBx w m → wV w' (12 * m + b) = wV w (12 * m + b) ∧ wO w' (12 * m + b) = wO w (12 * m + b) ∧ wS2 w' (12 * m + b) = wS2 w (12 * m + b) := fun m b hm b0 b1 => ⟨(eb m b hm b0 b1).2.2 97 (by omega), (eb m b hm b0 b1).2.2 98 (by omega), (eb m b hm b0 b1).2.2 100 (by omega)⟩
  have lq : ∀ q, lvq w' q → q = wM w ∨ (q ≠ wM w ∧ lvq w q) := fun q hq => by
    unfold lvq at hq ⊢
    rcases hq with z | ⟨m', b', z1, z2, z3, z4⟩ | ⟨m', k', z1, z2, z3, z4⟩ | ⟨k', z1, z2, z3⟩
    · rcases lv q z with y | ⟨y, y2⟩
      · exact Or.inl y
      · exact Or.inr ⟨y, Or.inl y2⟩
    · rcases lv m' z1 with y | ⟨y, y2⟩
      · subst y; omega
      · rw [eB y2] at z3
        have := lm y2
        exact Or.inr ⟨by omega, Or.inr (Or.inl ⟨m', b', y2, z2, z3, z4⟩)⟩
    · rcases lv m' z1 with y | ⟨y, y2⟩
      · subst y; omega
      · rw [eH y2] at z3
        have := lm y2
        exact Or.inr ⟨by omega, Or.inr (Or.inr (Or.inl ⟨m', k', y2, z2, z3, z4⟩))⟩
    · rw [eK] at z2
      exact Or.inr ⟨by omega, Or.inr (Or.inr (Or.inr ⟨k', z1, z2, z3⟩))⟩
  refine ⟨F, R, ?_, C, fun m hm => ?_, fun m b hm b0 b1 => ?_, fun m k hm k0 k1 => ?_, fun k k0 k1 => ?_, S, ?_, by omega, fun m b hm b0 b1 => ?_⟩
  · refine ⟨by rw [eM]; omega, t, by rw [eK]; exact a3, ta, fun k k0 k1 => ?_, fun m hm => ?_, fun m b hm b0 b1 => ?_, sh, bo⟩
    · rw [show wKi w' k = wKi w k from eo 110 k (by omega)]
      exact a5 k k0 (by omega)
    · rcases lv m hm with y | ⟨y, hm⟩
      · subst y
        exact ⟨ng, nc, by omega, by omega, fun p p0 p1 => by rw [nww p p0 p1]; omega, fun k k0 k1 => by omega⟩
      · obtain ⟨y1, y2, y3, y4, y5, y6⟩ := a6 m hm
        unfold matOK
        rw [eGr hm, eCh hm, eB hm, eH hm]
        refine ⟨y1, y2, y3, y4, fun p p0 p1 => by rw [eW hm p p0 p1]; exact y5 p p0 p1, fun k k0 k1 => ?_⟩
        have := y6 k k0 k1
        unfold heldOK at *
        rw [show hSo w' (12 * m + k) = hSo w (12 * m + k) from eo 104 _ (by omega), show hCe w' (12 * m + k) = hCe w (12 * m + k) from eo 105 _ (by omega), show hBo w' (12 * m + k) = hBo w (12 * m + k) from eo 106 _ (by omega), show hOt w' (12 * m + k) = hOt w (12 * m + k) from eo 107 _ (by omega), show hMu w' (12 * m + k) = hMu w (12 * m + k) from eo 108 _ (by omega), eGr hm, eCh hm, eB hm]
        exact this
    · rcases lv m hm with y | ⟨y, hm⟩
      · subst y; omega
      · rw [eB hm] at b1
        obtain ⟨z1, z2, z3, z4, z5, z6, z7, z8, z9⟩ := a7 m b hm b0 b1
        obtain ⟨v1, v2, v3⟩ := e3 m b hm b0 b1
        unfold boxOK
        rw [eGr hm, eCh hm, v1, v2, v3, eP m b hm b0 b1 0 (by omega) (by omega), eP m b hm b0 b1 1 (by omega) (by omega), eP m b hm b0 b1 2 (by omega) (by omega), eP m b hm b0 b1 3 (by omega) (by omega), eC m b hm b0 b1 0 (by omega) (by omega), eC m b hm b0 b1 1 (by omega) (by omega), eC m b hm b0 b1 2 (by omega) (by omega)]
        exact ⟨fun g y0 y1 => by rw [eP m b hm b0 b1 g y0 y1]; exact z1 g y0 y1, fun k y0 y1 => by rw [eC m b hm b0 b1 k y0 y1]; exact z2 k y0 y1, z3, z4, z5, z6, fun y p y0 y1 => by rw [show wSe w' (12 * m + b) p = wSe w (12 * m + b) p from eo 99 _ (by omega)]; exact z7 y p y0 y1, z8, fun y k y0 y1 => by rw [show wL w' (12 * m + b) k = wL w (12 * m + b) k from eo 101 _ (by omega)]; exact z9 y k y0 y1⟩
  · rcases lv m hm with y | ⟨y, hm⟩
    · subst y; exact OM
    · have := lm hm
      exact (hS.M hm).kp (B _ _ (hS.aM hm) (hS.tM hm)) (aU_o _ _ (by omega)) (eGr hm) (eCh hm) (eB hm) (eH hm) (fun p p0 p1 => eW hm p p0 p1) (fun b y z => aU_o _ _ (by omega)) (fun k y z => aU_o _ _ (by omega))
  · rcases lv m hm with y | ⟨y, hm⟩
    · subst y; omega
    · have := lm hm
      rw [eB hm] at b1
      obtain ⟨v1, v2, v3⟩ := e3 m b hm b0 b1
      exact (hS.B hm b0 b1).kp (B _ _ (hS.aB hm b0 b1) (hS.tB hm b0 b1)) (aU_o _ _ (by omega)) (aU_o _ _ (by omega)) (eGr hm) (fun g y0 y1 => eP m b hm b0 b1 g y0 y1) (fun k y0 y1 => eC m b hm b0 b1 k y0 y1) v3 (fun _ _ _ => eo 101 _ (by omega)) v2 (fun _ _ _ => eo 99 _ (by omega)) v1 (eCh hm)
  · rcases lv m hm with y | ⟨y, hm⟩
    · subst y; omega
    · have := lm hm
      rw [eH hm] at k1
      exact (hS.H hm k0 k1).kp (B _ _ (hS.aH hm k0 k1) (hS.tH hm k0 k1)) (aU_o _ _ (by omega)) (eo 104 _ (by omega)) (eo 105 _ (by omega)) (eo 106 _ (by omega)) (eo 107 _ (by omega)) (eo 108 _ (by omega))
  · rw [eK] at k1
    exact (hS.K k0 k1).kp (B _ _ (hS.aK k0 k1) (hS.tK k0 k1)) (aU_o _ _ (by omega)) (eo 110 _ (by omega))
  · refine hS.sep.add lq ga hGc ?_
    rw [show sz (wM w) = 4 by unfold sz; rw [if_pos (by omega)]]
    exact g
  · rcases lv m hm with y | ⟨y, hm⟩
    · subst y; omega
    · have := lm hm
      rw [eB hm] at b1
      have z := (B _ _ (hS.aB hm b0 b1) (hS.tB hm b0 b1) _ (Nat.le_refl _) (by omega)).2.2.2.1
      have ec : cnX w' m (12 * m + b) = cnX w m (12 * m + b) := by
        unfold cnX
        rw [eP m b hm b0 b1 0 (by omega) (by omega), eP m b hm b0 b1 1 (by omega) (by omega), eP m b hm b0 b1 2 (by omega) (by omega), eP m b hm b0 b1 3 (by omega) (by omega), eC m b hm b0 b1 0 (by omega) (by omega), eC m b hm b0 b1 1 (by omega) (by omega), eC m b hm b0 b1 2 (by omega) (by omega)]
      rw [aU_o _ _ (by omega), z, ec]
      exact hS.wy m b hm b0 b1
/-- one box comes on both sides, whatever else stands beside -/
theorem Sim.both2 {hd q1 : AH} {G C B : Nat} {u : Nat → Int} (hS : Sim w A (mixH hc hq)) (hl : lvM w m) (hG : (G : Int) = wGr w m) (hC : (C : Int) = wCh w m) (eb : wBx w m = (B : Int)) (b12 : B < 12) (ok : AdOK G C u) (nw : NewW w w' m G C u) (k1 : ∀ a, gK q1 a = gK hq a) (n1 : ∀ a, gN q1 a = gN hq a) (r1 : ∀ a j, gR q1 a j = gR hq a j) (R1 : RR w' q1) (low : ∀ a, a < gC hc → gK hd a = gK hc a ∧ gN hd a = gN hc a ∧ (∀ i, (a ≠ A m ∨ i ≠ 5) → gI hd a i = gI hc a i) ∧ (∀ i, gJ hd a i = gJ hc a i) ∧ ∀ i, (a ≠ A m + 1 ∨ i ≠ B) → gR hd a i = gR hc a i) (f5 : gI hd (A m) 5 = iv ((B : Int) + 1)) (rb : gR hd (A m + 1) B = gC hc) (NB : NewB hd (gC hc) (A m) G C u) (gCe : gC hd = gC hc + 5) : Sim w' (aU A (10 + (12 * m + wBx w m)) (gC hc)) (mixH hd q1) := by
  have am := hS.aM hl
  have tm := hS.tM hl
  rw [gC_mix] at tm
  have hg := hS.gc
  rw [gC_mix] at hg
  have bt : (wBx w m).toNat = B := by omega
  have F1 : Fix (mixH hd q1) := by
    refine hS.F.fr (fun a ha => ?_) (fun a ha => ?_) (fun a j ha _ _ _ => ?_)
    · by_cases z : 91 ≤ a ∧ a ≤ 115
      · rw [(mixQ z).1, (mixQ z).1, k1]
      · rw [(mixC (by omega)).1, (mixC (by omega)).1, (low a (by omega)).1]
    · by_cases z : 91 ≤ a ∧ a ≤ 115
      · rw [(mixQ z).2.1, (mixQ z).2.1, n1]
      · rw [(mixC (by omega)).2.1, (mixC (by omega)).2.1, (low a (by omega)).2.1]
    · by_cases z : 91 ≤ a ∧ a ≤ 115
      · rw [(mixQ z).2.2.2.2, (mixQ z).2.2.2.2, r1]
      · rw [(mixC (by omega)).2.2.2.2, (mixC (by omega)).2.2.2.2, (low a (by omega)).2.2.2.2 _ (by omega)]
  have key := hS.add hl (by omega) hG hC ok nw F1 (R1.mix _) (fun a ha z => ?_) ?_ ?_ ?_ ?_
  · rw [gC_mix] at key
    exact key
  · rw [gC_mix] at ha
    obtain ⟨c1, c2, c3, c4, c5⟩ := mixC (hc := hd) (hq := q1) z
    obtain ⟨d1, d2, d3, d4, d5⟩ := mixC (hc := hc) (hq := hq) z
    obtain ⟨l1, l2, l3, l4, l5⟩ := low a ha
    exact ⟨by rw [c1, d1, l1], by rw [c2, d2, l2], fun j y => by rw [c3, d3, l3 j y], fun j => by rw [c4, d4, l4], fun j y => by rw [c5, d5, l5 j (by omega)]⟩
  · rw [(mixC (by omega)).2.2.1, f5, eb]
  · rw [(mixC (by omega)).2.2.2.2, gC_mix, bt, rb]
  · rw [gC_mix]
    have z0 := mixC (hc := hd) (hq := q1) (a := gC hc) (by omega)
    have z1 := mixC (hc := hd) (hq := q1) (a := gC hc + 1) (by omega)
    have z2 := mixC (hc := hd) (hq := q1) (a := gC hc + 2) (by omega)
    have z3 := mixC (hc := hd) (hq := q1) (a := gC hc + 3) (by omega)
    have z4 := mixC (hc := hd) (hq := q1) (a := gC hc + 4) (by omega)
    obtain ⟨p1, p2, p3, p4, p5, p6, ⟨p7, p8⟩, ⟨p9, p10⟩, ⟨p11, p12⟩, ⟨p13, p14⟩, p15, p16, p17, p18, p19, p20, p21, p22⟩ := NB
    exact ⟨by rw [z0.1, p1], by rw [z0.2.2.2.2, p2], by rw [z0.2.2.2.2, p3], by rw [z0.2.2.2.2, p4], by rw [z0.2.2.2.2, p5], by rw [z0.2.2.2.2, p6], ⟨by rw [z1.1, p7], by rw [z1.2.1, p8]⟩, ⟨by rw [z2.1, p9], by rw [z2.2.1, p10]⟩, ⟨by rw [z3.1, p11], by rw [z3.2.1, p12]⟩, ⟨by rw [z4.1, p13], by rw [z4.2.1, p14]⟩, fun j => by rw [z1.2.2.1, p15], fun j => by rw [z2.2.2.1, p16], fun j => by rw [z3.2.2.1, p17], fun j => by rw [z4.2.2.1, p18], by rw [z0.2.2.1, p19], by rw [z0.2.2.1, p20], by rw [z0.2.2.1, p21], by rw [z0.2.2.2.1, p22]⟩
  · rw [gC_mix, gC_mix, gCe]
end Q
