/-! a matter that comes -/
section Q
variable {w w' : WD} {A A' : Int → Nat} {h h' h1 h2 hF : AH} {m K G C : Nat} {us : Nat → Nat → Int}
def fixH (hc : AH) (m a : Nat) : AH := sI (sR hc 7 m a) 3 9 (iv ((m : Int) + 1))
theorem fixH_o {hc : AH} {a b : Nat} (z3 : b ≠ 3) (z7 : b ≠ 7) : gK (fixH hc m a) b = gK hc b ∧ gN (fixH hc m a) b = gN hc b ∧ (∀ i, gI (fixH hc m a) b i = gI hc b i) ∧ (∀ i, gJ (fixH hc m a) b i = gJ hc b i) ∧ ∀ i, gR (fixH hc m a) b i = gR hc b i := ⟨rfl, rfl, fun i => gI_sIo _ _ (Or.inl z3), fun _ => rfl, fun i => gR_sRo _ _ (Or.inl z7)⟩
theorem mt_ok (hS : Sim w A h) (hm : (m : Int) = wM w) (m4 : m < 4) (M : CM h h1 0) (k12 : K ≤ 12) (g2 : 2 ≤ G) (g4 : G ≤ 4) (c2 : 2 ≤ C) (c3 : C ≤ 3) (ok : ∀ j, j < K → AdOK G C (us j)) (kF : ∀ a, gK hF a = gK (fixH (nbH (sI h1 4 2 (iv 0)) G C us K) m (gC h)) a) (nF : ∀ a, gN hF a = gN (fixH (nbH (sI h1 4 2 (iv 0)) G C us K) m (gC h)) a) (rF : ∀ a i, gR hF a i = gR (fixH (nbH (sI h1 4 2 (iv 0)) G C us K) m (gC h)) a i) (jF : ∀ a i, gJ hF a i = gJ (fixH (nbH (sI h1 4 2 (iv 0)) G C us K) m (gC h)) a i) (cF : gC hF = gC (fixH (nbH (sI h1 4 2 (iv 0)) G C us K) m (gC h))) (iF : ∀ a i : Nat, (a ≠ 91 ∨ (i ≠ 28 ∧ i ≠ 19 ∧ i ≠ 0)) → ¬ ZM m 1 a i → gI hF a i = gI (fixH (nbH (sI h1 4 2 (iv 0)) G C us K) m (gC h)) a i) (v0 : gI hF 91 0 = iv ((m : Int) + 1)) (v19 : gI hF 91 19 = iv 0) (V : MaV hF m K G C us) (B3 : ∀ j, j < K → gI hF 97 (12 * m + j) = iv (suU (us j) G) ∧ gI hF 98 (12 * m + j) = iv 0 ∧ gI hF 100 (12 * m + j) = iv 0) (z102 : ∀ p, p < 12 → gI hF 102 (12 * m + p) = iv 0) (z103 : gI hF 103 m = iv 0) : ∃ w' A', Sim w' A' hF := by
  have hW := hS.W
  have hGc := hS.gc
  obtain ⟨a1, a2, a3, a4, a5, a6, a7, a8, a9⟩ := id hW
  obtain ⟨k1, n1, r1, j1, c1, s1, i1⟩ := M
  have mt : (m : Int).toNat = m := Int.toNat_natCast m
  have gC2 : gC (sI h1 4 2 (iv 0)) = gC h := c1
  -- cells of the one side, at each stage
  have st : ∀ j a, a < gC h → gK (nbH (sI h1 4 2 (iv 0)) G C us j) a = gK h a ∧ gN (nbH (sI h1 4 2 (iv 0)) G C us j) a = gN h a ∧ (∀ i, (a ≠ 4 ∨ i < 2 ∨ 6 < i) → a ≠ 6 → gI (nbH (sI h1 4 2 (iv 0)) G C us j) a i = gI h a i) ∧ (∀ i, gJ (nbH (sI h1 4 2 (iv 0)) G C us j) a i = gJ h a i) ∧ ∀ i, gR (nbH (sI h1 4 2 (iv 0)) G C us j) a i = gR h a i := fun j a ha => by
    obtain ⟨p1, p2, p3, p4, p5⟩ := (nbH_inv (h := sI h1 4 2 (iv 0)) (G := G) (C := C) (us := us) j).2.2.1 a (by omega)
    exact ⟨p1.trans (k1 a), p2.trans (n1 a), fun i y z => by rw [p3, gI_sIo _ _ (by omega), i1 a i (by omega) (by omega)], fun i => (p4 i).trans (j1 a i), fun i => (p5 i).trans (r1 a i)⟩
  have qF : ∀ a, 91 ≤ a → a ≤ 115 → gK hF a = gK h a ∧ gN hF a = gN h a ∧ (∀ i, gJ hF a i = gJ h a i) ∧ ∀ i, gR hF a i = gR h a i := fun a y z => by
    obtain ⟨p1, p2, p3, p4, p5⟩ := fixH_o (hc := nbH (sI h1 4 2 (iv 0)) G C us K) (m := m) (a := gC h) (b := a) (by omega) (by omega)
    obtain ⟨o1, o2, o3, o4, o5⟩ := st K a (by omega)
    exact ⟨by rw [kF, p1, o1], by rw [nF, p2, o2], fun i => by rw [jF, p4, o4], fun i => by rw [rF, p5, o5]⟩
  have iq : ∀ a i : Nat, 91 ≤ a → a ≤ 115 → (a ≠ 91 ∨ (i ≠ 28 ∧ i ≠ 19 ∧ i ≠ 0)) → ¬ ZM m 1 a i → gI hF a i = gI h a i := fun a i y1 y2 y3 y4 => by
    rw [iF a i y3 y4, (fixH_o (hc := nbH (sI h1 4 2 (iv 0)) G C us K) (m := m) (a := gC h) (b := a) (by omega) (by omega)).2.2.1, (st K a (by omega)).2.2.1 i (by omega) (by omega)]
  have RF : RR (mtW w hF m 1 ((m : Int) + 1)) hF := mtW_RR hS.R (fun a i z1 z2 y => iq a i (by omega) (by omega) (by omega) y) (fun i => (qF 115 (by omega) (by omega)).2.2.1 i) v0 v19 (iq _ _ (by omega) (by omega) (by omega) (by unfold ZM; omega)) (iq _ _ (by omega) (by omega) (by omega) (by unfold ZM; omega))
  have Rj : ∀ j : Nat, RR (wZ (mtW w hF m 1 ((m : Int) + 1)) 94 m j) (sI hF 94 m (iv j)) := fun j => by
    have := RR_wZ (a := 94) (z := m) (v := j) RF (by omega) (by omega) (by omega)
    rw [mt] at this
    exact this
  obtain ⟨⟨y92, y93, y94⟩, yv⟩ := V
  have ow : ∀ (j : Nat) (a : Nat) (z : Int), ¬ ZM m 1 a z → (a ≠ 91 ∨ (z ≠ 0 ∧ z ≠ 19)) → (wZ (mtW w hF m 1 ((m : Int) + 1)) 94 m j).1 a z = w.1 a z := fun j a z y1 y2 => by
    rw [wZ_o _ (by unfold ZM at y1; omega)]
    exact mtW_o y1 y2
  have eM : ∀ j : Nat, wM (wZ (mtW w hF m 1 ((m : Int) + 1)) 94 m j) = m + 1 := fun j => (wZ_o _ (by omega)).trans mtW_M
  have eT : ∀ j : Nat, wT (wZ (mtW w hF m 1 ((m : Int) + 1)) 94 m j) = 0 := fun j => (wZ_o _ (by omega)).trans mtW_T
  have eG : ∀ j : Nat, wGr (wZ (mtW w hF m 1 ((m : Int) + 1)) 94 m j) m = G := fun j => by
    refine (wZ_o _ (by omega)).trans ((mtW_i (by unfold ZM; omega)).trans ?_)
    rw [mt, y92, iv_int (by omega) (by omega)]
  have eC : ∀ j : Nat, wCh (wZ (mtW w hF m 1 ((m : Int) + 1)) 94 m j) m = C := fun j => by
    refine (wZ_o _ (by omega)).trans ((mtW_i (by unfold ZM; omega)).trans ?_)
    rw [mt, y93, iv_int (by omega) (by omega)]
  have eB : ∀ j : Nat, wBx (wZ (mtW w hF m 1 ((m : Int) + 1)) 94 m j) m = j := fun j => wZ_at _ _ _ _
  have eH : ∀ j : Nat, wH (wZ (mtW w hF m 1 ((m : Int) + 1)) 94 m j) m = 0 := fun j => by
    refine (wZ_o _ (by omega)).trans ((mtW_i (by unfold ZM; omega)).trans ?_)
    rw [mt, z103, iv_int (by omega) (by omega)]
  have eW : ∀ j : Nat, ∀ p : Int, 0 ≤ p → p < 12 → wW (wZ (mtW w hF m 1 ((m : Int) + 1)) 94 m j) m p = 0 := fun j p p0 p1 => by
    refine (wZ_o _ (by omega)).trans ((mtW_i (by unfold ZM; omega)).trans ?_)
    have := z102 p.toNat (by omega)
    rw [show (12 * (m : Int) + p).toNat = 12 * m + p.toNat by omega, this, iv_int (by omega) (by omega)]
  have cell : ∀ j b, b ≠ 3 → b ≠ 7 → (b < 91 ∨ 115 < b) → gK (mixH (fixH (nbH (sI h1 4 2 (iv 0)) G C us j) m (gC h)) (sI hF 94 m (iv j))) b = gK (nbH (sI h1 4 2 (iv 0)) G C us j) b ∧ gN (mixH (fixH (nbH (sI h1 4 2 (iv 0)) G C us j) m (gC h)) (sI hF 94 m (iv j))) b = gN (nbH (sI h1 4 2 (iv 0)) G C us j) b ∧ (∀ i, gI (mixH (fixH (nbH (sI h1 4 2 (iv 0)) G C us j) m (gC h)) (sI hF 94 m (iv j))) b i = gI (nbH (sI h1 4 2 (iv 0)) G C us j) b i) ∧ (∀ i, gJ (mixH (fixH (nbH (sI h1 4 2 (iv 0)) G C us j) m (gC h)) (sI hF 94 m (iv j))) b i = gJ (nbH (sI h1 4 2 (iv 0)) G C us j) b i) ∧ ∀ i, gR (mixH (fixH (nbH (sI h1 4 2 (iv 0)) G C us j) m (gC h)) (sI hF 94 m (iv j))) b i = gR (nbH (sI h1 4 2 (iv 0)) G C us j) b i := fun j b y3 y7 y => by
    obtain ⟨p1, p2, p3, p4, p5⟩ := mixC (hc := fixH (nbH (sI h1 4 2 (iv 0)) G C us j) m (gC h)) (hq := sI hF 94 m (iv j)) y
    obtain ⟨o1, o2, o3, o4, o5⟩ := fixH_o (hc := nbH (sI h1 4 2 (iv 0)) G C us j) (m := m) (a := gC h) y3 y7
    exact ⟨p1.trans o1, p2.trans o2, fun i => (p3 i).trans (o3 i), fun i => (p4 i).trans (o4 i), fun i => (p5 i).trans (o5 i)⟩
  have hc3 : ∀ j, gK (mixH (fixH (nbH (sI h1 4 2 (iv 0)) G C us j) m (gC h)) (sI hF 94 m (iv j))) 3 = gK h 3 ∧ gN (mixH (fixH (nbH (sI h1 4 2 (iv 0)) G C us j) m (gC h)) (sI hF 94 m (iv j))) 3 = gN h 3 ∧ ∀ i, gR (mixH (fixH (nbH (sI h1 4 2 (iv 0)) G C us j) m (gC h)) (sI hF 94 m (iv j))) 3 i = gR h 3 i := fun j => by
    obtain ⟨p1, p2, p3, p4, p5⟩ := mixC (hc := fixH (nbH (sI h1 4 2 (iv 0)) G C us j) m (gC h)) (hq := sI hF 94 m (iv j)) (a := 3) (by omega)
    obtain ⟨q1, q2, q3, q4, q5⟩ := st j 3 (by omega)
    exact ⟨p1.trans q1, p2.trans q2, fun i => (p5 i).trans ((gR_sRo _ _ (by omega)).trans (q5 i))⟩
  have hc7 : ∀ j, gK (mixH (fixH (nbH (sI h1 4 2 (iv 0)) G C us j) m (gC h)) (sI hF 94 m (iv j))) 7 = gK h 7 ∧ gN (mixH (fixH (nbH (sI h1 4 2 (iv 0)) G C us j) m (gC h)) (sI hF 94 m (iv j))) 7 = gN h 7 := fun j => by
    obtain ⟨p1, p2, p3, p4, p5⟩ := mixC (hc := fixH (nbH (sI h1 4 2 (iv 0)) G C us j) m (gC h)) (hq := sI hF 94 m (iv j)) (a := 7) (by omega)
    obtain ⟨q1, q2, q3, q4, q5⟩ := st j 7 (by omega)
    exact ⟨p1.trans q1, p2.trans q2⟩
  have FX : ∀ j, Fix (mixH (fixH (nbH (sI h1 4 2 (iv 0)) G C us j) m (gC h)) (sI hF 94 m (iv j))) := fun j => by
    refine hS.F.fr (fun a ha => ?_) (fun a ha => ?_) (fun a i ha y7 y8 y => ?_)
    · by_cases z : 91 ≤ a ∧ a ≤ 115
      · rw [(mixQ z).1, gK_sI, (qF a z.1 z.2).1]
      · by_cases z3 : a = 3
        · rw [z3]; exact (hc3 j).1
        · by_cases z7 : a = 7
          · rw [z7]; exact (hc7 j).1
          · rw [(cell j a z3 z7 (by omega)).1, (st j a (by omega)).1]
    · by_cases z : 91 ≤ a ∧ a ≤ 115
      · rw [(mixQ z).2.1, gN_sI, (qF a z.1 z.2).2.1]
      · by_cases z3 : a = 3
        · rw [z3]; exact (hc3 j).2.1
        · by_cases z7 : a = 7
          · rw [z7]; exact (hc7 j).2
          · rw [(cell j a z3 z7 (by omega)).2.1, (st j a (by omega)).2.1]
    · by_cases z : 91 ≤ a ∧ a ≤ 115
      · rw [(mixQ z).2.2.2.2, gR_sI, (qF a z.1 z.2).2.2.2]
      · by_cases z3 : a = 3
        · rw [z3]; exact (hc3 j).2.2 i
        · rw [(cell j a z3 y7 (by omega)).2.2.2.2, (st j a (by omega)).2.2.2.2]
  have gm : ∀ j, gC (mixH (fixH (nbH (sI h1 4 2 (iv 0)) G C us j) m (gC h)) (sI hF 94 m (iv j))) = gC h + 4 + 5 * j := fun j => by
    have := (nbH_inv (h := sI h1 4 2 (iv 0)) (G := G) (C := C) (us := us) j).1
    rw [gC_mix]
    show gC (nbH (sI h1 4 2 (iv 0)) G C us j) = _
    rw [this, gC2]
  have blk : ∀ c n : Nat, (c + n ≤ 3 ∨ 7 < c) → (c + n ≤ 91 ∨ 115 < c) → c + n ≤ gC h → Blk h (mixH (fixH (nbH (sI h1 4 2 (iv 0)) G C us 0) m (gC h)) (sI hF 94 m (iv (0 : Nat)))) c n := fun c n y1 y2 y3 a z1 z2 => by
    obtain ⟨p1, p2, p3, p4, p5⟩ := cell 0 a (by omega) (by omega) (by omega)
    obtain ⟨o1, o2, o3, o4, o5⟩ := st 0 a (by omega)
    exact ⟨p1.trans o1, p2.trans o2, fun i => (p3 i).trans (o3 i (by omega) (by omega)), fun i => (p4 i).trans (o4 i), fun i => (p5 i).trans (o5 i)⟩
  have base : Sim (wZ (mtW w hF m 1 ((m : Int) + 1)) 94 m (0 : Nat)) (aU A (wM w) (gC h)) (mixH (fixH (nbH (sI h1 4 2 (iv 0)) G C us 0) m (gC h)) (sI hF 94 m (iv (0 : Nat)))) := by
    refine hS.newM (by omega) ⟨⟨by rw [← hm]; exact eM 0, ow 0 91 20 (by unfold ZM; omega) (by omega)⟩, fun a i y => ow 0 a i (by unfold ZM; omega) (by omega), fun m' hm' => ⟨fun a y => ?_, fun p p0 p1 => ?_⟩, fun m' b hm' b0 b1 => ⟨fun g g0 g1 => ?_, fun k k0 k1 => ?_, fun a y => ?_⟩⟩ (by rw [← hm, eG]; omega) (by rw [← hm, eC]; omega) (by rw [← hm, eB]; rfl) (by rw [← hm, eH]) (fun p p0 p1 => by rw [← hm]; exact eW 0 p p0 p1) (FX 0) ((Rj 0).mix _) (by rw [eT]; omega) (fun i i0 i1 => ?_) (fun s s0 s1 => ?_) ?_ ?_ (fun s s0 s1 => ?_) ?_ (fun b n y z => blk b n (by omega) (by omega) z) (Nat.le_refl _) (by rw [gm]; omega)
    · have := hm'.2
      exact ow 0 a m' (by unfold ZM; omega) (by omega)
    · have := hm'.2
      exact ow 0 102 _ (by unfold ZM; omega) (by omega)
    · have := hm'.2
      have := (hW.mat hm').2.2.1
      exact ow 0 95 _ (by unfold ZM; omega) (by omega)
    · have := hm'.2
      have := (hW.mat hm').2.2.1
      exact ow 0 96 _ (by unfold ZM; omega) (by omega)
    · have := hm'.2
      have := (hW.mat hm').2.2.1
      exact ow 0 a _ (by unfold ZM; omega) (by omega)
    · rw [show wTa (wZ (mtW w hF m 1 ((m : Int) + 1)) 94 m (0 : Nat)) i = wTa w i from ow 0 109 i (by unfold ZM; omega) (by omega)]
      exact a4 i i0 i1
    · have := a8 s s0 s1
      unfold shOK at this ⊢
      rw [show wK (wZ (mtW w hF m 1 ((m : Int) + 1)) 94 m (0 : Nat)) = wK w from ow 0 91 20 (by unfold ZM; omega) (by omega), show sIs (wZ (mtW w hF m 1 ((m : Int) + 1)) 94 m (0 : Nat)) s = sIs w s from ow 0 112 s (by unfold ZM; omega) (by omega), show sSo (wZ (mtW w hF m 1 ((m : Int) + 1)) 94 m (0 : Nat)) s = sSo w s from ow 0 113 s (by unfold ZM; omega) (by omega), show sSz (wZ (mtW w hF m 1 ((m : Int) + 1)) 94 m (0 : Nat)) s = sSz w s from ow 0 114 s (by unfold ZM; omega) (by omega)]
      exact this
    · rw [show wBo (wZ (mtW w hF m 1 ((m : Int) + 1)) 94 m (0 : Nat)) = wBo w from ow 0 91 23 (by unfold ZM; omega) (by omega)]
      exact a9
    · obtain ⟨q1, q2, q3, q4, q5, q6, q7, q8⟩ := hS.C
      unfold Cls
      rw [eM, eT, show wK (wZ (mtW w hF m 1 ((m : Int) + 1)) 94 m (0 : Nat)) = wK w from ow 0 91 20 (by unfold ZM; omega) (by omega), show wBo (wZ (mtW w hF m 1 ((m : Int) + 1)) 94 m (0 : Nat)) = wBo w from ow 0 91 23 (by unfold ZM; omega) (by omega)]
      refine ⟨?_, ?_, ?_, fun i y z => ?_, fun i y z => ?_, ?_, fun m' hm' => ?_, fun k y z => ?_⟩
      · rw [(mixC (by omega)).2.2.1]
        exact gI_sIs _ _ _ _
      · rw [(mixC (by omega)).2.2.1]
        refine (gI_sIo _ _ (by omega)).trans ?_
        show gI (nbH (sI h1 4 2 (iv 0)) G C us 0) 3 10 = _
        rw [(st 0 3 (by omega)).2.2.1 _ (by omega) (by omega), q2]
      · rw [(cell 0 4 (by omega) (by omega) (by omega)).2.2.1, ((nbH_inv (h := sI h1 4 2 (iv 0)) (G := G) (C := C) (us := us) 0).2.2.1 4 (by omega)).2.2.1, gI_sIs]
      · rw [(cell 0 5 (by omega) (by omega) (by omega)).2.2.1, (st 0 5 (by omega)).2.2.1 _ (by omega) (by omega), q4 i y z, show wTa (wZ (mtW w hF m 1 ((m : Int) + 1)) 94 m (0 : Nat)) i = wTa w i from ow 0 109 i (by unfold ZM; omega) (by omega)]
      · rw [(cell 0 11 (by omega) (by omega) (by omega)).2.2.1, (st 0 11 (by omega)).2.2.1 _ (by omega) (by omega), q5 i y z, show wTr (wZ (mtW w hF m 1 ((m : Int) + 1)) 94 m (0 : Nat)) i = wTr w i from ow 0 111 i (by unfold ZM; omega) (by omega)]
      · rw [(cell 0 10 (by omega) (by omega) (by omega)).2.2.1, (st 0 10 (by omega)).2.2.1 _ (by omega) (by omega), q6]
      · rw [(mixC (by omega)).2.2.2.2]
        show gR (sR (nbH (sI h1 4 2 (iv 0)) G C us 0) 7 m (gC h)) 7 m'.toNat = _
        have hb := hm'.2
        rw [eM] at hb
        have h0 := hm'.1
        by_cases z : m' = m
        · rw [z, mt, gR_sRs, ← hm, aU_at]
        · rw [gR_sRo _ _ (by omega), (st 0 7 (by omega)).2.2.2.2, q7 m' ⟨h0, by omega⟩, aU_o _ _ (by omega)]
      · rw [(cell 0 8 (by omega) (by omega) (by omega)).2.2.2.2, (st 0 8 (by omega)).2.2.2.2, q8 k y z, aU_o _ _ (by omega)]
    · exact (hS.S s0 s1).kp (blk _ _ (by omega) (by omega) (by omega)) (ow 0 113 s (by unfold ZM; omega) (by omega)) (ow 0 114 s (by unfold ZM; omega) (by omega)) (ow 0 112 s (by unfold ZM; omega) (by omega)) (fun y => aU_o _ _ (by omega)) (fun _ _ _ => rfl)
    · obtain ⟨-, -, -, n1', n2', n3', n4', n5', n6', n7'⟩ := nbH_inv (h := sI h1 4 2 (iv 0)) (G := G) (C := C) (us := us) 0
      obtain ⟨⟨o1, o2, o3⟩, ⟨o4, o5⟩, ⟨o6, o7⟩, o8⟩ := nbH_more (h := sI h1 4 2 (iv 0)) (G := G) (C := C) (us := us) 0
      rw [gC2] at n1' n2' n3' n4' n5' n6' n7' o1 o2 o3 o4 o5 o6 o7 o8
      obtain ⟨x1, -, x3, -, x5⟩ := cell 0 (gC h) (by omega) (by omega) (by omega)
      obtain ⟨y1, y2, -⟩ := cell 0 (gC h + 1) (by omega) (by omega) (by omega)
      obtain ⟨u1, u2, -⟩ := cell 0 (gC h + 2) (by omega) (by omega) (by omega)
      obtain ⟨t1, t2, t3, -⟩ := cell 0 (gC h + 3) (by omega) (by omega) (by omega)
      unfold ObM
      rw [aU_at, ← hm, eG, eC, eB, eH]
      exact ⟨x1.trans n1', (x3 0).trans n2', (x3 1).trans n3', (x3 5).trans n4', (x3 6).trans o1, (x5 2).trans n5', (x5 3).trans o2, (x5 4).trans o3, y1.trans n6', y2.trans n7', u1.trans o4, u2.trans o5, t1.trans o6, t2.trans o7, fun p p0 p1 => by rw [eW 0 p p0 p1]; exact (t3 _).trans (o8 _), fun b b0 b1 => by omega, fun k k0 k1 => by omega⟩
  have all : ∀ j : Nat, j ≤ K → ∃ A', A' (m : Int) = gC h ∧ Sim (wZ (mtW w hF m 1 ((m : Int) + 1)) 94 m j) A' (mixH (fixH (nbH (sI h1 4 2 (iv 0)) G C us j) m (gC h)) (sI hF 94 m (iv j))) := by
    intro j
    induction j with
    | zero => exact fun _ => ⟨_, by rw [hm]; exact aU_at _ _ _, base⟩
    | succ j ih =>
      intro hj
      obtain ⟨A1, eA, sim⟩ := ih (by omega)
      obtain ⟨i1', i2', i3', n1', n2', n3', n4', n5', n6', n7'⟩ := nbH_inv (h := sI h1 4 2 (iv 0)) (G := G) (C := C) (us := us) j
      rw [gC2] at i1' n1' n2' n3' n4' n5' n6' n7'
      obtain ⟨okv, oks⟩ := ok j (by omega)
      obtain ⟨w1, w2, w3⟩ := yv j (by omega)
      obtain ⟨b1, b2, b3⟩ := B3 j (by omega)
      have sr := suU_rng (u := us j) G (fun q hq => okv q (by omega))
      have xt : (12 * (m : Int) + (j : Int)).toNat = 12 * m + j := by omega
      have low := fun a ha => abC_low (h := nbH (sI h1 4 2 (iv 0)) G C us j) (M := gC h) (b := j) (G := G) (C := C) (u := us j) (by omega) a ha
      have es : nbH (sI h1 4 2 (iv 0)) G C us (j + 1) = abC (nbH (sI h1 4 2 (iv 0)) G C us j) (gC h) j G C (us j) := by
        show abC (nbH (sI h1 4 2 (iv 0)) G C us j) (gC (sI h1 4 2 (iv 0))) j G C (us j) = _
        rw [gC2]
      have nw : NewW (wZ (mtW w hF m 1 ((m : Int) + 1)) 94 m j) (wZ (mtW w hF m 1 ((m : Int) + 1)) 94 m (j + 1 : Nat)) m G C (us j) := by
        unfold NewW
        rw [eB]
        refine ⟨fun a i y1 y2 y3 y4 => ?_, rfl, by rw [eB]; omega, fun g hg => ?_, fun k hk => ?_, ?_, ?_, ?_⟩
        · rw [wZ_o _ y1, wZ_o _ y1]
        · refine (wZ_o _ (by omega)).trans ((mtW_i (by unfold ZM; omega)).trans ?_)
          have := okv g (by omega)
          rw [show (4 * (12 * (m : Int) + (j : Int)) + (g : Int)).toNat = 4 * (12 * m + j) + g by omega, w1 g hg, iv_int (by omega) (by omega)]
        · refine (wZ_o _ (by omega)).trans ((mtW_i (by unfold ZM; omega)).trans ?_)
          rw [show (3 * (12 * (m : Int) + (j : Int)) + (k : Int)).toNat = 3 * (12 * m + j) + k by omega]
          by_cases q : k < C
          · have := okv (G + k) (by omega)
            rw [if_pos q, w2 k q, iv_int (by omega) (by omega)]
          · rw [if_neg q, show k = 2 by omega, w3 (by omega), iv_int (by omega) (by omega)]
        · refine (wZ_o _ (by omega)).trans ((mtW_i (by unfold ZM; omega)).trans ?_)
          rw [xt, b1, iv_int (by omega) (by omega)]
        · refine (wZ_o _ (by omega)).trans ((mtW_i (by unfold ZM; omega)).trans ?_)
          rw [xt, b2, iv_int (by omega) (by omega)]
        · refine (wZ_o _ (by omega)).trans ((mtW_i (by unfold ZM; omega)).trans ?_)
          rw [xt, b3, iv_int (by omega) (by omega)]
      have gf : ∀ x, gC (fixH x m (gC h)) = gC x := fun _ => rfl
      have s2 := Sim.both2 (m := m) (G := G) (C := C) (B := j) (u := us j) (w' := wZ (mtW w hF m 1 ((m : Int) + 1)) 94 m (j + 1 : Nat)) (hd := fixH (nbH (sI h1 4 2 (iv 0)) G C us (j + 1)) m (gC h)) (q1 := sI hF 94 m (iv ((j + 1 : Nat) : Int))) sim ⟨by omega, by rw [eM]; omega⟩ (eG j).symm (eC j).symm (eB j) (by omega) ⟨okv, oks⟩ nw (fun _ => rfl) (fun _ => rfl) (fun _ _ => rfl) (Rj (j + 1)) (fun a ha => ?_) ?_ ?_ ?_ ?_
      · refine ⟨_, ?_, s2⟩
        rw [aU_o _ _ (by rw [eB]; omega), eA]
      · rw [gf] at ha
        rw [eA, es]
        obtain ⟨l1, l2, l3, l4, l5⟩ := low a ha
        refine ⟨l1, l2, fun i y => ?_, l4, fun i y => ?_⟩
        · show gI (sI (sR (abC (nbH (sI h1 4 2 (iv 0)) G C us j) (gC h) j G C (us j)) 7 m (gC h)) 3 9 (iv ((m : Int) + 1))) a i = gI (sI (sR (nbH (sI h1 4 2 (iv 0)) G C us j) 7 m (gC h)) 3 9 (iv ((m : Int) + 1))) a i
          by_cases z : a = 3 ∧ i = 9
          · rw [z.1, z.2, gI_sIs, gI_sIs]
          · rw [gI_sIo _ _ (by omega), gI_sIo _ _ (by omega)]
            exact l3 i y
        · show gR (sR (abC (nbH (sI h1 4 2 (iv 0)) G C us j) (gC h) j G C (us j)) 7 m (gC h)) a i = gR (sR (nbH (sI h1 4 2 (iv 0)) G C us j) 7 m (gC h)) a i
          by_cases z : a = 7 ∧ i = m
          · rw [z.1, z.2, gR_sRs, gR_sRs]
          · rw [gR_sRo _ _ (by omega), gR_sRo _ _ (by omega)]
            exact l5 i y
      · rw [eA, es, (fixH_o (by omega) (by omega)).2.2.1]
        exact abC_5 (by omega)
      · rw [eA, es, (fixH_o (by omega) (by omega)).2.2.2.2, gf]
        exact abC_b
      · rw [eA, es, gf]
        obtain ⟨p1, p2, p3, p4, p5, p6, ⟨p7, p8⟩, ⟨p9, p10⟩, ⟨p11, p12⟩, ⟨p13, p14⟩, p15, p16, p17, p18, p19, p20, p21, p22⟩ := abC_new (h := nbH (sI h1 4 2 (iv 0)) G C us j) (M := gC h) (b := j) (G := G) (C := C) (u := us j) (by omega)
        have f0 := fixH_o (hc := abC (nbH (sI h1 4 2 (iv 0)) G C us j) (gC h) j G C (us j)) (m := m) (a := gC h) (b := gC (nbH (sI h1 4 2 (iv 0)) G C us j)) (by omega) (by omega)
        have f1 := fixH_o (hc := abC (nbH (sI h1 4 2 (iv 0)) G C us j) (gC h) j G C (us j)) (m := m) (a := gC h) (b := gC (nbH (sI h1 4 2 (iv 0)) G C us j) + 1) (by omega) (by omega)
        have f2 := fixH_o (hc := abC (nbH (sI h1 4 2 (iv 0)) G C us j) (gC h) j G C (us j)) (m := m) (a := gC h) (b := gC (nbH (sI h1 4 2 (iv 0)) G C us j) + 2) (by omega) (by omega)
        have f3 := fixH_o (hc := abC (nbH (sI h1 4 2 (iv 0)) G C us j) (gC h) j G C (us j)) (m := m) (a := gC h) (b := gC (nbH (sI h1 4 2 (iv 0)) G C us j) + 3) (by omega) (by omega)
        have f4 := fixH_o (hc := abC (nbH (sI h1 4 2 (iv 0)) G C us j) (gC h) j G C (us j)) (m := m) (a := gC h) (b := gC (nbH (sI h1 4 2 (iv 0)) G C us j) + 4) (by omega) (by omega)
        exact ⟨f0.1.trans p1, (f0.2.2.2.2 _).trans p2, (f0.2.2.2.2 _).trans p3, (f0.2.2.2.2 _).trans p4, (f0.2.2.2.2 _).trans p5, (f0.2.2.2.2 _).trans p6, ⟨f1.1.trans p7, f1.2.1.trans p8⟩, ⟨f2.1.trans p9, f2.2.1.trans p10⟩, ⟨f3.1.trans p11, f3.2.1.trans p12⟩, ⟨f4.1.trans p13, f4.2.1.trans p14⟩, fun i => (f1.2.2.1 i).trans (p15 i), fun i => (f2.2.2.1 i).trans (p16 i), fun i => (f3.2.2.1 i).trans (p17 i), fun i => (f4.2.2.1 i).trans (p18 i), (f0.2.2.1 _).trans p19, (f0.2.2.1 _).trans p20, (f0.2.2.1 _).trans p21, (f0.2.2.2.1 _).trans p22⟩
      · rw [es, gf, gf, abC_C]
  obtain ⟨A1, -, sim⟩ := all K (Nat.le_refl _)
  refine ⟨_, A1, sim.same (fun a => ?_) (by rw [gC_mix, cF])⟩
  by_cases z : 91 ≤ a ∧ a ≤ 115
  · obtain ⟨p1, p2, p3, p4, p5⟩ := mixQ (hc := fixH (nbH (sI h1 4 2 (iv 0)) G C us K) m (gC h)) (hq := sI hF 94 m (iv K)) z
    refine ⟨p1.symm, p2.symm, fun i => ?_, fun i => (p4 i).symm, fun i => (p5 i).symm⟩
    rw [p3]
    by_cases y : a = 94 ∧ i = m
    · rw [y.1, y.2, gI_sIs, y94]
    · rw [gI_sIo _ _ (by omega)]
  · obtain ⟨p1, p2, p3, p4, p5⟩ := mixC (hc := fixH (nbH (sI h1 4 2 (iv 0)) G C us K) m (gC h)) (hq := sI hF 94 m (iv K)) (a := a) (by omega)
    exact ⟨by rw [p1, kF], by rw [p2, nF], fun i => by rw [p3, iF a i (by omega) (by unfold ZM; omega)], fun i => by rw [p4, jF], fun i => by rw [p5, rF]⟩
end Q
