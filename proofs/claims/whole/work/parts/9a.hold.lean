/-! something held more -/
section Q
variable {w w' : WD} {A A' : Int → Nat} {h h' h1 : AH} {m n : Int}
theorem boxOK_e2 {x : Int} (hw : ∀ (a : Nat) (i : Int), 92 ≤ a → a ≤ 101 → w'.1 a i = w.1 a i) : boxOK w' m x = boxOK w m x := by
  unfold boxOK wP wGr wCh wG wC wV wO wSe wS2 wL
  simp -implicitDefEqProofs (disch := omega) only [hw]
/-- the world with one more held -/
def hoW (w : WD) (m s c b o u : Int) : WD := wZ (wZ (wZ (wZ (wZ (wZ w 104 (12 * m + wH w m) s) 105 (12 * m + wH w m) c) 106 (12 * m + wH w m) b) 107 (12 * m + wH w m) o) 108 (12 * m + wH w m) u) 103 m (wH w m + 1)
def hoC (h : AH) (a : Nat) (z s p b o u : Int) : AH := sI (sR (sI (sI (sI (sI (sI (nw h 101 5) (gC h) 0 (iv s)) (gC h) 1 (iv p)) (gC h) 2 (iv b)) (gC h) 3 (iv o)) (gC h) 4 (iv u)) (a + 2) z.toNat (gC h)) a 6 (iv (z + 1))
def hoQ (h : AH) (m z s c b o u : Int) : AH := sI (sI (sI (sI (sI (sI h 104 (12 * m + z).toNat (iv s)) 105 (12 * m + z).toNat (iv c)) 106 (12 * m + z).toNat (iv b)) 107 (12 * m + z).toNat (iv o)) 108 (12 * m + z).toNat (iv u)) 103 m.toNat (iv (z + 1))
theorem hoC_blk (h : AH) {a : Nat} {z s p b o u : Int} {c n : Nat} (z0 : c + n ≤ gC h) (z1 : c + n ≤ a ∨ a < c) (z2 : c + n ≤ a + 2 ∨ a + 2 < c) : Blk h (hoC h a z s p b o u) c n := ((((((((Blk.rf h c n).nw (by omega)).sI (by omega)).sI (by omega)).sI (by omega)).sI (by omega)).sI (by omega)).sR (by omega)).sI (by omega)
theorem hoQ_blk (h : AH) {z s c b o u : Int} {d n : Nat} (z1 : d + n ≤ 103 ∨ 108 < d) : Blk h (hoQ h m z s c b o u) d n := ((((((Blk.rf h d n).sI (by omega)).sI (by omega)).sI (by omega)).sI (by omega)).sI (by omega)).sI (by omega)
theorem hoC_QS (hS : QS w h) (g : 121 ≤ gC h) {a : Nat} (ha : 121 ≤ a) {z s p b o u : Int} : QS w (hoC h a z s p b o u) := (((((((hS.nw g).sI (by omega)).sI (by omega)).sI (by omega)).sI (by omega)).sI (by omega)).sR (by omega)).sI (by omega)
theorem Sim_hold (hS : Sim w A h) (hl : lvM w m) {s c g k b o u : Int} (s0 : 0 ≤ s) (s1 : s ≤ 3) (c0 : 0 ≤ c) (hg : c / 10 = g) (hk : c % 10 = k) (cg : g < wGr w m) (ck : k < wCh w m) (b0 : 0 ≤ b) (b1 : b < wBx w m) (o0 : 0 ≤ o) (o1 : o ≤ 99) (u0 : 0 ≤ u) (u1 : u ≤ 999) (h2 : 2 ≤ s → o < wBx w m ∧ o ≠ b) (hH : wH w m < 8) : Sim (hoW w m s c b o u) (aU A (60 + (12 * m + wH w m)) (gC h)) (hoQ (hoC h (A m) (wH w m) s (3 * g + k) b o u) m (wH w m) s c b o u) := by
  have hG := hS.gc
  have hW := hS.W
  obtain ⟨a1, a2, a3, a4, a5, a6, a7, a8, a9⟩ := id hW
  obtain ⟨l0, l1⟩ := id hl
  obtain ⟨⟨gg1, gg2⟩, ⟨gc1, gc2⟩, ⟨bb1, bb2⟩, ⟨hh1, hh2⟩, mw, mh⟩ := hW.mat hl
  have am := hS.aM hl
  have tm := hS.tM hl
  have q1 := hoC_QS hS.Q hG am (z := wH w m) (s := s) (p := 3 * g + k) (b := b) (o := o) (u := u)
  have rr : RR (hoW w m s c b o u) (hoQ (hoC h (A m) (wH w m) s (3 * g + k) b o u) m (wH w m) s c b o u) := RR_wZ (RR_wZ (RR_wZ (RR_wZ (RR_wZ (RR_wZ q1.R (by omega) (by omega) (by omega)) (by omega) (by omega) (by omega)) (by omega) (by omega) (by omega)) (by omega) (by omega) (by omega)) (by omega) (by omega) (by omega)) (by omega) (by omega) l0
  have eo : ∀ (a : Nat) (i : Int), (a ≠ 103 ∨ i ≠ m) → (a < 104 ∨ 108 < a ∨ i ≠ 12 * m + wH w m) → (hoW w m s c b o u).1 a i = w.1 a i := fun a i y z => by
    unfold hoW
    rw [wZ_o _ y, wZ_o _ (by omega), wZ_o _ (by omega), wZ_o _ (by omega), wZ_o _ (by omega), wZ_o _ (by omega)]
  have eH0 : wH (hoW w m s c b o u) m = wH w m + 1 := wZ_at _ _ _ _
  have e4 : hSo (hoW w m s c b o u) (12 * m + wH w m) = s := by
    show (hoW w m s c b o u).1 104 _ = s
    unfold hoW
    rw [wZ_o _ (by omega), wZ_o _ (by omega), wZ_o _ (by omega), wZ_o _ (by omega), wZ_o _ (by omega), wZ_at]
  have e5 : hCe (hoW w m s c b o u) (12 * m + wH w m) = c := by
    show (hoW w m s c b o u).1 105 _ = c
    unfold hoW
    rw [wZ_o _ (by omega), wZ_o _ (by omega), wZ_o _ (by omega), wZ_o _ (by omega), wZ_at]
  have e6 : hBo (hoW w m s c b o u) (12 * m + wH w m) = b := by
    show (hoW w m s c b o u).1 106 _ = b
    unfold hoW
    rw [wZ_o _ (by omega), wZ_o _ (by omega), wZ_o _ (by omega), wZ_at]
  have e7 : hOt (hoW w m s c b o u) (12 * m + wH w m) = o := by
    show (hoW w m s c b o u).1 107 _ = o
    unfold hoW
    rw [wZ_o _ (by omega), wZ_o _ (by omega), wZ_at]
  have e8 : hMu (hoW w m s c b o u) (12 * m + wH w m) = u := by
    show (hoW w m s c b o u).1 108 _ = u
    unfold hoW
    rw [wZ_o _ (by omega), wZ_at]
  have e2 : ∀ i, (hoW w m s c b o u).2 i = w.2 i := fun _ => rfl
  have B : ∀ d n : Nat, d + n ≤ gC h → (d + n ≤ A m ∨ A m < d) → (d + n ≤ A m + 2 ∨ A m + 2 < d) → (d + n ≤ 103 ∨ 108 < d) → Blk h (hoQ (hoC h (A m) (wH w m) s (3 * g + k) b o u) m (wH w m) s c b o u) d n := fun d n z0 z1 z2 z3 => (hoC_blk h z0 z1 z2).tr (hoQ_blk _ z3)
  have gCe : gC (hoQ (hoC h (A m) (wH w m) s (3 * g + k) b o u) m (wH w m) s c b o u) = gC h + 1 := rfl
  have gKe : ∀ a, gK (hoQ (hoC h (A m) (wH w m) s (3 * g + k) b o u) m (wH w m) s c b o u) a = gK (nw h 101 5) a := fun _ => rfl
  have gNe : ∀ a, gN (hoQ (hoC h (A m) (wH w m) s (3 * g + k) b o u) m (wH w m) s c b o u) a = gN (nw h 101 5) a := fun _ => rfl
  have gRe : ∀ a i, gR (hoQ (hoC h (A m) (wH w m) s (3 * g + k) b o u) m (wH w m) s c b o u) a i = gR (sR (nw h 101 5) (A m + 2) (wH w m).toNat (gC h)) a i := fun _ _ => rfl
  have gIe : ∀ a i, (a < 103 ∨ 108 < a) → gI (hoQ (hoC h (A m) (wH w m) s (3 * g + k) b o u) m (wH w m) s c b o u) a i = gI (sI (sI (sI (sI (sI (sI (nw h 101 5) (gC h) 0 (iv s)) (gC h) 1 (iv (3 * g + k))) (gC h) 2 (iv b)) (gC h) 3 (iv o)) (gC h) 4 (iv u)) (A m) 6 (iv (wH w m + 1))) a i := fun a i y => by
    unfold hoQ
    rw [gI_sIo _ _ (by omega), gI_sIo _ _ (by omega), gI_sIo _ _ (by omega), gI_sIo _ _ (by omega), gI_sIo _ _ (by omega), gI_sIo _ _ (by omega)]
    rfl
  generalize hoQ (hoC h (A m) (wH w m) s (3 * g + k) b o u) m (wH w m) s c b o u = h2' at *
  generalize hoW w m s c b o u = w' at *
  have eM : wM w' = wM w := eo 91 0 (by omega) (by omega)
  have eK : wK w' = wK w := eo 91 20 (by omega) (by omega)
  have eB : ∀ m, wBx w' m = wBx w m := fun m => eo 94 m (by omega) (by omega)
  have eH : ∀ m', m' ≠ m → wH w' m' = wH w m' := fun m' z => eo 103 m' (by omega) (by omega)
  have eP : ∀ m y g, wP w' m y g = wP w m y g := fun m y g => by
    unfold wP wGr wG
    rw [eo 92 _ (by omega) (by omega), eo 95 _ (by omega) (by omega)]
  have hw : ∀ (a : Nat) (i : Int), 92 ≤ a → a ≤ 101 → w'.1 a i = w.1 a i := fun a i y z => eo a i (by omega) (by omega)
  have lv : ∀ m, lvM w' m = lvM w m := fun m => lvM_el eM
  have lm : ∀ {m}, lvM w m → 0 ≤ m ∧ m < 4 := fun {m} hm => ⟨hm.1, by have := hm.2; omega⟩
  have lb : ∀ {m b}, lvM w m → 0 ≤ b → b < wBx w m → b < 12 := fun {m b} hm b0 b1 => by have := (hW.mat hm).2.2.1; omega
  have lh : ∀ {m k}, lvM w m → 0 ≤ k → k < wH w m → k < 8 := fun {m k} hm b0 b1 => by have := (hW.mat hm).2.2.2.1; omega
  have sep : ∀ q, lvq w q → q ≠ m → A q + sz q ≤ A m ∨ A m + 4 ≤ A q := fun q hq hne => by
    have := (hS.sep q hq).2.2 m (Or.inl hl) hne
    rwa [show sz m = 4 by unfold sz; rw [if_pos (by omega)]] at this
  have szB : ∀ {m b}, lvM w m → 0 ≤ b → b < wBx w m → sz (10 + (12 * m + b)) = 5 := fun {m b} hm b0 b1 => by
    have := lm hm
    have := lb hm b0 b1
    unfold sz; rw [if_neg (by omega), if_pos (by omega)]
  have szH : ∀ {m k}, lvM w m → 0 ≤ k → k < wH w m → sz (60 + (12 * m + k)) = 1 := fun {m k} hm b0 b1 => by
    have := lm hm
    unfold sz; rw [if_neg (by omega), if_neg (by omega)]
  have szM : ∀ {m}, lvM w m → sz m = 4 := fun {m} hm => by
    have := lm hm
    unfold sz; rw [if_pos (by omega)]
  refine ⟨?_, rr, ?_, ?_, fun m' hm => ?_, fun m' b' hm b0' b1' => ?_, fun m' k' hm k0 k1 => ?_, fun k' k0 k1 => ?_, fun s' s0' s1' => ?_, ?_, ?_, fun m' b' hm b0' b1' => ?_⟩
  · exact hS.F.fr (fun a _ => by rw [gKe, gK_nwo _ _ _ (by omega)]) (fun a _ => by rw [gNe, gN_nwo _ _ _ (by omega)]) (fun a i _ _ _ _ => by rw [gRe, gR_sRo _ _ (by omega), gR_nwo _ _ _ _ (by omega)])
  · refine ⟨by rw [eM]; exact a1, by rw [show wT w' = wT w from eo 91 19 (by omega) (by omega)]; exact a2, by rw [eK]; exact a3, fun i i0 i1 => by rw [show wTa w' i = wTa w i from eo 109 i (by omega) (by omega)]; exact a4 i i0 i1, fun k k0 k1 => by rw [show wKi w' k = wKi w k from eo 110 k (by omega) (by omega)]; rw [eK] at k1; exact a5 k k0 k1, fun m' hm => ?_, fun m b hm b0 b1 => by rw [boxOK_e2 hw]; rw [lv] at hm; rw [eB] at b1; exact a7 m b hm b0 b1, fun s s0 s1 => ?_, by rw [show wBo w' = wBo w from eo 91 23 (by omega) (by omega)]; exact a9⟩
    · rw [lv] at hm
      obtain ⟨y1, y2, y3, y4, y5, y6⟩ := hW.mat hm
      have := lm hm
      have hold : ∀ k : Int, 0 ≤ k → k < wH w m' → heldOK w' m' (12 * m' + k) := fun k' k0 k1 => by
        have := y6 k' k0 k1
        have := lh hm k0 k1
        have hne : 12 * m' + k' ≠ 12 * m + wH w m := by
          by_cases e : m' = m
          · subst e; omega
          · omega
        unfold heldOK at *
        rw [show hSo w' (12 * m' + k') = hSo w (12 * m' + k') from eo 104 _ (by omega) (by omega), show hCe w' (12 * m' + k') = hCe w (12 * m' + k') from eo 105 _ (by omega) (by omega), show hBo w' (12 * m' + k') = hBo w (12 * m' + k') from eo 106 _ (by omega) (by omega), show hOt w' (12 * m' + k') = hOt w (12 * m' + k') from eo 107 _ (by omega) (by omega), show hMu w' (12 * m' + k') = hMu w (12 * m' + k') from eo 108 _ (by omega) (by omega), show wGr w' m' = wGr w m' from eo 92 _ (by omega) (by omega), show wCh w' m' = wCh w m' from eo 93 _ (by omega) (by omega), eB]
        assumption
      unfold matOK
      rw [show wGr w' m' = wGr w m' from eo 92 _ (by omega) (by omega), show wCh w' m' = wCh w m' from eo 93 _ (by omega) (by omega), eB]
      refine ⟨y1, y2, y3, ?_, fun p p0 p1 => by rw [show wW w' m' p = wW w m' p from eo 102 _ (by omega) (by omega)]; exact y5 p p0 p1, fun k' k0 k1 => ?_⟩
      · by_cases e : m' = m
        · rw [e, eH0]; omega
        · rw [eH m' e]; exact y4
      · by_cases e : m' = m
        · subst e
          rw [eH0] at k1
          by_cases z : k' = wH w m'
          · subst z
            unfold heldOK
            rw [e4, e5, e6, e7, e8, show wGr w' m' = wGr w m' from eo 92 _ (by omega) (by omega), show wCh w' m' = wCh w m' from eo 93 _ (by omega) (by omega), eB]
            exact ⟨⟨s0, s1⟩, ⟨c0, by omega, by omega⟩, ⟨b0, b1⟩, ⟨o0, o1⟩, ⟨u0, u1⟩, h2⟩
          · exact hold k' k0 (by omega)
        · rw [eH m' e] at k1
          exact hold k' k0 k1
    · have := a8 s s0 s1
      unfold shOK at this ⊢
      rw [eK, show sIs w' s = sIs w s from eo 112 s (by omega) (by omega), show sSo w' s = sSo w s from eo 113 s (by omega) (by omega), show sSz w' s = sSz w s from eo 114 s (by omega) (by omega)]
      exact this
  · exact hS.C.kp (B _ _ (by omega) (by omega) (by omega) (by omega)) eM eK (eo 91 19 (by omega) (by omega)) (fun i _ _ => eo 109 i (by omega) (by omega)) (fun i _ _ => eo 111 i (by omega) (by omega)) (eo 91 23 (by omega) (by omega)) (fun m' hm => aU_o _ _ (by have := lm hm; omega)) (fun k' k0 k1 => aU_o _ _ (by omega))
  · rw [lv] at hm
    have := lm hm
    by_cases e : m' = m
    · subst e
      obtain ⟨k1, k2, k3, k4, k5, k6, k7, k8, k9, k10, k11, k12, k13, k14, k15, k16, k17⟩ := hS.M hm
      have am' : aU A (60 + (12 * m' + wH w m')) (gC h) m' = A m' := aU_o _ _ (by omega)
      have f1 : ∀ i, i ≠ 6 → gI h2' (A m') i = gI h (A m') i := fun i hi => by
        rw [gIe _ _ (by omega), gI_sIo _ _ (by omega), gI_sIo _ _ (by omega), gI_sIo _ _ (by omega), gI_sIo _ _ (by omega), gI_sIo _ _ (by omega), gI_sIo _ _ (by omega), gI_nwo _ _ _ _ (by omega)]
      have f2 : ∀ a, a < gC h → gK h2' a = gK h a ∧ gN h2' a = gN h a := fun a z => ⟨by rw [gKe, gK_nwo _ _ _ (by omega)], by rw [gNe, gN_nwo _ _ _ (by omega)]⟩
      have f3 : ∀ a i, a < gC h → (a ≠ A m' + 2 ∨ i ≠ (wH w m').toNat) → gR h2' a i = gR h a i := fun a i z y => by rw [gRe, gR_sRo _ _ y, gR_nwo _ _ _ _ (by omega)]
      unfold ObM
      rw [am', show wGr w' m' = wGr w m' from eo 92 _ (by omega) (by omega), show wCh w' m' = wCh w m' from eo 93 _ (by omega) (by omega), eB, eH0]
      refine ⟨by rw [(f2 _ (by omega)).1, k1], by rw [f1 _ (by omega), k2], by rw [f1 _ (by omega), k3], by rw [f1 _ (by omega), k4], by rw [gIe _ _ (by omega), gI_sIs], by rw [f3 _ _ (by omega) (by omega), k6], by rw [f3 _ _ (by omega) (by omega), k7], by rw [f3 _ _ (by omega) (by omega), k8], by rw [(f2 _ (by omega)).1, k9], by rw [(f2 _ (by omega)).2, k10], by rw [(f2 _ (by omega)).1, k11], by rw [(f2 _ (by omega)).2, k12], by rw [(f2 _ (by omega)).1, k13], by rw [(f2 _ (by omega)).2, k14], fun p p0 p1 => ?_, fun b' y0 y1 => ?_, fun k' y0 y1 => ?_⟩
      · rw [((B (A m' + 3) 1 (by omega) (by omega) (by omega) (by omega)) _ (Nat.le_refl _) (by omega)).2.2.1, k15 p p0 p1, show wW w' m' p = wW w m' p from eo 102 _ (by omega) (by omega)]
      · rw [f3 _ _ (by omega) (by omega), k16 b' y0 y1, aU_o _ _ (by have := lb hm y0 y1; omega)]
      · by_cases z : k' = wH w m'
        · rw [z, gRe, gR_sRs, aU_at]
        · rw [f3 _ _ (by omega) (by omega), k17 k' y0 (by omega), aU_o _ _ (by omega)]
    · have l0' := hm.1
      have am' := hS.aM hm
      have sp := sep m' (Or.inl hm) e
      rw [szM hm] at sp
      have tm' := hS.tM hm
      exact (hS.M hm).kp (B _ _ tm' (by omega) (by omega) (by omega)) (aU_o _ _ (by omega)) (eo 92 _ (by omega) (by omega)) (eo 93 _ (by omega) (by omega)) (eB m') (eH m' e) (fun p _ _ => eo 102 _ (by omega) (by omega)) (fun b y z => aU_o _ _ (by have := lb hm y z; omega)) (fun k y z => aU_o _ _ (by have := lh hm y z; omega))
  · rw [lv] at hm
    rw [eB] at b1'
    have := lm hm
    have := lb hm b0' b1'
    have := hS.aB hm b0' b1'
    have tb := hS.tB hm b0' b1'
    have sp := sep _ (Or.inr (Or.inl ⟨m', b', hm, b0', b1', rfl⟩)) (by omega)
    rw [szB hm b0' b1'] at sp
    exact (hS.B hm b0' b1').kp (B _ _ tb (by omega) (by omega) (by omega)) (aU_o _ _ (by omega)) (aU_o _ _ (by omega)) (eo 92 _ (by omega) (by omega)) (fun g _ _ => eP m' _ g) (fun _ _ _ => eo 96 _ (by omega) (by omega)) (eo 100 _ (by omega) (by omega)) (fun _ _ _ => eo 101 _ (by omega) (by omega)) (eo 98 _ (by omega) (by omega)) (fun _ _ _ => eo 99 _ (by omega) (by omega)) (eo 97 _ (by omega) (by omega)) (eo 93 _ (by omega) (by omega))
  · rw [lv] at hm
    have := lm hm
    by_cases e : m' = m ∧ k' = wH w m
    · obtain ⟨rfl, rfl⟩ := e
      unfold ObH
      rw [aU_at, e4, e5, e6, e7, e8]
      refine ⟨by rw [gKe, gK_nws], ?_, ?_, ?_, ?_, ?_⟩
      · rw [gIe _ _ (by omega), gI_sIo _ _ (by omega), gI_sIo _ _ (by omega), gI_sIo _ _ (by omega), gI_sIo _ _ (by omega), gI_sIo _ _ (by omega), gI_sIs]
      · rw [gIe _ _ (by omega), gI_sIo _ _ (by omega), gI_sIo _ _ (by omega), gI_sIo _ _ (by omega), gI_sIo _ _ (by omega), gI_sIs]
        congr 1; omega
      · rw [gIe _ _ (by omega), gI_sIo _ _ (by omega), gI_sIo _ _ (by omega), gI_sIo _ _ (by omega), gI_sIs]
      · rw [gIe _ _ (by omega), gI_sIo _ _ (by omega), gI_sIo _ _ (by omega), gI_sIs]
      · rw [gIe _ _ (by omega), gI_sIo _ _ (by omega), gI_sIs]
    · have k1' : k' < wH w m' := by
        by_cases z : m' = m
        · subst z
          rw [eH0] at k1
          omega
        · rw [eH m' z] at k1
          exact k1
      have := lh hm k0 k1'
      have := hS.aH hm k0 k1'
      have th := hS.tH hm k0 k1'
      have sp := sep _ (Or.inr (Or.inr (Or.inl ⟨m', k', hm, k0, k1', rfl⟩))) (by omega)
      rw [szH hm k0 k1'] at sp
      exact (hS.H hm k0 k1').kp (B _ _ th (by omega) (by omega) (by omega)) (aU_o _ _ (by omega)) (eo 104 _ (by omega) (by omega)) (eo 105 _ (by omega) (by omega)) (eo 106 _ (by omega) (by omega)) (eo 107 _ (by omega) (by omega)) (eo 108 _ (by omega) (by omega))
  · rw [eK] at k1
    have := hS.aK k0 k1
    have tk := hS.tK k0 k1
    have sp := sep _ (Or.inr (Or.inr (Or.inr ⟨k', k0, k1, rfl⟩))) (by omega)
    rw [show sz (110 + k') = 1 by unfold sz; rw [if_neg (by omega), if_neg (by omega)]] at sp
    exact (hS.K k0 k1).kp (B _ _ tk (by omega) (by omega) (by omega)) (aU_o _ _ (by omega)) (eo 110 _ (by omega) (by omega))
  · have := (a8 s' s0' s1').1
    exact (hS.S s0' s1').kp (B _ _ (by omega) (by omega) (by omega) (by omega)) (eo 113 _ (by omega) (by omega)) (eo 114 _ (by omega) (by omega)) (eo 112 _ (by omega) (by omega)) (fun _ => aU_o _ _ (by omega)) (fun i _ _ => e2 _)
  · refine hS.sep.add (q0 := 60 + (12 * m + wH w m)) (fun q hq => ?_) (Nat.le_refl _) hG ?_
    · unfold lvq at hq ⊢
      rcases hq with z | ⟨m', b', z1, z2, z3, z4⟩ | ⟨m', k', z1, z2, z3, z4⟩ | ⟨k', z1, z2, z3⟩
      · rw [lv] at z
        have := lm z
        exact Or.inr ⟨by omega, Or.inl z⟩
      · rw [lv] at z1
        rw [eB] at z3
        have := lm z1
        have := lb z1 z2 z3
        exact Or.inr ⟨by omega, Or.inr (Or.inl ⟨m', b', z1, z2, z3, z4⟩)⟩
      · rw [lv] at z1
        have := lm z1
        by_cases e : m' = m ∧ k' = wH w m
        · exact Or.inl (by omega)
        · have k1' : k' < wH w m' := by
            by_cases z : m' = m
            · subst z
              rw [eH0] at z3
              omega
            · rw [eH m' z] at z3
              exact z3
          have := lh z1 z2 k1'
          exact Or.inr ⟨by omega, Or.inr (Or.inr (Or.inl ⟨m', k', z1, z2, k1', z4⟩))⟩
      · rw [eK] at z2
        exact Or.inr ⟨by omega, Or.inr (Or.inr (Or.inr ⟨k', z1, z2, z3⟩))⟩
    · rw [gCe, show sz (60 + (12 * m + wH w m)) = 1 by unfold sz; rw [if_neg (by omega), if_neg (by omega)]]
      exact Nat.le_refl _
  · rw [gCe]
    omega
  · rw [lv] at hm
    rw [eB] at b1'
    have := lm hm
    have := lb hm b0' b1'
    have := hS.aB hm b0' b1'
    have tb := hS.tB hm b0' b1'
    have sp := sep _ (Or.inr (Or.inl ⟨m', b', hm, b0', b1', rfl⟩)) (by omega)
    rw [szB hm b0' b1'] at sp
    have y := hS.wy m' b' hm b0' b1'
    rw [aU_o _ _ (by omega), ((B _ _ tb (by omega) (by omega) (by omega)) _ (Nat.le_refl _) (by omega)).2.2.2.1]
    unfold cnX at y ⊢
    rw [eP, eP, eP, eP, show wC w' (12 * m' + b') 0 = wC w (12 * m' + b') 0 from eo 96 _ (by omega) (by omega), show wC w' (12 * m' + b') 1 = wC w (12 * m' + b') 1 from eo 96 _ (by omega) (by omega), show wC w' (12 * m' + b') 2 = wC w (12 * m' + b') 2 from eo 96 _ (by omega) (by omega)]
    exact y
end Q
