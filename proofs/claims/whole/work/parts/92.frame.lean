/-! frames: what of a likeness stands where cells stand -/
theorem gI_sR (h : AH) (a i v b j : Nat) : gI (sR h a i v) b j = gI h b j := rfl
theorem gJ_sR (h : AH) (a i v b j : Nat) : gJ (sR h a i v) b j = gJ h b j := rfl
theorem gK_sR (h : AH) (a i v b : Nat) : gK (sR h a i v) b = gK h b := rfl
theorem gN_sR (h : AH) (a i v b : Nat) : gN (sR h a i v) b = gN h b := rfl
theorem gR_sRs (h : AH) (a i v : Nat) : gR (sR h a i v) a i = v := if_pos ⟨rfl, rfl⟩
theorem gR_sRo (h : AH) {a i b j : Nat} (v : Nat) (hb : b ≠ a ∨ j ≠ i) : gR (sR h a i v) b j = gR h b j := if_neg (by omega)
theorem gC_sI (h : AH) (a i : Nat) (v : Int32) : gC (sI h a i v) = gC h := rfl
theorem gC_sJ (h : AH) (a i : Nat) (v : Int64) : gC (sJ h a i v) = gC h := rfl
theorem gC_sR (h : AH) (a i v : Nat) : gC (sR h a i v) = gC h := rfl
theorem gC_nw (h : AH) (k n : Nat) : gC (nw h k n) = gC h + 1 := rfl
theorem gK_nws (h : AH) (k n : Nat) : gK (nw h k n) (gC h) = k := if_pos rfl
theorem gN_nws (h : AH) (k n : Nat) : gN (nw h k n) (gC h) = n := if_pos rfl
theorem gI_nws (h : AH) (k n i : Nat) : gI (nw h k n) (gC h) i = iv 0 := if_pos rfl
theorem gJ_nws (h : AH) (k n i : Nat) : gJ (nw h k n) (gC h) i = jv 0 := if_pos rfl
theorem gR_nws (h : AH) (k n i : Nat) : gR (nw h k n) (gC h) i = 0 := if_pos rfl
theorem gK_nwo (h : AH) {b : Nat} (k n : Nat) (e : b ≠ gC h) : gK (nw h k n) b = gK h b := if_neg e
theorem gN_nwo (h : AH) {b : Nat} (k n : Nat) (e : b ≠ gC h) : gN (nw h k n) b = gN h b := if_neg e
theorem gI_nwo (h : AH) {b : Nat} (k n i : Nat) (e : b ≠ gC h) : gI (nw h k n) b i = gI h b i := if_neg e
theorem gJ_nwo (h : AH) {b : Nat} (k n i : Nat) (e : b ≠ gC h) : gJ (nw h k n) b i = gJ h b i := if_neg e
theorem gR_nwo (h : AH) {b : Nat} (k n i : Nat) (e : b ≠ gC h) : gR (nw h k n) b i = gR h b i := if_neg e
def Blk (h h' : AH) (b n : Nat) : Prop := ∀ a : Nat, b ≤ a → a < b + n → gK h' a = gK h a ∧ gN h' a = gN h a ∧ (∀ i, gI h' a i = gI h a i) ∧ (∀ i, gJ h' a i = gJ h a i) ∧ ∀ i, gR h' a i = gR h a i
theorem Blk.rf (h : AH) (b n : Nat) : Blk h h b n := fun _ _ _ => ⟨rfl, rfl, fun _ => rfl, fun _ => rfl, fun _ => rfl⟩
theorem Blk.sI {h h1 : AH} {b n a i : Nat} {v : Int32} (B : Blk h h1 b n) (z : a < b ∨ b + n ≤ a) : Blk h (sI h1 a i v) b n := fun x p q => by
  obtain ⟨b1, b2, b3, b4, b5⟩ := B x p q
  exact ⟨b1, b2, fun j => by rw [gI_sIo _ _ (Or.inl (by omega)), b3], b4, b5⟩
theorem Blk.sJ {h h1 : AH} {b n a i : Nat} {v : Int64} (B : Blk h h1 b n) (z : a < b ∨ b + n ≤ a) : Blk h (sJ h1 a i v) b n := fun x p q => by
  obtain ⟨b1, b2, b3, b4, b5⟩ := B x p q
  exact ⟨b1, b2, b3, fun j => by rw [gJ_sJo _ _ (Or.inl (by omega)), b4], b5⟩
theorem Blk.sR {h h1 : AH} {b n a i v : Nat} (B : Blk h h1 b n) (z : a < b ∨ b + n ≤ a) : Blk h (sR h1 a i v) b n := fun x p q => by
  obtain ⟨b1, b2, b3, b4, b5⟩ := B x p q
  exact ⟨b1, b2, b3, b4, fun j => by rw [gR_sRo _ _ (Or.inl (by omega)), b5]⟩
theorem Blk.nw {h h1 : AH} {b n k l : Nat} (B : Blk h h1 b n) (z : b + n ≤ gC h1) : Blk h (nw h1 k l) b n := fun x p q => by
  obtain ⟨b1, b2, b3, b4, b5⟩ := B x p q
  exact ⟨by rw [gK_nwo _ _ _ (by omega), b1], by rw [gN_nwo _ _ _ (by omega), b2], fun j => by rw [gI_nwo _ _ _ _ (by omega), b3], fun j => by rw [gJ_nwo _ _ _ _ (by omega), b4], fun j => by rw [gR_nwo _ _ _ _ (by omega), b5]⟩
theorem Blk.tr {h h1 h2 : AH} {b n : Nat} (B : Blk h h1 b n) (C : Blk h1 h2 b n) : Blk h h2 b n := fun x p q => by
  obtain ⟨b1, b2, b3, b4, b5⟩ := B x p q
  obtain ⟨c1, c2, c3, c4, c5⟩ := C x p q
  exact ⟨c1.trans b1, c2.trans b2, fun j => (c3 j).trans (b3 j), fun j => (c4 j).trans (b4 j), fun j => (c5 j).trans (b5 j)⟩
theorem Blk.sub {h h1 : AH} {b n c m : Nat} (B : Blk h h1 b n) (p : b ≤ c) (q : c + m ≤ b + n) : Blk h h1 c m := fun x y z => B x (by omega) (by omega)
section Q
variable {w w' : WD} {A A' : Int → Nat} {h h' h1 : AH} {m x k : Int}
theorem ObM.kp (H : ObM w A h m) (B : Blk h h' (A m) 4) (eA : A' m = A m) (e1 : wGr w' m = wGr w m) (e2 : wCh w' m = wCh w m) (e3 : wBx w' m = wBx w m) (e4 : wH w' m = wH w m) (e5 : ∀ p : Int, 0 ≤ p → p < 12 → wW w' m p = wW w m p) (e6 : ∀ b : Int, 0 ≤ b → b < wBx w m → A' (10 + (12 * m + b)) = A (10 + (12 * m + b))) (e7 : ∀ k : Int, 0 ≤ k → k < wH w m → A' (60 + (12 * m + k)) = A (60 + (12 * m + k))) : ObM w' A' h' m := by
  obtain ⟨-, -, c1, -, c2⟩ := B (A m) (by omega) (by omega)
  have c0 := (B (A m) (by omega) (by omega)).1
  obtain ⟨d1, d2, -, -, d3⟩ := B (A m + 1) (by omega) (by omega)
  obtain ⟨f1, f2, -, -, f3⟩ := B (A m + 2) (by omega) (by omega)
  obtain ⟨g1, g2, g3, -, -⟩ := B (A m + 3) (by omega) (by omega)
  obtain ⟨k1, k2, k3, k4, k5, k6, k7, k8, k9, k10, k11, k12, k13, k14, k15, k16, k17⟩ := H
  unfold ObM
  rw [eA, e1, e2, e3, e4]
  exact ⟨by rw [c0, k1], by rw [c1, k2], by rw [c1, k3], by rw [c1, k4], by rw [c1, k5], by rw [c2, k6], by rw [c2, k7], by rw [c2, k8], by rw [d1, k9], by rw [d2, k10], by rw [f1, k11], by rw [f2, k12], by rw [g1, k13], by rw [g2, k14], fun p y z => by rw [g3, k15 p y z, e5 p y z], fun p y z => by rw [d3, k16 p y z, e6 p y z], fun p y z => by rw [f3, k17 p y z, e7 p y z]⟩
theorem ObB.kp (H : ObB w A h m x) (B : Blk h h' (A (10 + x)) 5) (eA : A' (10 + x) = A (10 + x)) (eM : A' m = A m) (e0 : wGr w' m = wGr w m) (e1 : ∀ g : Int, 0 ≤ g → g < 4 → wP w' m x g = wP w m x g) (e2 : ∀ k : Int, 0 ≤ k → k < 3 → wC w' x k = wC w x k) (e3 : wS2 w' x = wS2 w x) (e4 : ∀ k : Int, 0 ≤ k → k < 3 → wL w' x k = wL w x k) (e5 : wO w' x = wO w x) (e6 : ∀ p : Int, 0 ≤ p → p < 3 * wGr w m → wSe w' x p = wSe w x p) (e7 : wV w' x = wV w x) (e8 : wCh w' m = wCh w m) : ObB w' A' h' m x := by
  obtain ⟨c0, -, c1, -, c2⟩ := B (A (10 + x)) (by omega) (by omega)
  obtain ⟨d1, d2, d3, -, -⟩ := B (A (10 + x) + 1) (by omega) (by omega)
  obtain ⟨f1, f2, f3, -, -⟩ := B (A (10 + x) + 2) (by omega) (by omega)
  obtain ⟨g1, g2, g3, -, -⟩ := B (A (10 + x) + 3) (by omega) (by omega)
  obtain ⟨i1, i2, i3, -, -⟩ := B (A (10 + x) + 4) (by omega) (by omega)
  obtain ⟨o1, o2, o3, o4, o5, o6, ⟨o7, o8⟩, ⟨o9, o10⟩, ⟨o11, o12⟩, ⟨o13, o14⟩, p1, p2, p3, p4, p5, p6, p7⟩ := H
  unfold ObB
  rw [eA, eM, e0, e3, e5, e7]
  exact ⟨by rw [c0, o1], by rw [c2, o2], by rw [c2, o3], by rw [c2, o4], by rw [c2, o5], by rw [c2, o6], ⟨by rw [d1, o7], by rw [d2, o8]⟩, ⟨by rw [f1, o9], by rw [f2, o10]⟩, ⟨by rw [g1, o11], by rw [g2, o12]⟩, ⟨by rw [i1, o13], by rw [i2, o14]⟩, fun p y z => by rw [d3, p1 p y z, e1 p y z], fun p y z => by rw [f3, p2 p y z, e2 p y z], fun p y z => by rw [g3, e4 p y z, e8]; exact p3 p y z, fun p y z => by rw [i3, p4 p y z, e6 p y z], by rw [c1, p5], by rw [c1, p6], by rw [c1, p7]⟩
theorem ObH.kp (H : ObH w A h k) (B : Blk h h' (A (60 + k)) 1) (eA : A' (60 + k) = A (60 + k)) (e1 : hSo w' k = hSo w k) (e2 : hCe w' k = hCe w k) (e3 : hBo w' k = hBo w k) (e4 : hOt w' k = hOt w k) (e5 : hMu w' k = hMu w k) : ObH w' A' h' k := by
  obtain ⟨c0, -, c1, -, -⟩ := B (A (60 + k)) (by omega) (by omega)
  obtain ⟨o1, o2, o3, o4, o5, o6⟩ := H
  unfold ObH
  rw [eA, e1, e2, e3, e4, e5]
  exact ⟨by rw [c0, o1], by rw [c1, o2], by rw [c1, o3], by rw [c1, o4], by rw [c1, o5], by rw [c1, o6]⟩
theorem ObK.kp (H : ObK w A h k) (B : Blk h h' (A (110 + k)) 1) (eA : A' (110 + k) = A (110 + k)) (e1 : wKi w' k = wKi w k) : ObK w' A' h' k := by
  obtain ⟨c0, -, c1, -, c2⟩ := B (A (110 + k)) (by omega) (by omega)
  obtain ⟨o1, o2, o3, o4⟩ := H
  unfold ObK
  rw [eA, e1]
  exact ⟨by rw [c0, o1], by rw [c1, o2], by rw [c1, o3], by rw [c2, o4]⟩
theorem ObS.kp {s : Int} (H : ObS w A h s) (B : Blk h h' (79 + 2 * s.toNat) 2) (e1 : sSo w' s = sSo w s) (e2 : sSz w' s = sSz w s) (e3 : sIs w' s = sIs w s) (eA : 0 ≤ sIs w s → A' (110 + sIs w s) = A (110 + sIs w s)) (e4 : ∀ i : Int, 0 ≤ i → i < 60 → sEl w' (60 * s + i) = sEl w (60 * s + i)) : ObS w' A' h' s := by
  obtain ⟨-, -, c1, -, c2⟩ := B (79 + 2 * s.toNat) (by omega) (by omega)
  obtain ⟨-, -, -, d1, -⟩ := B (80 + 2 * s.toNat) (by omega) (by omega)
  obtain ⟨o1, o2, o3, o4⟩ := H
  unfold ObS
  rw [e1, e2, e3]
  refine ⟨by rw [c1, o1], fun z => by rw [c1, o2 z], ?_, fun i y z => by rw [d1, e4 i y z]; exact o4 i y z⟩
  rw [c2, o3]
  by_cases q : sIs w s < 0
  · rw [if_pos q, if_pos q]
  · rw [if_neg q, if_neg q, eA (by omega)]
theorem Cls.kp (H : Cls w A h) (B : Blk h h' 3 9) (e1 : wM w' = wM w) (e2 : wK w' = wK w) (e3 : wT w' = wT w) (e4 : ∀ i : Int, 0 ≤ i → i < 200 → wTa w' i = wTa w i) (e5 : ∀ i : Int, 0 ≤ i → i < 24 → wTr w' i = wTr w i) (e6 : wBo w' = wBo w) (e7 : ∀ m : Int, lvM w m → A' m = A m) (e8 : ∀ k : Int, 0 ≤ k → k < wK w → A' (110 + k) = A (110 + k)) : Cls w' A' h' := by
  obtain ⟨q1, q2, q3, q4, q5, q6, q7, q8⟩ := H
  have z3 := (B 3 (by omega) (by omega)).2.2
  have z4 := (B 4 (by omega) (by omega)).2.2
  have z5 := (B 5 (by omega) (by omega)).2.2
  have z7 := (B 7 (by omega) (by omega)).2.2
  have z8 := (B 8 (by omega) (by omega)).2.2
  have z10 := (B 10 (by omega) (by omega)).2.2
  have z11 := (B 11 (by omega) (by omega)).2.2
  unfold Cls
  rw [e1, e2, e3, e6]
  refine ⟨by rw [z3.1, q1], by rw [z3.1, q2], by rw [z4.1, q3], fun i y z => by rw [z5.1, q4 i y z, e4 i y z], fun i y z => by rw [z11.1, q5 i y z, e5 i y z], by rw [z10.1, q6], fun m hm => ?_, fun k y z => by rw [z8.2.2, q8 k y z, e8 k y z]⟩
  have hm' : lvM w m := ⟨hm.1, by have := hm.2; omega⟩
  rw [z7.2.2, q7 m hm', e7 m hm']
theorem Fix.fr (H : Fix h) (hk : ∀ a : Nat, a < 121 → gK h' a = gK h a) (hn : ∀ a : Nat, a < 121 → gN h' a = gN h a) (hr : ∀ a i : Nat, a < 121 → a ≠ 7 → a ≠ 8 → (i ≠ 1 ∨ a < 79 ∨ 90 < a) → gR h' a i = gR h a i) : Fix h' := by
  obtain ⟨f1, f2, f3, f4, f5, f6⟩ := H
  have fl : ∀ q ∈ fixR, q.1 ≠ 7 ∧ q.1 ≠ 8 ∧ (q.2.1 ≠ 1 ∨ q.1 < 79 ∨ 90 < q.1) := by decide
  have tb : ∀ t : Nat, t + 3 < 79 → 8 < t → TabOK h t → TabOK h' t := fun t ht h8 ⟨q1, q2, q3, q4, ⟨q5, q6⟩, ⟨q7, q8⟩, q9, q10⟩ => ⟨by rw [hk _ (by omega), q1], by rw [hr _ _ (by omega) (by omega) (by omega) (by omega), q2], by rw [hr _ _ (by omega) (by omega) (by omega) (by omega), q3], by rw [hr _ _ (by omega) (by omega) (by omega) (by omega), q4], ⟨by rw [hk _ (by omega), q5], by rw [hn _ (by omega), q6]⟩, ⟨by rw [hk _ (by omega), q7], by rw [hn _ (by omega), q8]⟩, by rw [hk _ (by omega), q9], by rw [hn _ (by omega), q10]⟩
  refine ⟨fun q hq => ⟨by rw [hk _ (by have := fixK_le q hq; omega), (f1 q hq).1], fun z => by rw [hn _ (by have := fixK_le q hq; omega), (f1 q hq).2 z]⟩, fun q hq => by obtain ⟨a1, a2, a3⟩ := fl q hq; rw [hr _ _ (by have := fixR_le q hq; omega) a1 a2 a3, f2 q hq], tb _ (by decide) (by decide) f3, tb _ (by decide) (by decide) f4, fun i hi => ⟨by rw [hr _ _ (by omega) (by omega) (by omega) (by omega), (f5 i hi).1], tb _ (by omega) (by omega) (f5 i hi).2⟩, fun i hi => ?_⟩
  obtain ⟨q1, q2, q3, q4, q5⟩ := f6 i hi
  exact ⟨by rw [hr _ _ (by omega) (by omega) (by omega) (by omega), q1], by rw [hk _ (by omega), q2], by rw [hr _ _ (by omega) (by omega) (by omega) (by omega), q3], by rw [hk _ (by omega), q4], by rw [hn _ (by omega), q5]⟩
theorem RR.fr (H : RR w h) (hi : ∀ a i : Nat, (92 ≤ a ∧ a ≤ 114 ∨ a = 91 ∧ (i = 0 ∨ i = 19 ∨ i = 20 ∨ i = 23)) → gI h' a i = gI h a i) (hj : ∀ i : Nat, gJ h' 115 i = gJ h 115 i) : RR w h' := by
  obtain ⟨q1, q2, q3, q4, q5, q6⟩ := H
  exact ⟨fun b z z1 z2 z3 => by rw [hi _ _ (by omega), q1 b z z1 z2 z3], by rw [hi _ _ (by omega), q2], by rw [hi _ _ (by omega), q3], by rw [hi _ _ (by omega), q4], by rw [hi _ _ (by omega), q5], fun z hz => by rw [hj, q6 z hz]⟩
theorem RR_w91 {z : Nat} {v : Int} (H : RR w h) (z0 : z = 0 ∨ z = 19 ∨ z = 20 ∨ z = 23) : RR (wZ w 91 z v) (sI h 91 z (iv v)) := by
  obtain ⟨q1, q2, q3, q4, q5, q6⟩ := H
  refine ⟨fun b i b0 b1 i0 => by rw [gI_sIo _ _ (Or.inl (by omega)), wZ_o w (Or.inl (by omega)), q1 b i b0 b1 i0], ?_, ?_, ?_, ?_, q6⟩
  · show _ = iv ((wZ w 91 z v).1 91 0)
    by_cases e : z = 0
    · rw [e, gI_sIs]; rfl
    · rw [gI_sIo _ _ (Or.inr (by omega)), wZ_o w (Or.inr (by omega))]; exact q2
  · show _ = iv ((wZ w 91 z v).1 91 19)
    by_cases e : z = 19
    · rw [e, gI_sIs]; rfl
    · rw [gI_sIo _ _ (Or.inr (by omega)), wZ_o w (Or.inr (by omega))]; exact q3
  · show _ = iv ((wZ w 91 z v).1 91 20)
    by_cases e : z = 20
    · rw [e, gI_sIs]; rfl
    · rw [gI_sIo _ _ (Or.inr (by omega)), wZ_o w (Or.inr (by omega))]; exact q4
  · show _ = iv ((wZ w 91 z v).1 91 23)
    by_cases e : z = 23
    · rw [e, gI_sIs]; rfl
    · rw [gI_sIo _ _ (Or.inr (by omega)), wZ_o w (Or.inr (by omega))]; exact q5
theorem RR_wJ {z : Int} {v : Int64} (H : RR w h) (z0 : 0 ≤ z) : RR (wJ w z v) (sJ h 115 z.toNat v) := by
  obtain ⟨q1, q2, q3, q4, q5, q6⟩ := H
  refine ⟨q1, q2, q3, q4, q5, fun i hi => ?_⟩
  show _ = if i = z then v else w.2 i
  by_cases e : i = z
  · rw [if_pos e, e, gJ_sJs]
  · rw [if_neg e, gJ_sJo _ _ (Or.inr (by omega)), q6 i hi]
theorem QS.sR (hS : QS w h) {a i v : Nat} (z : 121 ≤ a ∨ a = 7 ∨ a = 8 ∨ i = 1 ∧ 79 ≤ a ∧ a ≤ 90) : QS w (sR h a i v) := by
  obtain ⟨f, r, hw⟩ := hS
  exact ⟨f.fr (fun _ _ => rfl) (fun _ _ => rfl) (fun b j x1 x2 x3 x4 => gR_sRo _ _ (by omega)), r.fr (fun _ _ _ => rfl) (fun _ => rfl), hw⟩
theorem QS.nw (hS : QS w h) {k n : Nat} (g : 121 ≤ gC h) : QS w (nw h k n) := by
  obtain ⟨f, r, hw⟩ := hS
  exact ⟨f.fr (fun b x => gK_nwo _ _ _ (by omega)) (fun b x => gN_nwo _ _ _ (by omega)) (fun b j x _ _ _ => gR_nwo _ _ _ _ (by omega)), r.fr (fun b j x => gI_nwo _ _ _ _ (by omega)) (fun j => gJ_nwo _ _ _ _ (by omega)), hw⟩
/-- the world elsewhere: all but tape, trace and shelves -/
def Elw (w w' : WD) : Prop := ∀ (a : Nat) (i : Int), (92 ≤ a ∧ a ≤ 108 ∨ a = 110 ∨ a = 91 ∧ (i = 0 ∨ i = 20)) → w'.1 a i = w.1 a i
theorem Elw.P (e : Elw w w') (m x g : Int) : wP w' m x g = wP w m x g := by
  unfold wP wGr wG
  rw [e 92 _ (by omega), e 95 _ (by omega)]
theorem lvM_el (e : wM w' = wM w) : lvM w' m = lvM w m := by unfold lvM; rw [e]
theorem matOK_el (hw : ∀ (a : Nat) (i : Int), 92 ≤ a → a ≤ 108 → w'.1 a i = w.1 a i) : matOK w' m = matOK w m := by
  unfold matOK heldOK wGr wCh wBx wH wW hSo hCe hBo hOt hMu
  simp -implicitDefEqProofs (disch := omega) only [hw]
theorem boxOK_el (hw : ∀ (a : Nat) (i : Int), 92 ≤ a → a ≤ 108 → w'.1 a i = w.1 a i) : boxOK w' m x = boxOK w m x := by
  unfold boxOK wP wGr wCh wG wC wV wO wSe wS2 wL
  simp -implicitDefEqProofs (disch := omega) only [hw]
theorem WI.hi (H : WI w) (e : Elw w w') (t : 0 ≤ wT w' ∧ wT w' ≤ 200) (ta : ∀ i : Int, 0 ≤ i → i < 200 → 0 ≤ wTa w' i ∧ wTa w' i ≤ 255) (sh : ∀ s : Int, 0 ≤ s → s < 6 → shOK w' s) (bo : 0 ≤ wBo w' ∧ wBo w' ≤ 100000) : WI w' := by
  obtain ⟨a1, a2, a3, a4, a5, a6, a7, a8, a9⟩ := H
  have eM : wM w' = wM w := e 91 0 (by omega)
  have eK : wK w' = wK w := e 91 20 (by omega)
  have hw : ∀ (a : Nat) (i : Int), 92 ≤ a → a ≤ 108 → w'.1 a i = w.1 a i := fun a i x y => e a i (Or.inl ⟨x, y⟩)
  refine ⟨by rw [eM]; exact a1, t, by rw [eK]; exact a3, ta, fun k k0 k1 => ?_, fun m hm => ?_, fun m b hm b0 b1 => ?_, sh, bo⟩
  · rw [show wKi w' k = wKi w k from e 110 k (by omega)]
    exact a5 k k0 (by omega)
  · rw [matOK_el hw]
    exact a6 m (by rwa [lvM_el eM] at hm)
  · rw [boxOK_el hw]
    refine a7 m b (by rwa [lvM_el eM] at hm) b0 ?_
    rwa [show wBx w' m = wBx w m from e 94 m (by omega)] at b1
theorem lvq_el (e : Elw w w') (q : Int) : lvq w' q = lvq w q := by
  unfold lvq lvM wM wBx wH wK
  simp -implicitDefEqProofs (disch := omega) only [e 91 0 (by omega), e 91 20 (by omega), e 94 _ (by omega), e 103 _ (by omega)]
/-- a change at low places alone -/
theorem Sim.hi (hS : Sim w A h) (e : Elw w w') (F : Fix h') (R : RR w' h') (W : WI w') (C : Cls w' A h') (S : ∀ s : Int, 0 ≤ s → s < 6 → ObS w' A h' s) (B : ∀ b n : Nat, 121 ≤ b → b + n ≤ gC h → Blk h h' b n) (g : gC h ≤ gC h') : Sim w' A h' := by
  have eM : wM w' = wM w := e 91 0 (by omega)
  have eK : wK w' = wK w := e 91 20 (by omega)
  have eB : ∀ m, wBx w' m = wBx w m := fun m => e 94 m (by omega)
  have eH : ∀ m, wH w' m = wH w m := fun m => e 103 m (by omega)
  refine ⟨F, R, W, C, fun m hm => ?_, fun m b hm b0 b1 => ?_, fun m k hm k0 k1 => ?_, fun k k0 k1 => ?_, S, ?_, by have := hS.gc; omega, ?_⟩
  · rw [lvM_el eM] at hm
    exact (hS.M hm).kp (B _ _ (hS.aM hm) (hS.tM hm)) rfl (e 92 _ (by omega)) (e 93 _ (by omega)) (eB m) (eH m) (fun p _ _ => e 102 _ (by omega)) (fun _ _ _ => rfl) (fun _ _ _ => rfl)
  · rw [lvM_el eM] at hm
    rw [eB] at b1
    exact (hS.B hm b0 b1).kp (B _ _ (hS.aB hm b0 b1) (hS.tB hm b0 b1)) rfl rfl (e 92 _ (by omega)) (fun g _ _ => e.P m _ g) (fun _ _ _ => e 96 _ (by omega)) (e 100 _ (by omega)) (fun _ _ _ => e 101 _ (by omega)) (e 98 _ (by omega)) (fun _ _ _ => e 99 _ (by omega)) (e 97 _ (by omega)) (e 93 _ (by omega))
  · rw [lvM_el eM] at hm
    rw [eH] at k1
    exact (hS.H hm k0 k1).kp (B _ _ (hS.aH hm k0 k1) (hS.tH hm k0 k1)) rfl (e 104 _ (by omega)) (e 105 _ (by omega)) (e 106 _ (by omega)) (e 107 _ (by omega)) (e 108 _ (by omega))
  · rw [eK] at k1
    exact (hS.K k0 k1).kp (B _ _ (hS.aK k0 k1) (hS.tK k0 k1)) rfl (e 110 _ (by omega))
  · intro q hq
    rw [lvq_el e] at hq
    obtain ⟨z1, z2, z3⟩ := hS.sep q hq
    exact ⟨z1, by omega, fun q' hq' hne => z3 q' (by rwa [lvq_el e] at hq') hne⟩
  · intro m b hm b0 b1
    rw [lvM_el eM] at hm
    rw [eB] at b1
    have z := (B _ _ (hS.aB hm b0 b1) (hS.tB hm b0 b1) _ (Nat.le_refl _) (by omega)).2.2.2.1
    have ec : cnX w' m (12 * m + b) = cnX w m (12 * m + b) := by
      unfold cnX
      rw [e.P, e.P, e.P, e.P, show ∀ k, wC w' (12 * m + b) k = wC w (12 * m + b) k from fun k => e 96 _ (by omega), show ∀ k, wC w' (12 * m + b) k = wC w (12 * m + b) k from fun k => e 96 _ (by omega), show ∀ k, wC w' (12 * m + b) k = wC w (12 * m + b) k from fun k => e 96 _ (by omega)]
    rw [z, ec]
    exact hS.wy m b hm b0 b1
end Q
