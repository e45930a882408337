/-! a heap that grew: what stood stands -/
def Lw (h h' : AH) : Prop := (∀ a : Nat, a < gC h → gK h' a = gK h a) ∧ (∀ a : Nat, a < gC h → gN h' a = gN h a) ∧ (∀ a i : Nat, a < gC h → gI h' a i = gI h a i) ∧ (∀ a i : Nat, a < gC h → gJ h' a i = gJ h a i) ∧ (∀ a i : Nat, a < gC h → gR h' a i = gR h a i) ∧ gC h ≤ gC h'
theorem Lw.rf (h : AH) : Lw h h := ⟨fun _ _ => rfl, fun _ _ => rfl, fun _ _ _ => rfl, fun _ _ _ => rfl, fun _ _ _ => rfl, Nat.le_refl _⟩
theorem Lw.tr {h h1 h2 : AH} (a : Lw h h1) (b : Lw h1 h2) : Lw h h2 := by
  obtain ⟨a1, a2, a3, a4, a5, a6⟩ := a
  obtain ⟨b1, b2, b3, b4, b5, b6⟩ := b
  exact ⟨fun x z => (b1 x (by omega)).trans (a1 x z), fun x z => (b2 x (by omega)).trans (a2 x z), fun x i z => (b3 x i (by omega)).trans (a3 x i z), fun x i z => (b4 x i (by omega)).trans (a4 x i z), fun x i z => (b5 x i (by omega)).trans (a5 x i z), by omega⟩
theorem Lw.nw {h h1 : AH} (a : Lw h h1) (k n : Nat) : Lw h (nw h1 k n) := by
  obtain ⟨a1, a2, a3, a4, a5, a6⟩ := a
  exact ⟨fun x z => by rw [← a1 x z]; exact if_neg (by omega), fun x z => by rw [← a2 x z]; exact if_neg (by omega), fun x i z => by rw [← a3 x i z]; exact if_neg (by omega), fun x i z => by rw [← a4 x i z]; exact if_neg (by omega), fun x i z => by rw [← a5 x i z]; exact if_neg (by omega), Nat.le_succ_of_le a6⟩
theorem Lw.sI {h h1 : AH} (a : Lw h h1) {b i : Nat} {v : Int32} (hb : gC h ≤ b) : Lw h (sI h1 b i v) := by
  obtain ⟨a1, a2, a3, a4, a5, a6⟩ := a
  exact ⟨a1, a2, fun x j z => by rw [gI_sIo _ _ (Or.inl (by omega)), a3 x j z], a4, a5, a6⟩
theorem Lw.sJ {h h1 : AH} (a : Lw h h1) {b i : Nat} {v : Int64} (hb : gC h ≤ b) : Lw h (sJ h1 b i v) := by
  obtain ⟨a1, a2, a3, a4, a5, a6⟩ := a
  exact ⟨a1, a2, a3, fun x j z => by rw [gJ_sJo _ _ (Or.inl (by omega)), a4 x j z], a5, a6⟩
theorem Lw.sR {h h1 : AH} (a : Lw h h1) {b i v : Nat} (hb : gC h ≤ b) : Lw h (sR h1 b i v) := by
  obtain ⟨a1, a2, a3, a4, a5, a6⟩ := a
  exact ⟨a1, a2, a3, a4, fun x j z => by rw [← a5 x j z]; exact if_neg (by omega), a6⟩
section Q
variable {w : WD} {A : Int → Nat} {h h1 : AH}
theorem fixK_le : ∀ q ∈ fixK, q.1 ≤ 120 := by decide
theorem fixR_le : ∀ q ∈ fixR, q.1 ≤ 120 := by decide
theorem tab_low (s : Lw h h1) (g : 121 ≤ gC h) {t : Nat} (ht : t + 3 ≤ 120) (H : TabOK h t) : TabOK h1 t := by
  obtain ⟨a1, a2, a3, a4, a5, -⟩ := s
  obtain ⟨q1, q2, q3, q4, ⟨q5, q6⟩, ⟨q7, q8⟩, q9, q10⟩ := H
  exact ⟨by rw [a1 _ (by omega), q1], by rw [a5 _ _ (by omega), q2], by rw [a5 _ _ (by omega), q3], by rw [a5 _ _ (by omega), q4], ⟨by rw [a1 _ (by omega), q5], by rw [a2 _ (by omega), q6]⟩, ⟨by rw [a1 _ (by omega), q7], by rw [a2 _ (by omega), q8]⟩, by rw [a1 _ (by omega), q9], by rw [a2 _ (by omega), q10]⟩
theorem Fix.low (s : Lw h h1) (g : 121 ≤ gC h) (H : Fix h) : Fix h1 := by
  obtain ⟨f1, f2, f3, f4, f5, f6⟩ := H
  have s' := s
  obtain ⟨a1, a2, a3, a4, a5, -⟩ := s
  refine ⟨fun q hq => ⟨by rw [a1 _ (by have := fixK_le q hq; omega), (f1 q hq).1], fun z => by rw [a2 _ (by have := fixK_le q hq; omega), (f1 q hq).2 z]⟩, fun q hq => by rw [a5 _ _ (by have := fixR_le q hq; omega), f2 q hq], tab_low s' g (by decide) f3, tab_low s' g (by decide) f4, fun i hi => ⟨by rw [a5 _ _ (by omega), (f5 i hi).1], tab_low s' g (by omega) (f5 i hi).2⟩, fun i hi => ?_⟩
  obtain ⟨q1, q2, q3, q4, q5⟩ := f6 i hi
  exact ⟨by rw [a5 _ _ (by omega), q1], by rw [a1 _ (by omega), q2], by rw [a5 _ _ (by omega), q3], by rw [a1 _ (by omega), q4], by rw [a2 _ (by omega), q5]⟩
theorem RR.low (s : Lw h h1) (g : 121 ≤ gC h) (H : RR w h) : RR w h1 := by
  obtain ⟨a1, a2, a3, a4, a5, -⟩ := s
  obtain ⟨q1, q2, q3, q4, q5, q6⟩ := H
  exact ⟨fun a z z1 z2 z3 => by rw [a3 _ _ (by omega), q1 a z z1 z2 z3], by rw [a3 _ _ (by omega), q2], by rw [a3 _ _ (by omega), q3], by rw [a3 _ _ (by omega), q4], by rw [a3 _ _ (by omega), q5], fun z hz => by rw [a4 _ _ (by omega), q6 z hz]⟩
theorem Sim.tM (hS : Sim w A h) {m : Int} (hm : lvM w m) : A m + 4 ≤ gC h := by
  have := (hS.sep m (Or.inl hm)).2.1
  obtain ⟨⟨w1, w2⟩, -⟩ := hS.W
  obtain ⟨l1, l2⟩ := hm
  rwa [show sz m = 4 by unfold sz; rw [if_pos (by omega)]] at this
theorem Sim.tB (hS : Sim w A h) {m b : Int} (hm : lvM w m) (h0 : 0 ≤ b) (h1 : b < wBx w m) : A (10 + (12 * m + b)) + 5 ≤ gC h := by
  have := (hS.sep _ (Or.inr (Or.inl ⟨m, b, hm, h0, h1, rfl⟩))).2.1
  obtain ⟨⟨w1, w2⟩, -⟩ := hS.W
  obtain ⟨-, -, ⟨b2, b3⟩, -⟩ := hS.W.mat hm
  obtain ⟨l1, l2⟩ := hm
  rwa [show sz (10 + (12 * m + b)) = 5 by unfold sz; rw [if_neg (by omega), if_pos (by omega)]] at this
theorem Sim.tH (hS : Sim w A h) {m k : Int} (hm : lvM w m) (h0 : 0 ≤ k) (h1 : k < wH w m) : A (60 + (12 * m + k)) + 1 ≤ gC h := by
  have := (hS.sep _ (Or.inr (Or.inr (Or.inl ⟨m, k, hm, h0, h1, rfl⟩)))).2.1
  obtain ⟨l1, l2⟩ := hm
  rwa [show sz (60 + (12 * m + k)) = 1 by unfold sz; rw [if_neg (by omega), if_neg (by omega)]] at this
theorem Sim.tK (hS : Sim w A h) {k : Int} (h0 : 0 ≤ k) (h1 : k < wK w) : A (110 + k) + 1 ≤ gC h := by
  have := (hS.sep _ (Or.inr (Or.inr (Or.inr ⟨k, h0, h1, rfl⟩)))).2.1
  rwa [show sz (110 + k) = 1 by unfold sz; rw [if_neg (by omega), if_neg (by omega)]] at this
theorem Sim.low (hS : Sim w A h) (s : Lw h h1) : Sim w A h1 := by
  have s' := s
  have g := hS.gc
  obtain ⟨a1, a2, a3, a4, a5, a6⟩ := s
  refine ⟨hS.F.low s' g, hS.R.low s' g, hS.W, ?_, fun m hm => ?_, fun m b hm b0 b1 => ?_, fun m k hm k0 k1 => ?_, fun k k0 k1 => ?_, fun i i0 i1 => ?_, ?_, by omega, ?_⟩
  · obtain ⟨q1, q2, q3, q4, q5, q6, q7, q8⟩ := hS.C
    exact ⟨by rw [a3 _ _ (by omega), q1], by rw [a3 _ _ (by omega), q2], by rw [a3 _ _ (by omega), q3], fun i z y => by rw [a3 _ _ (by omega), q4 i z y], fun i z y => by rw [a3 _ _ (by omega), q5 i z y], by rw [a3 _ _ (by omega), q6], fun m hm => by rw [a5 _ _ (by omega), q7 m hm], fun k z y => by rw [a5 _ _ (by omega), q8 k z y]⟩
  · have z := hS.tM hm
    obtain ⟨k1, k2, k3, k4, k5, k6, k7, k8, k9, k10, k11, k12, k13, k14, k15, k16, k17⟩ := hS.M hm
    exact ⟨by rw [a1 _ (by omega), k1], by rw [a3 _ _ (by omega), k2], by rw [a3 _ _ (by omega), k3], by rw [a3 _ _ (by omega), k4], by rw [a3 _ _ (by omega), k5], by rw [a5 _ _ (by omega), k6], by rw [a5 _ _ (by omega), k7], by rw [a5 _ _ (by omega), k8], by rw [a1 _ (by omega), k9], by rw [a2 _ (by omega), k10], by rw [a1 _ (by omega), k11], by rw [a2 _ (by omega), k12], by rw [a1 _ (by omega), k13], by rw [a2 _ (by omega), k14], fun p y x => by rw [a3 _ _ (by omega), k15 p y x], fun p y x => by rw [a5 _ _ (by omega), k16 p y x], fun p y x => by rw [a5 _ _ (by omega), k17 p y x]⟩
  · have z := hS.tB hm b0 b1
    obtain ⟨o1, o2, o3, o4, o5, o6, ⟨o7, o8⟩, ⟨o9, o10⟩, ⟨o11, o12⟩, ⟨o13, o14⟩, d1, d2, d3, d4, d5, d6, d7⟩ := hS.B hm b0 b1
    exact ⟨by rw [a1 _ (by omega), o1], by rw [a5 _ _ (by omega), o2], by rw [a5 _ _ (by omega), o3], by rw [a5 _ _ (by omega), o4], by rw [a5 _ _ (by omega), o5], by rw [a5 _ _ (by omega), o6], ⟨by rw [a1 _ (by omega), o7], by rw [a2 _ (by omega), o8]⟩, ⟨by rw [a1 _ (by omega), o9], by rw [a2 _ (by omega), o10]⟩, ⟨by rw [a1 _ (by omega), o11], by rw [a2 _ (by omega), o12]⟩, ⟨by rw [a1 _ (by omega), o13], by rw [a2 _ (by omega), o14]⟩, fun p y x => by rw [a3 _ _ (by omega), d1 p y x], fun p y x => by rw [a3 _ _ (by omega), d2 p y x], fun p y x => by rw [a3 _ _ (by omega)]; exact d3 p y x, fun p y x => by rw [a3 _ _ (by omega), d4 p y x], by rw [a3 _ _ (by omega), d5], by rw [a3 _ _ (by omega), d6], by rw [a3 _ _ (by omega), d7]⟩
  · have z := hS.tH hm k0 k1
    obtain ⟨q1, q2, q3, q4, q5, q6⟩ := hS.H hm k0 k1
    exact ⟨by rw [a1 _ (by omega), q1], by rw [a3 _ _ (by omega), q2], by rw [a3 _ _ (by omega), q3], by rw [a3 _ _ (by omega), q4], by rw [a3 _ _ (by omega), q5], by rw [a3 _ _ (by omega), q6]⟩
  · have z := hS.tK k0 k1
    obtain ⟨q1, q2, q3, q4⟩ := hS.K k0 k1
    exact ⟨by rw [a1 _ (by omega), q1], by rw [a3 _ _ (by omega), q2], by rw [a3 _ _ (by omega), q3], by rw [a5 _ _ (by omega), q4]⟩
  · obtain ⟨q1, q2, q3, q4⟩ := hS.S i0 i1
    exact ⟨by rw [a3 _ _ (by omega), q1], fun y => by rw [a3 _ _ (by omega), q2 y], by rw [a5 _ _ (by omega), q3], fun j z y => by rw [a4 _ _ (by omega)]; exact q4 j z y⟩
  · intro q hq
    obtain ⟨z1, z2, z3⟩ := hS.sep q hq
    exact ⟨z1, by omega, z3⟩
  · intro m b hm b0 b1
    have z := hS.tB hm b0 b1
    rw [a4 _ _ (by omega)]
    exact hS.wy m b hm b0 b1
end Q
