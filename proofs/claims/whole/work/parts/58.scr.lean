/-! what may change unseen: rows that are filled anew before they are read, and the tables once counted -/
def kpI (a i : Nat) : Prop := a = 2 ∨ (a = 3 ∧ (i = 9 ∨ i = 10)) ∨ (a = 4 ∧ i = 2) ∨ a = 5 ∨ a = 10 ∨ a = 11 ∨ (79 ≤ a ∧ a ≤ 90) ∨ (a = 91 ∧ (i = 0 ∨ i = 19 ∨ i = 20 ∨ i = 23)) ∨ (92 ≤ a ∧ a ≤ 115) ∨ 121 ≤ a
def Sc (w : WD) (A : Int → Nat) (h h' : AH) : Prop := (∀ a : Nat, gK h' a = gK h a) ∧ (∀ a : Nat, gN h' a = gN h a) ∧ (∀ a i : Nat, kpI a i → gI h' a i = gI h a i) ∧ (∀ a i : Nat, a ≠ 91 → (a < 121 ∨ i ≠ 8) → gJ h' a i = gJ h a i) ∧ (∀ a i : Nat, a ≠ 18 → ¬ (a = 16 ∧ i = 10) → gR h' a i = gR h a i) ∧ WyOK w A h' ∧ gC h' = gC h ∧ gS h' = gS h
section Q
variable {w : WD} {A : Int → Nat} {h h1 h2 : AH}
theorem Sc.rf (hS : Sim w A h) : Sc w A h h := ⟨fun _ => rfl, fun _ => rfl, fun _ _ _ => rfl, fun _ _ _ _ => rfl, fun _ _ _ _ => rfl, hS.wy, rfl, rfl⟩
theorem Sc.tr (s1 : Sc w A h h1) (s2 : Sc w A h1 h2) : Sc w A h h2 := by
  obtain ⟨a1, a2, a3, a4, a5, a6, a7, a8⟩ := s1
  obtain ⟨b1, b2, b3, b4, b5, b6, b7, b8⟩ := s2
  exact ⟨fun a => (b1 a).trans (a1 a), fun a => (b2 a).trans (a2 a), fun a i z => (b3 a i z).trans (a3 a i z), fun a i z y => (b4 a i z y).trans (a4 a i z y), fun a i z y => (b5 a i z y).trans (a5 a i z y), b6, b7.trans a7, b8.trans a8⟩
theorem fixR_ok : ∀ q ∈ fixR, q.1 ≠ 18 ∧ ¬ (q.1 = 16 ∧ q.2.1 = 10) := by decide
theorem tab_sc (s : Sc w A h h1) {t : Nat} (h18 : t ≠ 18) (h16 : t ≠ 16) (H : TabOK h t) : TabOK h1 t := by
  obtain ⟨a1, a2, a3, a4, a5, -⟩ := s
  obtain ⟨q1, q2, q3, q4, ⟨q5, q6⟩, ⟨q7, q8⟩, q9, q10⟩ := H
  exact ⟨by rw [a1, q1], by rw [a5 _ _ h18 (fun z => h16 z.1), q2], by rw [a5 _ _ h18 (fun z => h16 z.1), q3], by rw [a5 _ _ h18 (fun z => h16 z.1), q4], ⟨by rw [a1, q5], by rw [a2, q6]⟩, ⟨by rw [a1, q7], by rw [a2, q8]⟩, by rw [a1, q9], by rw [a2, q10]⟩
theorem Fix.sc (s : Sc w A h h1) (H : Fix h) : Fix h1 := by
  obtain ⟨f1, f2, f3, f4, f5, f6⟩ := H
  have s' := s
  obtain ⟨a1, a2, a3, a4, a5, -⟩ := s
  refine ⟨fun q hq => ⟨by rw [a1, (f1 q hq).1], fun z => by rw [a2, (f1 q hq).2 z]⟩, fun q hq => by rw [a5 _ _ (fixR_ok q hq).1 (fixR_ok q hq).2, f2 q hq], tab_sc s' (by decide) (by decide) f3, tab_sc s' (by decide) (by decide) f4, fun i hi => ⟨by rw [a5 _ _ (by decide) (by omega), (f5 i hi).1], tab_sc s' (by omega) (by omega) (f5 i hi).2⟩, fun i hi => ?_⟩
  obtain ⟨q1, q2, q3, q4, q5⟩ := f6 i hi
  exact ⟨by rw [a5 _ _ (by decide) (by omega), q1], by rw [a1, q2], by rw [a5 _ _ (by omega) (by omega), q3], by rw [a1, q4], by rw [a2, q5]⟩
theorem RR.sc (s : Sc w A h h1) (H : RR w h) : RR w h1 := by
  obtain ⟨a1, a2, a3, a4, a5, -⟩ := s
  obtain ⟨q1, q2, q3, q4, q5, q6⟩ := H
  exact ⟨fun a z z1 z2 z3 => by rw [a3 _ _ (by unfold kpI; omega), q1 a z z1 z2 z3], by rw [a3 _ _ (by unfold kpI; omega), q2], by rw [a3 _ _ (by unfold kpI; omega), q3], by rw [a3 _ _ (by unfold kpI; omega), q4], by rw [a3 _ _ (by unfold kpI; omega), q5], fun z hz => by rw [a4 _ _ (by decide) (by omega), q6 z hz]⟩
theorem Sim.aM (hS : Sim w A h) {m : Int} (hm : lvM w m) : 121 ≤ A m := (hS.sep m (Or.inl hm)).1
theorem Sim.aB (hS : Sim w A h) {m b : Int} (hm : lvM w m) (h0 : 0 ≤ b) (h1 : b < wBx w m) : 121 ≤ A (10 + (12 * m + b)) := (hS.sep _ (Or.inr (Or.inl ⟨m, b, hm, h0, h1, rfl⟩))).1
theorem Sim.aH (hS : Sim w A h) {m k : Int} (hm : lvM w m) (h0 : 0 ≤ k) (h1 : k < wH w m) : 121 ≤ A (60 + (12 * m + k)) := (hS.sep _ (Or.inr (Or.inr (Or.inl ⟨m, k, hm, h0, h1, rfl⟩)))).1
theorem Sim.aK (hS : Sim w A h) {k : Int} (h0 : 0 ≤ k) (h1 : k < wK w) : 121 ≤ A (110 + k) := (hS.sep _ (Or.inr (Or.inr (Or.inr ⟨k, h0, h1, rfl⟩)))).1
theorem Sim.sc (hS : Sim w A h) (s : Sc w A h h1) : Sim w A h1 := by
  have s' := s
  obtain ⟨a1, a2, a3, a4, a5, a6, a7, a8⟩ := s
  have hI : ∀ a i : Nat, 121 ≤ a → gI h1 a i = gI h a i := fun a i z => a3 a i (by unfold kpI; omega)
  have hR : ∀ a i : Nat, 121 ≤ a → gR h1 a i = gR h a i := fun a i z => a5 a i (by omega) (by omega)
  refine ⟨hS.F.sc s', hS.R.sc s', hS.W, ?_, fun m hm => ?_, fun m b hm b0 b1 => ?_, fun m k hm k0 k1 => ?_, fun k k0 k1 => ?_, fun i i0 i1 => ?_, ?_, ?_, a6⟩
  · obtain ⟨q1, q2, q3, q4, q5, q6, q7, q8⟩ := hS.C
    exact ⟨by rw [a3 _ _ (by unfold kpI; omega), q1], by rw [a3 _ _ (by unfold kpI; omega), q2], by rw [a3 _ _ (by unfold kpI; omega), q3], fun i z y => by rw [a3 _ _ (by unfold kpI; omega), q4 i z y], fun i z y => by rw [a3 _ _ (by unfold kpI; omega), q5 i z y], by rw [a3 _ _ (by unfold kpI; omega), q6], fun m hm => by rw [a5 _ _ (by decide) (by omega), q7 m hm], fun k z y => by rw [a5 _ _ (by decide) (by omega), q8 k z y]⟩
  · have z := hS.aM hm
    obtain ⟨k1, k2, k3, k4, k5, k6, k7, k8, k9, k10, k11, k12, k13, k14, k15, k16, k17⟩ := hS.M hm
    exact ⟨by rw [a1, k1], by rw [hI _ _ z, k2], by rw [hI _ _ z, k3], by rw [hI _ _ z, k4], by rw [hI _ _ z, k5], by rw [hR _ _ z, k6], by rw [hR _ _ z, k7], by rw [hR _ _ z, k8], by rw [a1, k9], by rw [a2, k10], by rw [a1, k11], by rw [a2, k12], by rw [a1, k13], by rw [a2, k14], fun p y x => by rw [hI _ _ (by omega), k15 p y x], fun p y x => by rw [hR _ _ (by omega), k16 p y x], fun p y x => by rw [hR _ _ (by omega), k17 p y x]⟩
  · have z := hS.aB hm b0 b1
    obtain ⟨o1, o2, o3, o4, o5, o6, ⟨o7, o8⟩, ⟨o9, o10⟩, ⟨o11, o12⟩, ⟨o13, o14⟩, d1, d2, d3, d4, d5, d6, d7⟩ := hS.B hm b0 b1
    exact ⟨by rw [a1, o1], by rw [hR _ _ z, o2], by rw [hR _ _ z, o3], by rw [hR _ _ z, o4], by rw [hR _ _ z, o5], by rw [hR _ _ z, o6], ⟨by rw [a1, o7], by rw [a2, o8]⟩, ⟨by rw [a1, o9], by rw [a2, o10]⟩, ⟨by rw [a1, o11], by rw [a2, o12]⟩, ⟨by rw [a1, o13], by rw [a2, o14]⟩, fun p y x => by rw [hI _ _ (by omega), d1 p y x], fun p y x => by rw [hI _ _ (by omega), d2 p y x], fun p y x => by rw [hI _ _ (by omega)]; exact d3 p y x, fun p y x => by rw [hI _ _ (by omega), d4 p y x], by rw [hI _ _ z, d5], by rw [hI _ _ z, d6], by rw [hI _ _ z, d7]⟩
  · have z := hS.aH hm k0 k1
    obtain ⟨q1, q2, q3, q4, q5, q6⟩ := hS.H hm k0 k1
    exact ⟨by rw [a1, q1], by rw [hI _ _ z, q2], by rw [hI _ _ z, q3], by rw [hI _ _ z, q4], by rw [hI _ _ z, q5], by rw [hI _ _ z, q6]⟩
  · have z := hS.aK k0 k1
    obtain ⟨q1, q2, q3, q4⟩ := hS.K k0 k1
    exact ⟨by rw [a1, q1], by rw [hI _ _ z, q2], by rw [hI _ _ z, q3], by rw [hR _ _ z, q4]⟩
  · obtain ⟨q1, q2, q3, q4⟩ := hS.S i0 i1
    exact ⟨by rw [a3 _ _ (by unfold kpI; omega), q1], fun y => by rw [a3 _ _ (by unfold kpI; omega), q2 y], by rw [a5 _ _ (by omega) (by omega), q3], fun j z y => by rw [a4 _ _ (by omega) (by omega)]; exact q4 j z y⟩
  · intro q hq
    have := hS.sep q hq
    rwa [a7]
  · rw [a7]; exact hS.gc
theorem Sc.ext (s : Sc w A h h1) : Ext h h1 := by
  obtain ⟨a1, a2, a3, a4, a5, a6, a7, a8⟩ := s
  exact ⟨by omega, by omega, a2 2, funext (fun i => a3 2 i (Or.inl rfl))⟩
theorem Sc.sI (s : Sc w A h h1) {a i : Nat} {v : Int32} (hk : ¬ kpI a i) : Sc w A h (sI h1 a i v) := by
  obtain ⟨a1, a2, a3, a4, a5, a6, a7, a8⟩ := s
  refine ⟨a1, a2, fun b j hb => ?_, a4, a5, a6, a7, a8⟩
  rw [← a3 b j hb]
  exact if_neg (fun z => hk (by rw [← z.1, ← z.2]; exact hb))
theorem Sc.aI (s : Sc w A h h1) {a : Nat} {c : Int → Int} (hk : ∀ i : Nat, ¬ kpI a i) : Sc w A h (aI h1 a c) := by
  obtain ⟨a1, a2, a3, a4, a5, a6, a7, a8⟩ := s
  refine ⟨a1, a2, fun b j hb => ?_, a4, a5, a6, a7, a8⟩
  rw [← a3 b j hb]
  exact gI_aIo h1 c (fun z => hk j (by rw [← z]; exact hb)) j
theorem Sc.sR (s : Sc w A h h1) {a i : Nat} {v : Nat} (hk : a = 18 ∨ (a = 16 ∧ i = 10)) : Sc w A h (sR h1 a i v) := by
  obtain ⟨a1, a2, a3, a4, a5, a6, a7, a8⟩ := s
  refine ⟨a1, a2, a3, a4, fun b j hb hc => ?_, a6, a7, a8⟩
  rw [← a5 b j hb hc]
  exact if_neg (fun z => by omega)
theorem Sc.sJ91 (s : Sc w A h h1) {i : Nat} {v : Int64} (hw : ∀ m b : Int, lvM w m → 0 ≤ b → b < wBx w m → A (10 + (12 * m + b)) ≠ 91) : Sc w A h (sJ h1 91 i v) := by
  obtain ⟨a1, a2, a3, a4, a5, a6, a7, a8⟩ := s
  refine ⟨a1, a2, a3, fun b j hb hc => ?_, a5, fun m b hm b0 b1 => ?_, a7, a8⟩
  · rw [← a4 b j hb hc]
    exact if_neg (fun z => hb z.1)
  · have e : gJ (sJ h1 91 i v) (A (10 + (12 * m + b))) 8 = gJ h1 (A (10 + (12 * m + b))) 8 := if_neg (fun z => hw m b hm b0 b1 z.1)
    rw [e]; exact a6 m b hm b0 b1
theorem Sc.sJ8 (hS : Sim w A h) (s : Sc w A h h1) {m b : Int} (hm : lvM w m) (b0 : 0 ≤ b) (b1 : b < wBx w m) : Sc w A h (sJ h1 (A (10 + (12 * m + b))) 8 (jv (cnX w m (12 * m + b)))) := by
  have hz := hS.aB hm b0 b1
  obtain ⟨a1, a2, a3, a4, a5, a6, a7, a8⟩ := s
  refine ⟨a1, a2, a3, fun b' j hb hc => ?_, a5, fun m' b' hm' b0' b1' => ?_, a7, a8⟩
  · rw [← a4 b' j hb hc]
    exact if_neg (fun z => by omega)
  · by_cases e : 12 * m' + b' = 12 * m + b
    · have h1' := hS.W.mat hm
      have h2' := hS.W.mat hm'
      have e2 : m' = m := by have := h1'.2.2.1; have := h2'.2.2.1; omega
      rw [e, e2]
      right
      exact if_pos ⟨rfl, rfl⟩
    · have hs := (hS.sep _ (Or.inr (Or.inl ⟨m, b, hm, b0, b1, rfl⟩))).2.2 (10 + (12 * m' + b')) (Or.inr (Or.inl ⟨m', b', hm', b0', b1', rfl⟩)) (by omega)
      have w1 := hS.W.mat hm
      have w2 := hS.W.mat hm'
      have w3 := hS.W.1
      have : sz (10 + (12 * m + b)) = 5 := by
        unfold sz; obtain ⟨l1, l2⟩ := hm; rw [if_neg (by omega), if_pos (by have := w1.2.2.1; omega)]
      have : sz (10 + (12 * m' + b')) = 5 := by
        unfold sz; obtain ⟨l1, l2⟩ := hm'; rw [if_neg (by omega), if_pos (by have := w2.2.2.1; omega)]
      have e3 : gJ (sJ h1 (A (10 + (12 * m + b))) 8 (jv (cnX w m (12 * m + b)))) (A (10 + (12 * m' + b'))) 8 = gJ h1 (A (10 + (12 * m' + b'))) 8 := if_neg (fun z => by omega)
      rw [e3]; exact a6 m' b' hm' b0' b1'
/-- an answer, and nothing seen is changed -/
def CSm {ρ : Type} (w : WD) (A : Int → Nat) (f : AH → Option (ρ × AH)) (h : AH) (r : ρ) : Prop := ∃ h1, f h = some (r, h1) ∧ Sc w A h h1
theorem CSm.still {ρ : Type} {f : AH → Option (ρ × AH)} {r : ρ} (hS : Sim w A h) (hf : f h = some (r, h)) : CSm w A f h r := ⟨h, hf, Sc.rf hS⟩
theorem Both.scr {ρ : Type} {f g : AH → Option (ρ × AH)} {r : ρ} (hS : Sim w A h) (hf : CSm w A f h r) (hg : ∀ h1, Sim w A h1 → CSm w A g h1 r) : Both f g h := by
  obtain ⟨h1, f1, s1⟩ := hf
  obtain ⟨h2, g1, s2⟩ := hg h1 (hS.sc s1)
  exact ⟨r, h1, h2, w, A, f1, g1, hS.sc (s1.tr s2), (s1.tr s2).ext, s1.ext.2.2.1, s1.ext.2.2.2, K91 (hS.sc s1).F⟩
end Q
