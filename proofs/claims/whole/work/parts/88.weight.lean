/-! the world changed at one place -/
def wZ (w : WD) (a : Nat) (z v : Int) : WD := ((fun b i => if b = a ∧ i = z then v else w.1 b i), w.2)
theorem wZ_at (w : WD) (a : Nat) (z v : Int) : (wZ w a z v).1 a z = v := if_pos ⟨rfl, rfl⟩
theorem wZ_o (w : WD) {a b : Nat} {z v i : Int} (h : b ≠ a ∨ i ≠ z) : (wZ w a z v).1 b i = w.1 b i := if_neg (by rintro ⟨e1, e2⟩; rcases h with q | q <;> contradiction)
section Q
variable {w : WD} {A : Int → Nat} {h h1 : AH}
theorem QS.sI (hS : QS w h) {a i : Nat} {v : Int32} (ha : a < 91 ∨ 114 < a) : QS w (sI h a i v) := by
  obtain ⟨f, ⟨q1, q2, q3, q4, q5, q6⟩, hw⟩ := hS
  exact ⟨f, ⟨fun b z z1 z2 z3 => by rw [gI_sIo _ _ (Or.inl (by omega)), q1 b z z1 z2 z3], by rw [gI_sIo _ _ (Or.inl (by omega)), q2], by rw [gI_sIo _ _ (Or.inl (by omega)), q3], by rw [gI_sIo _ _ (Or.inl (by omega)), q4], by rw [gI_sIo _ _ (Or.inl (by omega)), q5], q6⟩, hw⟩
theorem RR_wZ {a : Nat} {z v : Int} (H : RR w h) (a0 : 92 ≤ a) (a1 : a ≤ 114) (z0 : 0 ≤ z) : RR (wZ w a z v) (sI h a z.toNat (iv v)) := by
  obtain ⟨q1, q2, q3, q4, q5, q6⟩ := H
  have o : ∀ i : Int, (wZ w a z v).1 91 i = w.1 91 i := fun i => wZ_o w (Or.inl (by omega))
  refine ⟨fun b i b0 b1 i0 => ?_, ?_, ?_, ?_, ?_, q6⟩
  · by_cases e : b = a ∧ i = z
    · rw [e.1, e.2, gI_sIs, wZ_at]
    · rw [gI_sIo _ _ (by omega), wZ_o w (by omega), q1 b i b0 b1 i0]
  · rw [gI_sIo _ _ (Or.inl (by omega)), q2]; exact congrArg iv (o 0).symm
  · rw [gI_sIo _ _ (Or.inl (by omega)), q3]; exact congrArg iv (o 19).symm
  · rw [gI_sIo _ _ (Or.inl (by omega)), q4]; exact congrArg iv (o 20).symm
  · rw [gI_sIo _ _ (Or.inl (by omega)), q5]; exact congrArg iv (o 23).symm
theorem sep_M (hS : Sim w A h) {m q : Int} (hm : lvM w m) (hq : lvq w q) (hne : q ≠ m) : A q + sz q ≤ A m ∨ A m + 4 ≤ A q := by
  have := (hS.sep m (Or.inl hm)).2.2 q hq (fun e => hne e.symm)
  obtain ⟨⟨w1, w2⟩, -⟩ := hS.W
  obtain ⟨l1, l2⟩ := hm
  rw [show sz m = 4 by unfold sz; rw [if_pos (by omega)]] at this
  omega
theorem Sim_weight (hS : Sim w A h) {m p v : Int} (hl : lvM w m) (p0 : 0 ≤ p) (p1 : p < 12) (v0 : -99 ≤ v) (v1 : v ≤ 99) : Sim (wZ w 102 (12 * m + p) v) A (sI (sI h (A m + 3) p.toNat (iv v)) 102 (12 * m + p).toNat (iv v)) := by
  have hA := hS.aM hl
  obtain ⟨l1, l2⟩ := id hl
  have e : ∀ b i : Nat, b ≠ A m + 3 → b ≠ 102 → gI (sI (sI h (A m + 3) p.toNat (iv v)) 102 (12 * m + p).toNat (iv v)) b i = gI h b i := fun b i x1 x2 => by
    rw [gI_sIo _ _ (Or.inl x2), gI_sIo _ _ (Or.inl x1)]
  have hW' : WI (wZ w 102 (12 * m + p) v) := by
    obtain ⟨a1, a2, a3, a4, a5, a6, a7, a8, a9⟩ := hS.W
    refine ⟨a1, a2, a3, a4, a5, fun m' hm' => ?_, a7, a8, a9⟩
    obtain ⟨b1, b2, b3, b4, b5, b6⟩ := a6 m' hm'
    refine ⟨b1, b2, b3, b4, fun p' p0' p1' => ?_, b6⟩
    show -99 ≤ (wZ w 102 (12 * m + p) v).1 102 (12 * m' + p') ∧ (wZ w 102 (12 * m + p) v).1 102 (12 * m' + p') ≤ 99
    by_cases z : 12 * m' + p' = 12 * m + p
    · rw [z, wZ_at]; exact ⟨v0, v1⟩
    · rw [wZ_o w (Or.inr z)]; exact b5 p' p0' p1'
  refine ⟨hS.F, RR_wZ (w := w) ⟨fun b z z1 z2 z3 => by rw [gI_sIo _ _ (Or.inl (by omega)), hS.R.1 b z z1 z2 z3], by rw [gI_sIo _ _ (Or.inl (by omega)), hS.R.2.1], by rw [gI_sIo _ _ (Or.inl (by omega)), hS.R.2.2.1], by rw [gI_sIo _ _ (Or.inl (by omega)), hS.R.2.2.2.1], by rw [gI_sIo _ _ (Or.inl (by omega)), hS.R.2.2.2.2.1], hS.R.2.2.2.2.2⟩ (by decide) (by decide) (by omega), hW', ?_, fun m' hm' => ?_, fun m' b hm' b0 b1 => ?_, fun m' k hm' k0 k1 => ?_, fun k k0 k1 => ?_, fun i i0 i1 => ?_, hS.sep, hS.gc, hS.wy⟩
  · obtain ⟨q1, q2, q3, q4, q5, q6, q7, q8⟩ := hS.C
    exact ⟨by rw [e _ _ (by omega) (by omega)]; exact q1, by rw [e _ _ (by omega) (by omega)]; exact q2, by rw [e _ _ (by omega) (by omega)]; exact q3, fun i z y => by rw [e _ _ (by omega) (by omega)]; exact q4 i z y, fun i z y => by rw [e _ _ (by omega) (by omega)]; exact q5 i z y, by rw [e _ _ (by omega) (by omega)]; exact q6, q7, q8⟩
  · have hm'' : lvM w m' := hm'
    have hA' := hS.aM hm''
    obtain ⟨k1, k2, k3, k4, k5, k6, k7, k8, k9, k10, k11, k12, k13, k14, k15, k16, k17⟩ := hS.M hm''
    have d : A m' ≠ A m + 3 := by
      by_cases z : m' = m
      · rw [z]; omega
      · have := sep_M hS hl (Or.inl hm'') z
        have hs : sz m' = 4 := by obtain ⟨⟨w1, w2⟩, -⟩ := hS.W; obtain ⟨x1, x2⟩ := hm''; unfold sz; rw [if_pos (by omega)]
        omega
    refine ⟨k1, by rw [e _ _ d (by omega)]; exact k2, by rw [e _ _ d (by omega)]; exact k3, by rw [e _ _ d (by omega)]; exact k4, by rw [e _ _ d (by omega)]; exact k5, k6, k7, k8, k9, k10, k11, k12, k13, k14, fun p' p0' p1' => ?_, k16, k17⟩
    show _ = iv ((wZ w 102 (12 * m + p) v).1 102 (12 * m' + p'))
    by_cases z : m' = m
    · rw [z, gI_sIo _ _ (Or.inl (by omega))]
      by_cases y : p' = p
      · rw [y, gI_sIs, wZ_at]
      · rw [gI_sIo _ _ (Or.inr (by omega)), wZ_o w (Or.inr (by omega)), ← z]; exact k15 p' p0' p1'
    · have := sep_M hS hl (Or.inl hm'') z
      have hs : sz m' = 4 := by obtain ⟨⟨w1, w2⟩, -⟩ := hS.W; obtain ⟨x1, x2⟩ := hm''; unfold sz; rw [if_pos (by omega)]
      rw [e _ _ (by omega) (by omega), wZ_o w (Or.inr (by omega))]; exact k15 p' p0' p1'
  · have hm'' : lvM w m' := hm'
    have hA' := hS.aB hm'' b0 b1
    obtain ⟨o1, o2, o3, o4, o5, o6, o7, o8, o9, o10, d1, d2, d3, d4, d5, d6, d7⟩ := hS.B hm'' b0 b1
    have hs : sz (10 + (12 * m' + b)) = 5 := by
      obtain ⟨⟨w1, w2⟩, -⟩ := hS.W
      obtain ⟨-, -, ⟨b2, b3⟩, -⟩ := hS.W.mat hm''
      obtain ⟨x1, x2⟩ := hm''
      have b1' : b < wBx w m' := b1
      unfold sz; rw [if_neg (by omega), if_pos (by omega)]
    have d := sep_M hS hl (Or.inr (Or.inl ⟨m', b, hm'', b0, b1, rfl⟩)) (by obtain ⟨⟨w1, w2⟩, -⟩ := hS.W; obtain ⟨x1, x2⟩ := hm''; omega)
    rw [hs] at d
    exact ⟨o1, o2, o3, o4, o5, o6, o7, o8, o9, o10, fun p y x => by rw [e _ _ (by omega) (by omega)]; exact d1 p y x, fun p y x => by rw [e _ _ (by omega) (by omega)]; exact d2 p y x, fun p y x => by rw [e _ _ (by omega) (by omega)]; exact d3 p y x, fun p y x => by rw [e _ _ (by omega) (by omega)]; exact d4 p y x, by rw [e _ _ (by omega) (by omega)]; exact d5, by rw [e _ _ (by omega) (by omega)]; exact d6, by rw [e _ _ (by omega) (by omega)]; exact d7⟩
  · have hm'' : lvM w m' := hm'
    have hA' := hS.aH hm'' k0 k1
    obtain ⟨q1, q2, q3, q4, q5, q6⟩ := hS.H hm'' k0 k1
    have hs : sz (60 + (12 * m' + k)) = 1 := by obtain ⟨x1, x2⟩ := hm''; unfold sz; rw [if_neg (by omega), if_neg (by omega)]
    have d := sep_M hS hl (Or.inr (Or.inr (Or.inl ⟨m', k, hm'', k0, k1, rfl⟩))) (by obtain ⟨⟨w1, w2⟩, -⟩ := hS.W; obtain ⟨x1, x2⟩ := hm''; omega)
    rw [hs] at d
    exact ⟨q1, by rw [e _ _ (by omega) (by omega)]; exact q2, by rw [e _ _ (by omega) (by omega)]; exact q3, by rw [e _ _ (by omega) (by omega)]; exact q4, by rw [e _ _ (by omega) (by omega)]; exact q5, by rw [e _ _ (by omega) (by omega)]; exact q6⟩
  · have hA' := hS.aK k0 k1
    obtain ⟨q1, q2, q3, q4⟩ := hS.K k0 k1
    have hs : sz (110 + k) = 1 := by unfold sz; rw [if_neg (by omega), if_neg (by omega)]
    have d := sep_M hS hl (Or.inr (Or.inr (Or.inr ⟨k, k0, k1, rfl⟩))) (by obtain ⟨⟨w1, w2⟩, -⟩ := hS.W; omega)
    rw [hs] at d
    exact ⟨q1, by rw [e _ _ (by omega) (by omega)]; exact q2, by rw [e _ _ (by omega) (by omega)]; exact q3, q4⟩
  · obtain ⟨q1, q2, q3, q4⟩ := hS.S i0 i1
    exact ⟨by rw [e _ _ (by omega) (by omega)]; exact q1, fun y => by rw [e _ _ (by omega) (by omega)]; exact q2 y, q3, q4⟩
end Q
