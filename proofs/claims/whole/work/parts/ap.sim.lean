/-! the start: the likeness of what both constructors leave -/
theorem iH_zero {a i : Nat} : ∀ (l : List OpH) (c : Nat), (∀ o ∈ l, o.1 = 0 ∨ o.1 = 1 ∨ ¬ (o.2.1 = a ∧ o.2.2.1 = i)) → iH c l a i 0 = 0 := by
  intro l
  induction l with
  | nil => intro c _; rfl
  | cons o l ih =>
    intro c H
    have h1 := H o List.mem_cons_self
    have h2 := fun p hp => H p (List.mem_cons_of_mem o hp)
    rw [iH_c]
    by_cases e : o.1 = 0
    · rw [if_pos e, ite_self]; exact ih (c + 1) h2
    · rw [if_neg e]
      by_cases e1 : o.1 = 1
      · rw [if_pos e1]; exact ih c h2
      · rw [if_neg e1, if_neg (by omega)]; exact ih c h2
theorem iH_old {a i : Nat} {d : Int32} : ∀ (l : List OpH) (c : Nat), a < c → (∀ o ∈ l, o.1 = 0 ∨ o.1 = 1 ∨ ¬ (o.2.1 = a ∧ o.2.2.1 = i)) → iH c l a i d = d := by
  intro l
  induction l with
  | nil => intro c _ _; rfl
  | cons o l ih =>
    intro c hc H
    have h1 := H o List.mem_cons_self
    have h2 := fun p hp => H p (List.mem_cons_of_mem o hp)
    rw [iH_c]
    by_cases e : o.1 = 0
    · rw [if_pos e, if_neg (by omega)]; exact ih (c + 1) (by omega) h2
    · rw [if_neg e]
      by_cases e1 : o.1 = 1
      · rw [if_pos e1]; exact ih c hc h2
      · rw [if_neg e1, if_neg (by omega)]; exact ih c hc h2
def oL : List OpH := ([] : List OpH) ++ [(0, 111, 11, 0)] ++ o11 ++ [(0, 112, 45, 0)] ++ o12
def tabC (t : Nat) : Prop := kH 3 oL t 0 = 108 ∧ rH 3 oL t 0 0 = t + 1 ∧ rH 3 oL t 1 0 = t + 2 ∧ rH 3 oL t 2 0 = t + 3 ∧ (kH 3 oL (t + 1) 0 = 1 ∧ nH 3 oL (t + 1) 0 = 12) ∧ (kH 3 oL (t + 2) 0 = 1 ∧ nH 3 oL (t + 2) 0 = 4) ∧ kH 3 oL (t + 3) 0 = 1 ∧ nH 3 oL (t + 3) 0 = 3
theorem s_fixK : ∀ q ∈ fixK, q.1 ≠ 2 ∧ kH 3 oL q.1 0 = q.2.1 ∧ (q.2.1 < 100 → nH 3 oL q.1 0 = q.2.2) := by decide +kernel
theorem s_fixR : ∀ q ∈ fixR, rH 3 oL q.1 q.2.1 0 = q.2.2 := by decide +kernel
theorem s_t12 : tabC 12 := by unfold tabC; decide +kernel
theorem s_t74 : tabC 74 := by unfold tabC; decide +kernel
theorem s_t24 : ∀ i : Nat, i < 12 → rH 3 oL 17 i 0 = 24 + 4 * i ∧ tabC (24 + 4 * i) := by unfold tabC; decide +kernel
theorem s_sh : ∀ s : Nat, s < 6 → rH 3 oL 9 s 0 = 79 + 2 * s ∧ kH 3 oL (79 + 2 * s) 0 = 107 ∧ rH 3 oL (79 + 2 * s) 0 0 = 80 + 2 * s ∧ kH 3 oL (80 + 2 * s) 0 = 2 ∧ nH 3 oL (80 + 2 * s) 0 = 60 := by decide +kernel
theorem s_sh2 : ∀ s : Nat, s < 6 → iH 3 oL (79 + 2 * s) 2 0 = iv (-1) ∧ rH 3 oL (79 + 2 * s) 1 0 = 0 ∧ iH 3 oL 112 s 0 = iv (-1) ∧ iH 3 oL 113 s 0 = iv (-1) := by decide +kernel
theorem s_ops : ∀ o ∈ oL, o.1 = 0 ∨ o.1 = 1 ∨ (79 ≤ o.2.1 ∧ o.2.1 ≤ 90 ∧ o.2.2.1 = 2) ∨ (112 ≤ o.2.1 ∧ o.2.1 ≤ 113 ∧ o.2.2.1 < 6) := by decide +kernel
theorem s_cnt : cH 3 oL = 121 ∧ tH 0 oL ≤ 10000 := by decide +kernel
theorem s_mid : cH 3 (([] : List OpH) ++ [(0, 111, 11, 0)] ++ o11 ++ [(0, 112, 45, 0)]) = 92 ∧ kH 3 (([] : List OpH) ++ [(0, 111, 11, 0)] ++ o11 ++ [(0, 112, 45, 0)]) 91 0 = 112 ∧ cH 3 (([] : List OpH) ++ [(0, 111, 11, 0)] ++ o11) = 91 := by decide +kernel
section S
variable {L : Nat} {xs : Nat → Int32} {R : Option (Int32 × AH)}
theorem s_C : gC (h0 L xs) = 3 := rfl
theorem law_start : f_L_law 2 (h0 L xs) = f_L_law_18 2 3 91 (iv 0) (dnH (h0 L xs) oL) := by
  have a1 := c_made (g := dnH (h0 L xs) (([] : List OpH) ++ [(0, 111, 11, 0)])) (dC s_C rfl) (dK (d := gK (h0 L xs) 3) s_C rfl rfl)
  have a2 := q_made (g := dnH (h0 L xs) (([] : List OpH) ++ [(0, 111, 11, 0)] ++ o11 ++ [(0, 112, 45, 0)])) (dC s_C s_mid.1) (dK (d := 0) s_C rfl s_mid.2.1)
  have b1 : nw (h0 L xs) 111 11 = dnH (h0 L xs) (([] : List OpH) ++ [(0, 111, 11, 0)]) := rfl
  have c1 : gC (dnH (h0 L xs) (([] : List OpH) ++ [(0, 111, 11, 0)] ++ o11)) = 91 := dC s_C s_mid.2.2
  have b2 : nw (dnH (h0 L xs) (([] : List OpH) ++ [(0, 111, 11, 0)] ++ o11)) 112 45 = dnH (h0 L xs) (([] : List OpH) ++ [(0, 111, 11, 0)] ++ o11 ++ [(0, 112, 45, 0)]) := by
    rw [dnH_app _ [(0, 112, 45, 0)]]; rfl
  have k1 : gK (dnH (h0 L xs) (([] : List OpH) ++ [(0, 111, 11, 0)])) 3 = 111 := dK (d := gK (h0 L xs) 3) s_C rfl rfl
  have k2 : gK (dnH (h0 L xs) (([] : List OpH) ++ [(0, 111, 11, 0)] ++ o11 ++ [(0, 112, 45, 0)])) 91 = 112 := dK (d := 0) s_C rfl s_mid.2.1
  rw [← dnH_app] at a1 a2
  rw [F_f_L_law, nm_eq, nm_eq, s_C, b1, k1, if_neg (by decide), a1, some_cbv, k_L_law_2, nm_eq, nm_eq, nm_eq, c1, b2, k2, if_neg (by decide), a2, some_cbv, k_L_law_1, nm_eq, nm_eq, oL]
theorem s_K (a : Nat) : gK (dnH (h0 L xs) oL) a = kH 3 oL a 0 := kH_ok a oL (h0 L xs)
theorem s_N {a : Nat} (ha : a ≠ 2) : gN (dnH (h0 L xs) oL) a = nH 3 oL a 0 := by
  have := nH_ok a oL (h0 L xs)
  rw [this, show gN (h0 L xs) a = 0 from if_neg ha]; rfl
theorem s_R (a i : Nat) : gR (dnH (h0 L xs) oL) a i = rH 3 oL a i 0 := rH_ok a i oL (h0 L xs)
theorem s_I {a : Nat} (i : Nat) (ha : a ≠ 2) : gI (dnH (h0 L xs) oL) a i = iH 3 oL a i 0 := by
  have := iH_ok a i oL (h0 L xs)
  rw [this, show gI (h0 L xs) a i = 0 from if_neg ha]; rfl
theorem s_I0 {a i : Nat} (ha : a ≠ 2) (h1 : a < 79 ∨ 90 < a ∨ i ≠ 2) (h2 : a < 112 ∨ 113 < a ∨ 6 ≤ i) : gI (dnH (h0 L xs) oL) a i = iv 0 := by
  rw [s_I i ha]
  exact iH_zero oL 3 (fun o ho => by have := s_ops o ho; omega)
theorem s_J (a i : Nat) : gJ (dnH (h0 L xs) oL) a i = jv 0 := jH_ok oL (h0 L xs) (fun _ _ => rfl) a i
theorem s_N2 : gN (dnH (h0 L xs) oL) 2 = L := by
  have := nH_ok 2 oL (h0 L xs)
  rw [this, nH_old _ _ (by rw [s_C]; decide)]; rfl
theorem s_I2 : gI (dnH (h0 L xs) oL) 2 = xs := by
  funext i
  have := iH_ok 2 i oL (h0 L xs)
  rw [this, iH_old _ _ (by rw [s_C]; decide) (fun o ho => by have := s_ops o ho; omega)]; rfl
theorem s_tab {t : Nat} (ht : 2 < t) (H : tabC t) : TabOK (dnH (h0 L xs) oL) t := by
  obtain ⟨p1, p2, p3, p4, ⟨p5, p6⟩, ⟨p7, p8⟩, p9, p10⟩ := H
  exact ⟨by rw [s_K, p1], by rw [s_R, p2], by rw [s_R, p3], by rw [s_R, p4], ⟨by rw [s_K, p5], by rw [s_N (by omega), p6]⟩, ⟨by rw [s_K, p7], by rw [s_N (by omega), p8]⟩, by rw [s_K, p9], by rw [s_N (by omega), p10]⟩
theorem s_Fix : Fix (dnH (h0 L xs) oL) := by
  refine ⟨fun q hq => ?_, fun q hq => ?_, s_tab (by decide) s_t12, s_tab (by decide) s_t74, fun i hi => ?_, fun s hs => ?_⟩
  · obtain ⟨e1, e2, e3⟩ := s_fixK q hq
    exact ⟨by rw [s_K, e2], fun z => by rw [s_N e1, e3 z]⟩
  · rw [s_R, s_fixR q hq]
  · obtain ⟨e1, e2⟩ := s_t24 i hi
    exact ⟨by rw [s_R, e1], s_tab (by omega) e2⟩
  · obtain ⟨e1, e2, e3, e4, e5⟩ := s_sh s hs
    exact ⟨by rw [s_R, e1], by rw [s_K, e2], by rw [s_R, e3], by rw [s_K, e4], by rw [s_N (by omega), e5]⟩
/-- the empty world -/
def w00 : WD := (fun a z => if (a = 112 ∨ a = 113) ∧ 0 ≤ z ∧ z < 6 then -1 else 0, fun _ => jv 0)
theorem w0_0 {a : Nat} (z : Int) (ha : a < 112 ∨ 113 < a) : w00.1 a z = 0 := if_neg (by omega)
theorem w0_M : wM w00 = 0 := w0_0 0 (by omega)
theorem s_RR : RR w00 (dnH (h0 L xs) oL) := by
  refine ⟨fun a z h1 h2 h3 => ?_, ?_, ?_, ?_, ?_, fun z _ => s_J _ _⟩
  · by_cases y : (a = 112 ∨ a = 113) ∧ 0 ≤ z ∧ z < 6
    · rw [show w00.1 a z = -1 from if_pos y, s_I _ (by omega)]
      obtain ⟨-, -, e3, e4⟩ := s_sh2 z.toNat (by omega)
      rcases y.1 with rfl | rfl
      · exact e3
      · exact e4
    · rw [show w00.1 a z = 0 from if_neg y]
      exact s_I0 (by omega) (by omega) (by omega)
  · exact (s_I0 (by omega) (by omega) (by omega)).trans (congrArg iv (w0_0 _ (by omega)).symm)
  · exact (s_I0 (by omega) (by omega) (by omega)).trans (congrArg iv (w0_0 _ (by omega)).symm)
  · exact (s_I0 (by omega) (by omega) (by omega)).trans (congrArg iv (w0_0 _ (by omega)).symm)
  · exact (s_I0 (by omega) (by omega) (by omega)).trans (congrArg iv (w0_0 _ (by omega)).symm)
theorem s_lv {m : Int} (h : lvM w00 m) : False := by
  obtain ⟨h1, h2⟩ := h
  rw [w0_M] at h2
  omega
theorem s_WI : WI w00 := by
  refine ⟨by rw [w0_M]; omega, ?_, ?_, fun i _ _ => ?_, fun k k0 k1 => ?_, fun m hm => (s_lv hm).elim, fun m b hm => (s_lv hm).elim, fun s s0 s1 => ?_, ?_⟩
  · rw [show wT w00 = 0 from w0_0 _ (by omega)]; omega
  · rw [show wK w00 = 0 from w0_0 _ (by omega)]; omega
  · rw [show wTa w00 i = 0 from w0_0 _ (by omega)]; omega
  · rw [show wK w00 = 0 from w0_0 _ (by omega)] at k1; omega
  · have e1 : sIs w00 s = -1 := if_pos ⟨Or.inl rfl, s0, s1⟩
    have e2 : sSo w00 s = -1 := if_pos ⟨Or.inr rfl, s0, s1⟩
    have e3 : sSz w00 s = 0 := w0_0 _ (by omega)
    have e4 : wK w00 = 0 := w0_0 _ (by omega)
    unfold shOK
    rw [e1, e2, e3, e4]
    omega
  · rw [show wBo w00 = 0 from w0_0 _ (by omega)]; omega
theorem s_Sim : Sim w00 (fun _ => 0) (dnH (h0 L xs) oL) := by
  have z0 : ∀ {a : Nat} (z : Int), (a < 112 ∨ 113 < a) → iv 0 = iv (w00.1 a z) := fun z ha => congrArg iv (w0_0 z ha).symm
  refine ⟨s_Fix, s_RR, s_WI, ⟨?_, ?_, ?_, fun i _ _ => ?_, fun i _ _ => ?_, ?_, fun m hm => (s_lv hm).elim, fun k k0 k1 => ?_⟩, fun m hm => (s_lv hm).elim, fun m b hm => (s_lv hm).elim, fun m k hm => (s_lv hm).elim, fun k k0 k1 => ?_, fun s s0 s1 => ?_, fun q hq => ?_, ?_, fun m b hm => (s_lv hm).elim⟩
  · exact (s_I0 (by omega) (by omega) (by omega)).trans (z0 _ (by omega))
  · exact (s_I0 (by omega) (by omega) (by omega)).trans (z0 _ (by omega))
  · exact (s_I0 (by omega) (by omega) (by omega)).trans (z0 _ (by omega))
  · exact (s_I0 (by omega) (by omega) (by omega)).trans (z0 _ (by omega))
  · exact (s_I0 (by omega) (by omega) (by omega)).trans (z0 _ (by omega))
  · exact (s_I0 (by omega) (by omega) (by omega)).trans (z0 _ (by omega))
  · rw [show wK w00 = 0 from w0_0 _ (by omega)] at k1; omega
  · rw [show wK w00 = 0 from w0_0 _ (by omega)] at k1; omega
  · have e1 : sIs w00 s = -1 := if_pos ⟨Or.inl rfl, s0, s1⟩
    have e2 : sSo w00 s = -1 := if_pos ⟨Or.inr rfl, s0, s1⟩
    obtain ⟨f1, f2, -, -⟩ := s_sh2 s.toNat (by omega)
    unfold ObS
    rw [e1, e2]
    refine ⟨by rw [s_I _ (by omega), f1], fun z => by omega, by rw [s_R, f2]; rfl, fun i _ _ => ⟨s_J _ _, fun z => by omega, fun z => by omega⟩⟩
  · exfalso
    rcases hq with y | ⟨m, b, y, -⟩ | ⟨m, k, y, -⟩ | ⟨k, k0, k1, -⟩
    · exact s_lv y
    · exact s_lv y
    · exact s_lv y
    · rw [show wK w00 = 0 from w0_0 _ (by omega)] at k1; omega
  · rw [cH_ok, s_C, s_cnt.1]; decide
end S
