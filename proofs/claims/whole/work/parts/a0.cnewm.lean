/-! a matter more: how the one side makes it -/
/-- the cells of a new matter -/
def nmN (h : AH) (G C : Int32) : AH := sI (sI (sR (nw (sR (nw (sR (nw (nw h 106 7) 10 12) (gC h) 2 (gC h + 1)) 11 8) (gC h) 3 (gC h + 2)) 1 12) (gC h) 4 (gC h + 3)) (gC h) 0 G) (gC h) 1 C
section R
variable {h : AH} {G C : Int32}
theorem gI_sIi (h : AH) (a i : Nat) (v : Int32) (b j : Nat) : gI (sI h a i v) b j = if b = a ∧ j = i then v else gI h b j := rfl
theorem nmN_C : gC (nmN h G C) = gC h + 4 := by simp only [nmN, gC_sI, gC_sR, gC_nw, Nat.add_assoc, Nat.reduceAdd]
theorem nmN_S : gS (nmN h G C) = gS h + 39 := by simp only [nmN, gS_sI, gS_sR, gS_nw, Nat.add_assoc, Nat.reduceAdd]
theorem nmN_K (a : Nat) : gK (nmN h G C) a = if a = gC h + 3 then 1 else if a = gC h + 2 then 11 else if a = gC h + 1 then 10 else if a = gC h then 106 else gK h a := by simp only [nmN, gK_sI, gK_sR, gK_nwi, gC_sR, gC_nw, Nat.add_assoc, Nat.reduceAdd]; rfl
theorem nmN_N (a : Nat) : gN (nmN h G C) a = if a = gC h + 3 then 12 else if a = gC h + 2 then 8 else if a = gC h + 1 then 12 else if a = gC h then 7 else gN h a := by simp only [nmN, gN_sI, gN_sR, gN_nwi, gC_sR, gC_nw, Nat.add_assoc, Nat.reduceAdd]; rfl
theorem nmN_J (a i : Nat) : gJ (nmN h G C) a i = if a = gC h + 3 then jv 0 else if a = gC h + 2 then jv 0 else if a = gC h + 1 then jv 0 else if a = gC h then jv 0 else gJ h a i := by simp only [nmN, gJ_sI, gJ_sR, gJ_nwi, gC_sR, gC_nw, Nat.add_assoc, Nat.reduceAdd]; rfl
theorem nmN_I (a i : Nat) : gI (nmN h G C) a i = if a = gC h ∧ i = 1 then C else if a = gC h ∧ i = 0 then G else if a = gC h + 3 then iv 0 else if a = gC h + 2 then iv 0 else if a = gC h + 1 then iv 0 else if a = gC h then iv 0 else gI h a i := by simp only [nmN, gI_sIi, gI_sR, gI_nwi, gC_sR, gC_nw, Nat.add_assoc, Nat.reduceAdd]; rfl
theorem nmN_R (a i : Nat) : gR (nmN h G C) a i = if a = gC h ∧ i = 4 then gC h + 3 else if a = gC h + 3 then 0 else if a = gC h ∧ i = 3 then gC h + 2 else if a = gC h + 2 then 0 else if a = gC h ∧ i = 2 then gC h + 1 else if a = gC h + 1 then 0 else if a = gC h then 0 else gR h a i := by simp only [nmN, gR_sI, gR_sRi, gR_nwi, gC_sR, gC_nw, Nat.add_assoc, Nat.reduceAdd]; rfl
theorem nmN_low (a : Nat) (ha : a < gC h) : gK (nmN h G C) a = gK h a ∧ gN (nmN h G C) a = gN h a ∧ (∀ i, gI (nmN h G C) a i = gI h a i) ∧ (∀ i, gJ (nmN h G C) a i = gJ h a i) ∧ ∀ i, gR (nmN h G C) a i = gR h a i := by
  refine ⟨?_, ?_, fun i => ?_, fun i => ?_, fun i => ?_⟩
  · rw [nmN_K, if_neg (by omega), if_neg (by omega), if_neg (by omega), if_neg (by omega)]
  · rw [nmN_N, if_neg (by omega), if_neg (by omega), if_neg (by omega), if_neg (by omega)]
  · rw [nmN_I, if_neg (by omega), if_neg (by omega), if_neg (by omega), if_neg (by omega), if_neg (by omega), if_neg (by omega)]
  · rw [nmN_J, if_neg (by omega), if_neg (by omega), if_neg (by omega), if_neg (by omega)]
  · rw [nmN_R, if_neg (by omega), if_neg (by omega), if_neg (by omega), if_neg (by omega), if_neg (by omega), if_neg (by omega), if_neg (by omega)]
theorem nmN_M : (gK (nmN h G C) (gC h) = 106 ∧ gI (nmN h G C) (gC h) 0 = G ∧ gI (nmN h G C) (gC h) 1 = C ∧ gI (nmN h G C) (gC h) 5 = iv 0 ∧ gI (nmN h G C) (gC h) 6 = iv 0) ∧ (gR (nmN h G C) (gC h) 2 = gC h + 1 ∧ gR (nmN h G C) (gC h) 3 = gC h + 2 ∧ gR (nmN h G C) (gC h) 4 = gC h + 3) ∧ (gK (nmN h G C) (gC h + 1) = 10 ∧ gN (nmN h G C) (gC h + 1) = 12) ∧ (gK (nmN h G C) (gC h + 2) = 11 ∧ gN (nmN h G C) (gC h + 2) = 8) ∧ (gK (nmN h G C) (gC h + 3) = 1 ∧ gN (nmN h G C) (gC h + 3) = 12) ∧ ∀ i, gI (nmN h G C) (gC h + 3) i = iv 0 := by
  refine ⟨⟨?_, ?_, ?_, ?_, ?_⟩, ⟨?_, ?_, ?_⟩, ⟨?_, ?_⟩, ⟨?_, ?_⟩, ⟨?_, ?_⟩, fun i => ?_⟩
  · rw [nmN_K, if_neg (by omega), if_neg (by omega), if_neg (by omega), if_pos rfl]
  · rw [nmN_I, if_neg (by omega), if_pos ⟨rfl, rfl⟩]
  · rw [nmN_I, if_pos ⟨rfl, rfl⟩]
  · rw [nmN_I, if_neg (by omega), if_neg (by omega), if_neg (by omega), if_neg (by omega), if_neg (by omega), if_pos rfl]
  · rw [nmN_I, if_neg (by omega), if_neg (by omega), if_neg (by omega), if_neg (by omega), if_neg (by omega), if_pos rfl]
  · rw [nmN_R, if_neg (by omega), if_neg (by omega), if_neg (by omega), if_neg (by omega), if_pos ⟨rfl, rfl⟩]
  · rw [nmN_R, if_neg (by omega), if_neg (by omega), if_pos ⟨rfl, rfl⟩]
  · rw [nmN_R, if_pos ⟨rfl, rfl⟩]
  · rw [nmN_K, if_neg (by omega), if_neg (by omega), if_pos rfl]
  · rw [nmN_N, if_neg (by omega), if_neg (by omega), if_pos rfl]
  · rw [nmN_K, if_neg (by omega), if_pos rfl]
  · rw [nmN_N, if_neg (by omega), if_pos rfl]
  · rw [nmN_K, if_pos rfl]
  · rw [nmN_N, if_pos rfl]
  · rw [nmN_I, if_neg (by omega), if_neg (by omega), if_pos rfl]
set_option maxRecDepth 100000 in
theorem c_mat0 (h : AH) (G C : Int32) : f_X6_init (gC h) G C (nw h 106 7) = some (nmN h G C) := by
  have k0 : gK (nw h 106 7) (gC h) = 106 := gK_nws _ _ _
  have k1 : gK (nw (nw h 106 7) 10 12) (gC h) = 106 := by rw [gK_nwo _ _ _ (by rw [gC_nw]; omega)]; exact k0
  have k2 : gK (nw (sR (nw (nw h 106 7) 10 12) (gC h) 2 (gC h + 1)) 11 8) (gC h) = 106 := by rw [gK_nwo _ _ _ (by rw [gC_sR, gC_nw, gC_nw]; omega)]; exact k1
  have k3 : gK (nw (sR (nw (sR (nw (nw h 106 7) 10 12) (gC h) 2 (gC h + 1)) 11 8) (gC h) 3 (gC h + 2)) 1 12) (gC h) = 106 := by rw [gK_nwo _ _ _ (by rw [gC_sR, gC_nw, gC_sR, gC_nw, gC_nw]; omega)]; exact k2
  unfold nmN
  simp -implicitDefEqProofs (disch := omega) only [F_f_X6_init, tz12, tz8, le12, le8, k0, k1, k2, k3, gC_nw, gC_sR, gK_sR, gK_sI, Nat.add_assoc, Nat.reduceAdd, nz106, iv_add, iv_sub, iv_mul, iv_neg, iv_zero, iv_ltT, iv_ltF, iv_leT, iv_leF, iv_eqT, iv_eqF, iv_div, rm_iv, tn_iv, ib_iv, some_cb, some_cbv, ↓nm_eq, ↓reduceIte, true_and, and_true, Bool.true_eq_false, Bool.false_eq_true, not_false_eq_true, not_true_eq_false]
end R
def nbH (h : AH) (G C : Nat) (us : Nat → Nat → Int) : Nat → AH
  | 0 => nmN h (iv G) (iv C)
  | j + 1 => abC (nbH h G C us j) (gC h) j G C (us j)
section Q
variable {w : WD} {h : AH} {p : Int} {K G C : Nat} {us : Nat → Nat → Int}
theorem nbH_inv (j : Nat) : gC (nbH h G C us j) = gC h + 4 + 5 * j ∧ gS (nbH h G C us j) = gS h + 39 + 31 * j ∧ (∀ a, a < gC h → gK (nbH h G C us j) a = gK h a ∧ gN (nbH h G C us j) a = gN h a ∧ (∀ i, gI (nbH h G C us j) a i = gI h a i) ∧ (∀ i, gJ (nbH h G C us j) a i = gJ h a i) ∧ ∀ i, gR (nbH h G C us j) a i = gR h a i) ∧ (gK (nbH h G C us j) (gC h) = 106 ∧ gI (nbH h G C us j) (gC h) 0 = iv G ∧ gI (nbH h G C us j) (gC h) 1 = iv C ∧ gI (nbH h G C us j) (gC h) 5 = iv j ∧ gR (nbH h G C us j) (gC h) 2 = gC h + 1 ∧ gK (nbH h G C us j) (gC h + 1) = 10 ∧ gN (nbH h G C us j) (gC h + 1) = 12) := by
  induction j with
  | zero =>
    obtain ⟨⟨m1, m2, m3, m4, m5⟩, ⟨m6, m7, m8⟩, ⟨m9, m10⟩, -⟩ := nmN_M (h := h) (G := iv G) (C := iv C)
    exact ⟨nmN_C, nmN_S, fun a ha => nmN_low a ha, m1, m2, m3, m4, m6, m9, m10⟩
  | succ j ih =>
    obtain ⟨i1, i2, i3, n1, n2, n3, n4, n5, n6, n7⟩ := ih
    have low := fun a ha => abC_low (h := nbH h G C us j) (M := gC h) (b := j) (G := G) (C := C) (u := us j) (by omega) a ha
    refine ⟨?_, ?_, fun a ha => ?_, ?_, ?_, ?_, ?_, ?_, ?_, ?_⟩
    · show gC (abC (nbH h G C us j) (gC h) j G C (us j)) = _
      rw [abC_C, i1]; omega
    · show gS (abC (nbH h G C us j) (gC h) j G C (us j)) = _
      rw [abC_S, i2]; omega
    · obtain ⟨l1, l2, l3, l4, l5⟩ := low a (by omega)
      obtain ⟨o1, o2, o3, o4, o5⟩ := i3 a ha
      exact ⟨l1.trans o1, l2.trans o2, fun i => (l3 i (by omega)).trans (o3 i), fun i => (l4 i).trans (o4 i), fun i => (l5 i (by omega)).trans (o5 i)⟩
    · exact (low (gC h) (by omega)).1.trans n1
    · exact ((low (gC h) (by omega)).2.2.1 0 (by omega)).trans n2
    · exact ((low (gC h) (by omega)).2.2.1 1 (by omega)).trans n3
    · have := abC_5 (h := nbH h G C us j) (M := gC h) (b := j) (G := G) (C := C) (u := us j) (by omega)
      rw [show ((j + 1 : Nat) : Int) = (j : Int) + 1 by omega]
      exact this
    · exact ((low (gC h) (by omega)).2.2.2.2 2 (by omega)).trans n5
    · exact (low (gC h + 1) (by omega)).1.trans n6
    · exact (low (gC h + 1) (by omega)).2.1.trans n7
/-- the rest of a new matter's cells -/
theorem nbH_more (j : Nat) : (gI (nbH h G C us j) (gC h) 6 = iv 0 ∧ gR (nbH h G C us j) (gC h) 3 = gC h + 2 ∧ gR (nbH h G C us j) (gC h) 4 = gC h + 3) ∧ (gK (nbH h G C us j) (gC h + 2) = 11 ∧ gN (nbH h G C us j) (gC h + 2) = 8) ∧ (gK (nbH h G C us j) (gC h + 3) = 1 ∧ gN (nbH h G C us j) (gC h + 3) = 12) ∧ ∀ i, gI (nbH h G C us j) (gC h + 3) i = iv 0 := by
  induction j with
  | zero =>
    obtain ⟨⟨m1, m2, m3, m4, m5⟩, ⟨m6, m7, m8⟩, ⟨m9, m10⟩, m11, m12, m13⟩ := nmN_M (h := h) (G := iv G) (C := iv C)
    exact ⟨⟨m5, m7, m8⟩, m11, m12, m13⟩
  | succ j ih =>
    obtain ⟨⟨a1, a2, a3⟩, ⟨a4, a5⟩, ⟨a6, a7⟩, a8⟩ := ih
    have i1 := (nbH_inv (h := h) (G := G) (C := C) (us := us) j).1
    have low := fun a ha => abC_low (h := nbH h G C us j) (M := gC h) (b := j) (G := G) (C := C) (u := us j) (by omega) a ha
    exact ⟨⟨((low (gC h) (by omega)).2.2.1 6 (by omega)).trans a1, ((low (gC h) (by omega)).2.2.2.2 3 (by omega)).trans a2, ((low (gC h) (by omega)).2.2.2.2 4 (by omega)).trans a3⟩, ⟨(low (gC h + 2) (by omega)).1.trans a4, (low (gC h + 2) (by omega)).2.1.trans a5⟩, ⟨(low (gC h + 3) (by omega)).1.trans a6, (low (gC h + 3) (by omega)).2.1.trans a7⟩, fun i => ((low (gC h + 3) (by omega)).2.2.1 i (by omega)).trans (a8 i)⟩
set_option maxRecDepth 100000 in
theorem c_newMat (g121 : 121 ≤ gC h) (k4 : gK h 4 = 109) (r41 : gR h 4 1 = 6) (k6 : gK h 6 = 1) (n6 : gN h 6 = 84) (f4 : gI h 4 4 = iv G) (f5 : gI h 4 5 = iv C) (f6 : gI h 4 6 = iv K) (k12 : K ≤ 12) (g2 : 2 ≤ G) (g4 : G ≤ 4) (c2 : 2 ≤ C) (c3 : C ≤ 3) (hv : ∀ j, j < K → ∀ q, q < G + C → gI h 6 (j * (G + C) + q) = iv (us j q)) (ok : ∀ j, j < K → AdOK G C (us j)) : f_X9_newMatter 4 h = some (gC h, nbH h G C us K) := by
  have l : ∀ (n N j : Nat), n < N → j + n = K → lp b_X9_newMatter_18 (fun _ _ _ _ => none) N 4 (gC h) (iv j) (nbH h G C us j) = some (gC h, nbH h G C us K) := by
    intro n
    induction n with
    | zero =>
      intro N j hN hj
      obtain ⟨N, rfl⟩ : ∃ N', N = N' + 1 := ⟨N - 1, by omega⟩
      obtain rfl : j = K := by omega
      obtain ⟨i1, i2, i3, n1, n2, n3, n4, n5, n6', n7⟩ := nbH_inv (h := h) (G := G) (C := C) (us := us) j
      obtain ⟨t1, t2, t3, t4, t5⟩ := i3 4 (by omega)
      have e1 : gK (nbH h G C us j) 4 = 109 := t1.trans k4
      have e2 : gI (nbH h G C us j) 4 6 = iv j := (t3 6).trans f6
      simp -implicitDefEqProofs (disch := omega) only [lp_succ, F_b_X9_newMatter_18, e1, e2, iv_add, iv_sub, iv_mul, iv_neg, iv_zero, iv_ltT, iv_ltF, iv_leT, iv_leF, iv_eqT, iv_eqF, iv_div, rm_iv, tn_iv, ib_iv, some_cb, some_cbv, ↓nm_eq, ↓reduceIte, true_and, and_true, Bool.true_eq_false, Bool.false_eq_true, not_false_eq_true, not_true_eq_false]
    | succ n ih =>
      intro N j hN hj
      obtain ⟨N, rfl⟩ : ∃ N', N = N' + 1 := ⟨N - 1, by omega⟩
      obtain ⟨i1, i2, i3, n1, n2, n3, n4, n5, n6', n7⟩ := nbH_inv (h := h) (G := G) (C := C) (us := us) j
      obtain ⟨t1, t2, t3, t4, t5⟩ := i3 4 (by omega)
      obtain ⟨s1, s2, s3, s4, s5⟩ := i3 6 (by omega)
      have e1 : gK (nbH h G C us j) 4 = 109 := t1.trans k4
      have e2 : gI (nbH h G C us j) 4 6 = iv K := (t3 6).trans f6
      have e3 : gI (nbH h G C us j) 4 4 = iv G := (t3 4).trans f4
      have e4 : gI (nbH h G C us j) 4 5 = iv C := (t3 5).trans f5
      have e5 : gR (nbH h G C us j) 4 1 = 6 := (t5 1).trans r41
      have jw : (j : Int) * ((G : Int) + C) = ((j * (G + C) : Nat) : Int) := by push_cast; rfl
      have jb : j * (G + C) + (G + C) ≤ 84 := by
        have : (j + 1) * (G + C) ≤ 12 * 7 := Nat.mul_le_mul (by omega) (by omega)
        rw [Nat.succ_mul] at this; omega
      have H : AdC (nbH h G C us j) (gC h) j G C 6 ((j * (G + C) : Nat) : Int) (us j) := by
        refine ⟨⟨n1, n2, n3, n4, n5, n6', n7⟩, ⟨g121, by omega, by omega⟩, ⟨g2, g4, c2, c3, by omega⟩, ⟨s1.trans k6, by omega, by rw [s2, n6]; omega, by rw [s2, n6]; omega⟩, fun q hq => ⟨?_, ?_⟩⟩
        · rw [show (((j * (G + C) : Nat) : Int) + (q : Int)).toNat = j * (G + C) + q by omega, s3]
          exact hv j (by omega) q hq
        · have := (ok j (by omega)).1 q hq
          omega
      have ad := c_addY H (by omega) (ok j (by omega))
      rw [← ih N (j + 1) (by omega) (by omega), show ((j + 1 : Nat) : Int) = (j : Int) + 1 by omega]
      show _ = lp b_X9_newMatter_18 (fun _ _ _ _ => none) N 4 (gC h) (iv ((j : Int) + 1)) (abC (nbH h G C us j) (gC h) j G C (us j))
      generalize nbH h G C us j = hj at *
      simp -implicitDefEqProofs (disch := omega) only [lp_succ, F_b_X9_newMatter_18, k_X9_newMatter_18_1, e1, e2, e3, e4, e5, n1, jw, ad, iv_add, iv_sub, iv_mul, iv_neg, iv_zero, iv_ltT, iv_ltF, iv_leT, iv_leF, iv_eqT, iv_eqF, iv_div, rm_iv, tn_iv, ib_iv, some_cb, some_cbv, ↓nm_eq, ↓reduceIte, true_and, and_true, Bool.true_eq_false, Bool.false_eq_true, not_false_eq_true, not_true_eq_false]
  have l0 := l K FU 0 (FU_gt (by omega)) (by omega)
  change lp b_X9_newMatter_18 (fun _ _ _ _ => none) FU 4 (gC h) (iv 0) (nmN h (iv G) (iv C)) = _ at l0
  have i0 := c_mat0 h (iv G) (iv C)
  have q1 : gK (nw h 106 7) 4 = 109 := by rw [gK_nwo _ _ _ (by omega)]; exact k4
  have q2 : gI (nw h 106 7) 4 4 = iv G := by rw [gI_nwo _ _ _ _ (by omega)]; exact f4
  have q3 : gI (nw h 106 7) 4 5 = iv C := by rw [gI_nwo _ _ _ _ (by omega)]; exact f5
  have q4 : gK (nw h 106 7) (gC h) = 106 := gK_nws _ _ _
  simp -implicitDefEqProofs (disch := omega) only [k_X9_newMatter_18_1, f_X9_newMatter_18, k_X9_newMatter_1, F_f_X9_newMatter, q1, q2, q3, q4, nz106, i0, l0, iv_add, iv_sub, iv_mul, iv_neg, iv_zero, iv_ltT, iv_ltF, iv_leT, iv_leF, iv_eqT, iv_eqF, iv_div, rm_iv, tn_iv, ib_iv, some_cb, some_cbv, ↓nm_eq, ↓reduceIte, true_and, and_true, Bool.true_eq_false, Bool.false_eq_true, not_false_eq_true, not_true_eq_false]
end Q
