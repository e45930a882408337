/-! bytes for the tape -/
theorem byA (v : Int32) (s : Nat) (hs : s ≤ 24) : (v.toBitVec >>> s) &&& 255#32 = (v.toBitVec.sshiftRight s) &&& 255#32 := by
  apply BitVec.eq_of_getLsbD_eq
  intro i hi
  rw [BitVec.getLsbD_and, BitVec.getLsbD_and, BitVec.getLsbD_ushiftRight, BitVec.getLsbD_sshiftRight]
  by_cases q : i < 8
  · rw [if_pos (by omega)]
    simp [hi, show ¬ 32 ≤ i by omega]
  · have : BitVec.getLsbD 255#32 i = false := by
      rw [show (255#32) = BitVec.ofNat 32 (2^8-1) from rfl, BitVec.getLsbD_ofNat, Nat.testBit_two_pow_sub_one]
      simp; omega
    rw [this]; simp
theorem by_eq (v : Int32) {k : Int} (k0 : 0 ≤ k) (k1 : k ≤ 3) : x_iushr v (iv (8 * k)) &&& iv 255 = (v >>> (iv (8 * k) &&& 31)) &&& iv 255 := by
  apply Int32.toBitVec_inj.1
  rw [Int32.toBitVec_and, Int32.toBitVec_and]
  rcases (show k = 0 ∨ k = 1 ∨ k = 2 ∨ k = 3 by omega) with q | q | q | q <;> subst q
  · exact byA v 0 (by omega)
  · exact byA v 8 (by omega)
  · exact byA v 16 (by omega)
  · exact byA v 24 (by omega)
theorem by_rng (v : Int32) : ∃ b : Int, v &&& iv 255 = iv b ∧ 0 ≤ b ∧ b ≤ 255 := by
  have e : (v &&& iv 255).toBitVec.toNat ≤ 255 := by
    rw [Int32.toBitVec_and, BitVec.toNat_and]
    exact Nat.and_le_right
  refine ⟨(v &&& iv 255).toInt, (iv_self _).symm, ?_, ?_⟩
  · rw [← Int32.toInt_toBitVec, BitVec.toInt_eq_toNat_of_lt (by omega)]; omega
  · rw [← Int32.toInt_toBitVec, BitVec.toInt_eq_toNat_of_lt (by omega)]; omega
def byZ (v : Int32) (j : Nat) : Int := ((v >>> (iv (8 * j) &&& 31)) &&& iv 255).toInt
theorem byZ_q (v : Int32) (j : Nat) : (v >>> (iv (8 * j) &&& 31)) &&& iv 255 = iv (byZ v j) := (iv_self _).symm
theorem byZ_c (v : Int32) {j : Nat} (hj : j < 4) : x_iushr v (iv (8 * j)) &&& iv 255 = iv (byZ v j) := (by_eq v (by omega) (by omega)).trans (byZ_q v j)
theorem byZ_r (v : Int32) (j : Nat) : 0 ≤ byZ v j ∧ byZ v j ≤ 255 := by
  obtain ⟨b, e, b0, b1⟩ := by_rng (v >>> (iv (8 * j) &&& 31))
  unfold byZ
  rw [e, iv_int (by omega) (by omega)]
  exact ⟨b0, b1⟩
def feC (h : AH) (t : Int) (v : Int32) : Nat → AH
  | 0 => h
  | j + 1 => sI (sI (feC h t v j) 4 2 (iv (t + j + 1))) 5 (t + j).toNat (iv (byZ v j))
def feQ (h : AH) (t : Int) (v : Int32) : Nat → AH
  | 0 => h
  | j + 1 => sI (sI (feQ h t v j) 109 (t + j).toNat (iv (byZ v j))) 91 19 (iv (t + j + 1))
def feW (w : WD) (t : Int) (v : Int32) : Nat → WD
  | 0 => w
  | j + 1 => wZ (wZ (feW w t v j) 109 (t + j) (byZ v j)) 91 19 (t + j + 1)
section Q
variable {w w' : WD} {A A' : Int → Nat} {h h' h1 : AH} {t : Int} {v : Int32}
theorem feC_K (j a : Nat) : gK (feC h t v j) a = gK h a := by
  induction j with
  | zero => rfl
  | succ j ih => exact ih
theorem feC_N (j a : Nat) : gN (feC h t v j) a = gN h a := by
  induction j with
  | zero => rfl
  | succ j ih => exact ih
theorem feC_R (j a i : Nat) : gR (feC h t v j) a i = gR h a i := by
  induction j with
  | zero => rfl
  | succ j ih => exact ih
theorem feC_J (j a i : Nat) : gJ (feC h t v j) a i = gJ h a i := by
  induction j with
  | zero => rfl
  | succ j ih => exact ih
theorem feC_C (j : Nat) : gC (feC h t v j) = gC h := by
  induction j with
  | zero => rfl
  | succ j ih => exact ih
theorem feC_S (j : Nat) : gS (feC h t v j) = gS h := by
  induction j with
  | zero => rfl
  | succ j ih => exact ih
theorem feC_I (j : Nat) {a i : Nat} (z : a ≠ 4 ∨ i ≠ 2) (y : a ≠ 5) : gI (feC h t v j) a i = gI h a i := by
  induction j with
  | zero => rfl
  | succ j ih => exact (gI_sIo _ _ (Or.inl y)).trans ((gI_sIo _ _ z).trans ih)
theorem feC_n (j : Nat) (e : gI h 4 2 = iv t) : gI (feC h t v j) 4 2 = iv (t + j) := by
  cases j with
  | zero => rw [show t + ((0 : Nat) : Int) = t by omega]; exact e
  | succ j =>
    show gI (sI (sI (feC h t v j) 4 2 (iv (t + j + 1))) 5 (t + j).toNat (iv (byZ v j))) 4 2 = _
    rw [gI_sIo _ _ (by omega), gI_sIs, show t + ((j + 1 : Nat) : Int) = t + j + 1 by omega]
theorem feQ_K (j a : Nat) : gK (feQ h t v j) a = gK h a := by
  induction j with
  | zero => rfl
  | succ j ih => exact ih
theorem feQ_N (j a : Nat) : gN (feQ h t v j) a = gN h a := by
  induction j with
  | zero => rfl
  | succ j ih => exact ih
theorem feQ_R (j a i : Nat) : gR (feQ h t v j) a i = gR h a i := by
  induction j with
  | zero => rfl
  | succ j ih => exact ih
theorem feQ_C (j : Nat) : gC (feQ h t v j) = gC h := by
  induction j with
  | zero => rfl
  | succ j ih => exact ih
theorem feQ_S (j : Nat) : gS (feQ h t v j) = gS h := by
  induction j with
  | zero => rfl
  | succ j ih => exact ih
theorem feQ_I (j : Nat) {a i : Nat} (z : a ≠ 109) (y : a ≠ 91 ∨ i ≠ 19) : gI (feQ h t v j) a i = gI h a i := by
  induction j with
  | zero => rfl
  | succ j ih => exact (gI_sIo _ _ y).trans ((gI_sIo _ _ (Or.inl z)).trans ih)
theorem feQ_n (j : Nat) (e : gI h 91 19 = iv t) : gI (feQ h t v j) 91 19 = iv (t + j) := by
  cases j with
  | zero => rw [show t + ((0 : Nat) : Int) = t by omega]; exact e
  | succ j =>
    show gI (sI (sI (feQ h t v j) 109 (t + j).toNat (iv (byZ v j))) 91 19 (iv (t + j + 1))) 91 19 = _
    rw [gI_sIs, show t + ((j + 1 : Nat) : Int) = t + j + 1 by omega]
theorem feW_o (j : Nat) {a : Nat} {i : Int} (z : a ≠ 109) (y : a ≠ 91 ∨ i ≠ 19) : (feW w t v j).1 a i = w.1 a i := by
  induction j with
  | zero => rfl
  | succ j ih => exact (wZ_o _ y).trans ((wZ_o _ (Or.inl z)).trans ih)
theorem feW_n (j : Nat) (e : wT w = t) : wT (feW w t v j) = t + j := by
  cases j with
  | zero => rw [show t + ((0 : Nat) : Int) = t by omega]; exact e
  | succ j =>
    show (wZ (wZ (feW w t v j) 109 (t + j) (byZ v j)) 91 19 (t + j + 1)).1 91 19 = _
    rw [wZ_at]; omega
theorem feW_2 (j : Nat) : (feW w t v j).2 = w.2 := by
  induction j with
  | zero => rfl
  | succ j ih => exact ih
theorem feC_blk (j : Nat) {c m : Nat} (z : c + m ≤ 4 ∨ 5 < c) : Blk h (feC h t v j) c m := by
  induction j with
  | zero => exact Blk.rf h c m
  | succ j ih => exact (ih.sI (by omega)).sI (by omega)
theorem feQ_blk (j : Nat) {c m : Nat} (z : c + m ≤ 91 ∨ 109 < c) : Blk h (feQ h t v j) c m := by
  induction j with
  | zero => exact Blk.rf h c m
  | succ j ih => exact (ih.sI (by omega)).sI (by omega)
theorem feQ_RR (H : RR w h) (t0 : 0 ≤ t) (j : Nat) : RR (feW w t v j) (feQ h t v j) := by
  induction j with
  | zero => exact H
  | succ j ih => exact RR_w91 (z := 19) (RR_wZ ih (by omega) (by omega) (by omega)) (by omega)
theorem feC_ta (e : ∀ i : Int, 0 ≤ i → i < 200 → gI h 5 i.toNat = iv (wTa w i)) (t0 : 0 ≤ t) (j : Nat) : ∀ i : Int, 0 ≤ i → i < 200 → gI (feC h t v j) 5 i.toNat = iv (wTa (feW w t v j) i) := by
  induction j with
  | zero => exact e
  | succ j ih =>
    intro i i0 i1
    show gI (sI (sI (feC h t v j) 4 2 (iv (t + j + 1))) 5 (t + j).toNat (iv (byZ v j))) 5 i.toNat = iv ((wZ (wZ (feW w t v j) 109 (t + j) (byZ v j)) 91 19 (t + j + 1)).1 109 i)
    rw [wZ_o _ (by omega)]
    by_cases q : i = t + j
    · rw [q, gI_sIs, wZ_at]
    · rw [gI_sIo _ _ (by omega), gI_sIo _ _ (by omega), wZ_o _ (by omega)]
      exact ih i i0 i1
theorem feW_ta (e : ∀ i : Int, 0 ≤ i → i < 200 → 0 ≤ wTa w i ∧ wTa w i ≤ 255) (j : Nat) : ∀ i : Int, 0 ≤ i → i < 200 → 0 ≤ wTa (feW w t v j) i ∧ wTa (feW w t v j) i ≤ 255 := by
  induction j with
  | zero => exact e
  | succ j ih =>
    intro i i0 i1
    unfold wTa
    show 0 ≤ (wZ (wZ (feW w t v j) 109 (t + j) (byZ v j)) 91 19 (t + j + 1)).1 109 i ∧ (wZ (wZ (feW w t v j) 109 (t + j) (byZ v j)) 91 19 (t + j + 1)).1 109 i ≤ 255
    rw [wZ_o _ (by omega)]
    by_cases q : i = t + j
    · rw [q, wZ_at]
      exact byZ_r v j
    · rw [wZ_o _ (by omega)]
      exact ih i i0 i1
theorem Sim_feed (hS : Sim w A h) (v : Int32) {n : Nat} (hn : wT w + n ≤ 200) : Sim (feW w (wT w) v n) A (feQ (feC h (wT w) v n) (wT w) v n) := by
  have hW := hS.W
  obtain ⟨a1, a2, a3, a4, a5, a6, a7, a8, a9⟩ := id hW
  have e : Elw w (feW w (wT w) v n) := fun a i z => feW_o n (by omega) (by omega)
  have B : ∀ c m : Nat, (c + m ≤ 4 ∨ 5 < c) → (c + m ≤ 91 ∨ 109 < c) → Blk h (feQ (feC h (wT w) v n) (wT w) v n) c m := fun c m z1 z2 => (feC_blk n z1).tr (feQ_blk n z2)
  have gI' : ∀ a i : Nat, a ≠ 4 → a ≠ 5 → a ≠ 91 → a ≠ 109 → gI (feQ (feC h (wT w) v n) (wT w) v n) a i = gI h a i := fun a i y1 y2 y3 y4 => by rw [feQ_I _ (by omega) (by omega), feC_I _ (by omega) (by omega)]
  refine hS.hi e ?_ ?_ (hW.hi e ?_ ?_ ?_ ?_) ?_ ?_ (fun b n z1 z2 => B b n (by omega) (by omega)) ?_
  · exact hS.F.fr (fun a _ => by rw [feQ_K, feC_K]) (fun a _ => by rw [feQ_N, feC_N]) (fun a i _ _ _ _ => by rw [feQ_R, feC_R])
  · exact feQ_RR (hS.R.fr (fun a i z => feC_I _ (by omega) (by omega)) (fun i => feC_J _ _ _)) a2.1 n
  · rw [feW_n n rfl]; omega
  · exact feW_ta a4 n
  · intro s s0 s1
    have := a8 s s0 s1
    unfold shOK at this ⊢
    rw [show wK (feW w (wT w) v n) = wK w from e 91 20 (by omega), show sIs (feW w (wT w) v n) s = sIs w s from feW_o n (by omega) (by omega), show sSo (feW w (wT w) v n) s = sSo w s from feW_o n (by omega) (by omega), show sSz (feW w (wT w) v n) s = sSz w s from feW_o n (by omega) (by omega)]
    exact this
  · rw [show wBo (feW w (wT w) v n) = wBo w from feW_o n (by omega) (by omega)]
    exact a9
  · obtain ⟨q1, q2, q3, q4, q5, q6, q7, q8⟩ := hS.C
    unfold Cls
    rw [show wM (feW w (wT w) v n) = wM w from e 91 0 (by omega), show wK (feW w (wT w) v n) = wK w from e 91 20 (by omega), feW_n n rfl, show wBo (feW w (wT w) v n) = wBo w from feW_o n (by omega) (by omega)]
    refine ⟨by rw [gI' _ _ (by omega) (by omega) (by omega) (by omega), q1], by rw [gI' _ _ (by omega) (by omega) (by omega) (by omega), q2], ?_, fun i y z => ?_, fun i y z => by rw [gI' _ _ (by omega) (by omega) (by omega) (by omega), q5 i y z, show wTr (feW w (wT w) v n) i = wTr w i from feW_o n (by omega) (by omega)], by rw [gI' _ _ (by omega) (by omega) (by omega) (by omega), q6], fun m hm => ?_, fun k y z => ?_⟩
    · rw [feQ_I _ (by omega) (by omega)]
      exact feC_n n q3
    · rw [feQ_I _ (by omega) (by omega)]
      exact feC_ta q4 a2.1 n i y z
    · rw [feQ_R, feC_R]
      exact q7 m (by rwa [lvM_el (e 91 0 (by omega))] at hm)
    · rw [feQ_R, feC_R]
      exact q8 k y z
  · intro s s0 s1
    exact (hS.S s0 s1).kp (B _ _ (by omega) (by omega)) (feW_o n (by omega) (by omega)) (feW_o n (by omega) (by omega)) (feW_o n (by omega) (by omega)) (fun _ => rfl) (fun i _ _ => by unfold sEl; rw [feW_2])
  · rw [feQ_C, feC_C]
    exact Nat.le_refl _
set_option maxRecDepth 100000 in
theorem c_fed (hF : Fix h) (e : gI h 4 2 = iv t) (t0 : 0 ≤ t) {n : Nat} (hn : n ≤ 4) (ht : t + n ≤ 200) (m : Nat) : ∀ (N j : Nat), m < N → j + m = n → lp b_X9_take_16 (fun _ _ _ _ _ => none) N 4 (iv n) v (iv j) (feC h t v j) = some (iv 1, feC h t v n) := by
  induction m with
  | zero =>
    intro N j hN hj
    obtain ⟨N, rfl⟩ : ∃ N', N = N' + 1 := ⟨N - 1, by omega⟩
    obtain rfl : j = n := by omega
    simp -implicitDefEqProofs (disch := omega) only [lp_succ, F_b_X9_take_16, zret1, iv_add, iv_sub, iv_mul, iv_neg, iv_zero, iv_ltT, iv_ltF, iv_leT, iv_leF, iv_eqT, iv_eqF, iv_div, rm_iv, tn_iv, ib_iv, some_cb, some_cbv, ↓nm_eq, ↓reduceIte, true_and, and_true, Bool.true_eq_false, Bool.false_eq_true, not_false_eq_true, not_true_eq_false]
  | succ m ih =>
    intro N j hN hj
    obtain ⟨N, rfl⟩ : ∃ N', N = N' + 1 := ⟨N - 1, by omega⟩
    have q := ih N (j + 1) (by omega) (by omega)
    rw [← q]
    have k4 := (feC_K (h := h) (t := t) (v := v) j 4).trans (K4 hF)
    have k5 := (feC_K (h := h) (t := t) (v := v) j 5).trans (K5 hF)
    have n5 := (feC_N (h := h) (t := t) (v := v) j 5).trans (N5 hF)
    have r4 := (feC_R (h := h) (t := t) (v := v) j 4 0).trans (R4_0 hF)
    have g4 := feC_n (v := v) j e
    have b := byZ_c v (j := j) (by omega)
    show _ = lp b_X9_take_16 (fun _ _ _ _ _ => none) N 4 (iv n) v (iv ((j + 1 : Nat) : Int)) (sI (sI (feC h t v j) 4 2 (iv (t + j + 1))) 5 (t + j).toNat (iv (byZ v j)))
    rw [show ((j + 1 : Nat) : Int) = (j : Int) + 1 by omega]
    simp -implicitDefEqProofs (disch := omega) only [lp_succ, F_b_X9_take_16, k4, k5, n5, r4, g4, gK_sI, gN_sI, gR_sI, b, iv_add, iv_sub, iv_mul, iv_neg, iv_zero, iv_ltT, iv_ltF, iv_leT, iv_leF, iv_eqT, iv_eqF, iv_div, rm_iv, tn_iv, ib_iv, some_cb, some_cbv, ↓nm_eq, ↓reduceIte, true_and, and_true, Bool.true_eq_false, Bool.false_eq_true, not_false_eq_true, not_true_eq_false]
set_option maxRecDepth 100000 in
theorem q_fed (hF : Fix h) (e : gI h 91 19 = iv t) (t0 : 0 ≤ t) {n : Nat} (hn : n ≤ 4) (ht : t + n ≤ 200) (m : Nat) : ∀ (N j : Nat), m < N → j + m = n → lp b_X12_feed_28 (fun _ _ _ _ _ => none) N 91 (iv n) v (iv j) (feQ h t v j) = some (iv (t + n), feQ h t v n) := by
  induction m with
  | zero =>
    intro N j hN hj
    obtain ⟨N, rfl⟩ : ∃ N', N = N' + 1 := ⟨N - 1, by omega⟩
    obtain rfl : j = n := by omega
    have k9 := (feQ_K (h := h) (t := t) (v := v) j 91).trans (K91 hF)
    have g4 := feQ_n (v := v) j e
    simp -implicitDefEqProofs (disch := omega) only [lp_succ, F_b_X12_feed_28, k9, g4, iv_add, iv_sub, iv_mul, iv_neg, iv_zero, iv_ltT, iv_ltF, iv_leT, iv_leF, iv_eqT, iv_eqF, iv_div, rm_iv, tn_iv, ib_iv, some_cb, some_cbv, ↓nm_eq, ↓reduceIte, true_and, and_true, Bool.true_eq_false, Bool.false_eq_true, not_false_eq_true, not_true_eq_false]
  | succ m ih =>
    intro N j hN hj
    obtain ⟨N, rfl⟩ : ∃ N', N = N' + 1 := ⟨N - 1, by omega⟩
    have q := ih N (j + 1) (by omega) (by omega)
    rw [← q]
    have k9 := (feQ_K (h := h) (t := t) (v := v) j 91).trans (K91 hF)
    have k5 := (feQ_K (h := h) (t := t) (v := v) j 109).trans (K109 hF)
    have n5 := (feQ_N (h := h) (t := t) (v := v) j 109).trans (N109 hF)
    have r4 := (feQ_R (h := h) (t := t) (v := v) j 91 18).trans (R91_18 hF)
    have g4 := feQ_n (v := v) j e
    have g5 : gI (sI (feQ h t v j) 109 (t + j).toNat (iv (byZ v j))) 91 19 = iv (t + j) := (gI_sIo _ _ (by omega)).trans g4
    have b := byZ_q v j
    show _ = lp b_X12_feed_28 (fun _ _ _ _ _ => none) N 91 (iv n) v (iv ((j + 1 : Nat) : Int)) (sI (sI (feQ h t v j) 109 (t + j).toNat (iv (byZ v j))) 91 19 (iv (t + j + 1)))
    rw [show ((j + 1 : Nat) : Int) = (j : Int) + 1 by omega]
    simp -implicitDefEqProofs (disch := omega) only [lp_succ, F_b_X12_feed_28, k9, k5, n5, r4, g4, g5, gK_sI, gN_sI, gR_sI, b, iv_add, iv_sub, iv_mul, iv_neg, iv_zero, iv_ltT, iv_ltF, iv_leT, iv_leF, iv_eqT, iv_eqF, iv_div, rm_iv, tn_iv, ib_iv, some_cb, some_cbv, ↓nm_eq, ↓reduceIte, true_and, and_true, Bool.true_eq_false, Bool.false_eq_true, not_false_eq_true, not_true_eq_false]
set_option maxRecDepth 100000 in
theorem M_feed (hS : Sim w A h) (x1 x2 : Int32) : Both (f_X11_feed 3 x1 x2) (f_X12_feed 91 x1 x2) h := by
  obtain ⟨n, rfl, t1, t2⟩ := iv_ex x1
  have hF := hS.F
  have hR := hS.R
  obtain ⟨w1, w2⟩ := hS.W.2.1
  have e4 : gI h 4 2 = iv (wT w) := hS.C.2.2.1
  have e9 : gI h 91 19 = iv (wT w) := hR.2.2.1
  by_cases hn : 1 ≤ n ∧ n ≤ 4
  · obtain ⟨k, rfl⟩ : ∃ k : Nat, n = k := ⟨n.toNat, by omega⟩
    by_cases ht : wT w + k ≤ 200
    · have hF1 : Fix (feC h (wT w) x2 k) := hF.fr (fun a _ => feC_K k a) (fun a _ => feC_N k a) (fun a i _ _ _ _ => feC_R k a i)
      have hF2 : Fix (feQ (feC h (wT w) x2 k) (wT w) x2 k) := hF1.fr (fun a _ => feQ_K k a) (fun a _ => feQ_N k a) (fun a i _ _ _ _ => feQ_R k a i)
      have l1 := c_fed (v := x2) hF e4 w1 (n := k) (by omega) ht k FU 0 (FU_gt (by omega)) (by omega)
      have e9' : gI (feC h (wT w) x2 k) 91 19 = iv (wT w) := (feC_I _ (by omega) (by omega)).trans e9
      have l2 := q_fed (v := x2) hF1 e9' w1 (n := k) (by omega) ht k FU 0 (FU_gt (by omega)) (by omega)
      change lp b_X9_take_16 (fun _ _ _ _ _ => none) FU 4 (iv k) x2 (iv 0) h = _ at l1
      change lp b_X12_feed_28 (fun _ _ _ _ _ => none) FU 91 (iv k) x2 (iv 0) (feC h (wT w) x2 k) = _ at l2
      have g4 := feC_n (v := x2) k e4
      refine ⟨iv (wT w + k), feC h (wT w) x2 k, _, _, A, ?_, ?_, Sim_feed hS x2 ht, ⟨by rw [feQ_C, feC_C]; omega, by rw [feQ_S, feC_S]; omega, by rw [feQ_N, feC_N], by funext i; rw [feQ_I _ (by omega) (by omega), feC_I _ (by omega) (by omega)]⟩, by rw [feC_N], by funext i; rw [feC_I _ (by omega) (by omega)], K91 hF1⟩
      · simp -implicitDefEqProofs (disch := omega) only [k_X11_feed_1, F_f_X11_feed, f_X9_take_16, F_f_X9_take, K3 hF, R3_0 hF, K4 hF, e4, l1, K3 hF1, R3_0 hF1, K4 hF1, g4, iv_add, iv_sub, iv_mul, iv_neg, iv_zero, iv_ltT, iv_ltF, iv_leT, iv_leF, iv_eqT, iv_eqF, iv_div, rm_iv, tn_iv, ib_iv, some_cb, some_cbv, ↓nm_eq, ↓reduceIte, true_and, and_true, Bool.true_eq_false, Bool.false_eq_true, not_false_eq_true, not_true_eq_false]
      · simp -implicitDefEqProofs (disch := omega) only [f_X12_feed_28, k_X12_feed_1, F_f_X12_feed, q_in1, K91 hF1, e9', l2, iv_add, iv_sub, iv_mul, iv_neg, iv_zero, iv_ltT, iv_ltF, iv_leT, iv_leF, iv_eqT, iv_eqF, iv_div, rm_iv, tn_iv, ib_iv, some_cb, some_cbv, ↓nm_eq, ↓reduceIte, true_and, and_true, Bool.true_eq_false, Bool.false_eq_true, not_false_eq_true, not_true_eq_false]
    · exact Both.still hS (r := iv (-3)) (by simp -implicitDefEqProofs (disch := omega) only [k_X11_feed_1, F_f_X11_feed, f_X9_take_16, F_f_X9_take, K3 hF, R3_0 hF, K4 hF, e4, zret0, iv_add, iv_sub, iv_mul, iv_neg, iv_zero, iv_ltT, iv_ltF, iv_leT, iv_leF, iv_eqT, iv_eqF, iv_div, rm_iv, tn_iv, ib_iv, some_cb, some_cbv, ↓nm_eq, ↓reduceIte, true_and, and_true, Bool.true_eq_false, Bool.false_eq_true, not_false_eq_true, not_true_eq_false]) (by simp -implicitDefEqProofs (disch := omega) only [f_X12_feed_28, k_X12_feed_1, F_f_X12_feed, q_in1, K91 hF, e9, iv_add, iv_sub, iv_mul, iv_neg, iv_zero, iv_ltT, iv_ltF, iv_leT, iv_leF, iv_eqT, iv_eqF, iv_div, rm_iv, tn_iv, ib_iv, some_cb, some_cbv, ↓nm_eq, ↓reduceIte, true_and, and_true, Bool.true_eq_false, Bool.false_eq_true, not_false_eq_true, not_true_eq_false])
  · exact Both.still hS (r := iv (-1)) (by by_cases q : 1 ≤ n <;> simp -implicitDefEqProofs (disch := omega) only [k_X11_feed_1, F_f_X11_feed, iv_add, iv_sub, iv_mul, iv_neg, iv_zero, iv_ltT, iv_ltF, iv_leT, iv_leF, iv_eqT, iv_eqF, iv_div, rm_iv, tn_iv, ib_iv, some_cb, some_cbv, ↓nm_eq, ↓reduceIte, true_and, and_true, Bool.true_eq_false, Bool.false_eq_true, not_false_eq_true, not_true_eq_false]) (by simp -implicitDefEqProofs (disch := omega) only [F_b_X12_feed_28, f_X12_feed_28, k_X12_feed_1, F_f_X12_feed, q_in0, iv_add, iv_sub, iv_mul, iv_neg, iv_zero, iv_ltT, iv_ltF, iv_leT, iv_leF, iv_eqT, iv_eqF, iv_div, rm_iv, tn_iv, ib_iv, some_cb, some_cbv, ↓nm_eq, ↓reduceIte, true_and, and_true, Bool.true_eq_false, Bool.false_eq_true, not_false_eq_true, not_true_eq_false])
end Q
