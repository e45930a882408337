/-! a box opened: both -/
theorem toI_iv (v : Int64) : v.toInt32 = iv v.toInt := by
  have := jv_i v.toInt
  rwa [jv_self] at this
section Q
variable {w w' : WD} {A A' : Int → Nat} {h h' h1 : AH} {m b s i x : Int}
set_option maxRecDepth 100000 in
theorem c_see1 (hS : Sim w A h) (hl : lvM w m) (b0 : 0 ≤ b) (tb : b < wBx w m) {a C G : Nat} (hC : (C : Int) = wCh w m) (hG : (G : Int) = wGr w m) (i0 : 0 ≤ i) (i1 : i + wGr w m * wCh w m ≤ 60) (sk1 : gK h a = 2) (sn1 : gN h a = 60) (sd : ∀ z : Int, 0 ≤ z → z < 60 → gJ h a z.toNat = sEl w (60 * s + z)) (k2 : Nat → Nat → Int32 → Int32 → AH → Option AH) {g : Nat} (hg : g < G) (n : Nat) : ∀ (N k : Nat), n < N → k + n = C → lp (b_X0_see_16 k2) (fun _ _ _ _ _ _ => none) N (A (10 + (12 * m + b))) a (iv i) (iv g) (iv k) (opC h (A (10 + (12 * m + b))) C (opE w s i) (g * C + k)) = k2 (A (10 + (12 * m + b))) a (iv i) (iv (g + 1)) (opC h (A (10 + (12 * m + b))) C (opE w s i) (g * C + C)) := by
  have hM := hS.M hl
  have hB := hS.B hl b0 tb
  obtain ⟨⟨gg1, gg2⟩, ⟨gc1, gc2⟩, -⟩ := hS.W.mat hl
  have hsp := sep_B hS hl b0 tb (Or.inl hl) (by have := hl.1; have := hl.2; have := hS.W.1.2; omega)
  rw [show sz m = 4 by unfold sz; rw [if_pos (by have := hl.2; have := hS.W.1.2; omega)]] at hsp
  induction n with
  | zero =>
    intro N k hN hk
    obtain ⟨N, rfl⟩ : ∃ N', N = N' + 1 := ⟨N - 1, by omega⟩
    obtain rfl : k = C := by omega
    simp -implicitDefEqProofs (disch := omega) only [lp_succ, F_b_X0_see_16, opC_K, opC_R, opC_I, oB_k hB, oB_0 hB, oB_1 hB, oB_2 hB, oB_3 hB, oB_4 hB, oB_k1 hB, oB_n1 hB, oB_k2 hB, oB_n2 hB, oB_k3 hB, oB_n3 hB, oB_k4 hB, oB_n4 hB, oB_5 hB, oB_6 hB, oB_7 hB, oB_d1 hB, oB_d2 hB, wP_lt, oM_k hM, oM_0 hM, oM_1 hM, oM_5 hM, oM_6 hM, oM_2 hM, oM_3 hM, oM_4 hM, oM_k1 hM, oM_n1 hM, oM_k2 hM, oM_n2 hM, oM_k3 hM, oM_n3 hM, oM_w hM, oM_b hM, oM_h hM, iv_add, iv_sub, iv_mul, iv_neg, iv_zero, iv_ltT, iv_ltF, iv_leT, iv_leF, iv_eqT, iv_eqF, iv_div, rm_iv, tn_iv, ib_iv, some_cb, some_cbv, ↓nm_eq, ↓reduceIte, true_and, and_true, Bool.true_eq_false, Bool.false_eq_true, not_false_eq_true, not_true_eq_false]
  | succ n ih =>
    intro N k hN hk
    obtain ⟨N, rfl⟩ : ∃ N', N = N' + 1 := ⟨N - 1, by omega⟩
    have q := ih N (k + 1) (by omega) (by omega)
    rw [← q]
    clear q ih
    have hgc : (g : Int) * wCh w m = ((g * C : Nat) : Int) := by rw [← hC]; push_cast; rfl
    have hGC : wGr w m * wCh w m = ((G * C : Nat) : Int) := by rw [← hC, ← hG]; push_cast; rfl
    have hle : g * C + C ≤ G * C := by rw [← Nat.succ_mul]; exact Nat.mul_le_mul_right C hg
    have hgb : G * C ≤ 12 := by
      have : G ≤ 4 := by omega
      have : C ≤ 3 := by omega
      calc G * C ≤ 4 * 3 := Nat.mul_le_mul (by omega) (by omega)
        _ = 12 := rfl
    have ej : gJ h a (i + (g : Int) * wCh w m + k).toNat = sEl w (60 * s + i + ((g * C + k : Nat) : Int)) := by
      rw [sd _ (by omega) (by omega), hgc]
      congr 1; push_cast; omega
    have eE : (sEl w (60 * s + i + ((g * C + k : Nat) : Int))).toInt32 = iv (opE w s i (g * C + k)) := toI_iv _
    have ix : ((g : Int) * 3 + k).toNat = 3 * ((g * C + k) / C) + (g * C + k) % C := by
      rcases (show C = 2 ∨ C = 3 by omega) with c | c <;> subst c <;> omega
    have ib3 : 0 ≤ (g : Int) * 3 + k ∧ (g : Int) * 3 + k < 12 := by omega
    have ibi : 0 ≤ i + (g : Int) * wCh w m + k ∧ i + (g : Int) * wCh w m + k < 60 := by omega
    show _ = lp (b_X0_see_16 k2) (fun _ _ _ _ _ _ => none) N (A (10 + (12 * m + b))) a (iv i) (iv g) (iv ((k + 1 : Nat) : Int)) (sI (opC h (A (10 + (12 * m + b))) C (opE w s i) (g * C + k)) (A (10 + (12 * m + b)) + 4) (3 * ((g * C + k) / C) + (g * C + k) % C) (iv (opE w s i (g * C + k))))
    rw [show ((k + 1 : Nat) : Int) = (k : Int) + 1 by omega, ← ix]
    simp -implicitDefEqProofs (disch := omega) only [lp_succ, F_b_X0_see_16, opC_K, opC_N, opC_R, opC_J, opC_I, oB_k hB, oB_0 hB, oB_1 hB, oB_2 hB, oB_3 hB, oB_4 hB, oB_k1 hB, oB_n1 hB, oB_k2 hB, oB_n2 hB, oB_k3 hB, oB_n3 hB, oB_k4 hB, oB_n4 hB, oB_5 hB, oB_6 hB, oB_7 hB, oB_d1 hB, oB_d2 hB, wP_lt, oM_k hM, oM_0 hM, oM_1 hM, oM_5 hM, oM_6 hM, oM_2 hM, oM_3 hM, oM_4 hM, oM_k1 hM, oM_n1 hM, oM_k2 hM, oM_n2 hM, oM_k3 hM, oM_n3 hM, oM_w hM, oM_b hM, oM_h hM, sk1, sn1, ej, eE, iv_add, iv_sub, iv_mul, iv_neg, iv_zero, iv_ltT, iv_ltF, iv_leT, iv_leF, iv_eqT, iv_eqF, iv_div, rm_iv, tn_iv, ib_iv, some_cb, some_cbv, ↓nm_eq, ↓reduceIte, true_and, and_true, Bool.true_eq_false, Bool.false_eq_true, not_false_eq_true, not_true_eq_false]
set_option maxRecDepth 100000 in
theorem c_see2 (hS : Sim w A h) (hl : lvM w m) (b0 : 0 ≤ b) (tb : b < wBx w m) {a C G : Nat} (hC : (C : Int) = wCh w m) (hG : (G : Int) = wGr w m) (i0 : 0 ≤ i) (i1 : i + wGr w m * wCh w m ≤ 60) (sk1 : gK h a = 2) (sn1 : gN h a = 60) (sd : ∀ z : Int, 0 ≤ z → z < 60 → gJ h a z.toNat = sEl w (60 * s + z)) (n : Nat) : ∀ (N g : Nat), n < N → g + n = G → lp b_X0_see_2 (fun _ _ _ _ _ => none) N (A (10 + (12 * m + b))) a (iv i) (iv g) (opC h (A (10 + (12 * m + b))) C (opE w s i) (g * C)) = some (sI (opC h (A (10 + (12 * m + b))) C (opE w s i) (G * C)) (A (10 + (12 * m + b))) 7 (iv 1)) := by
  have hM := hS.M hl
  have hB := hS.B hl b0 tb
  obtain ⟨⟨gg1, gg2⟩, ⟨gc1, gc2⟩, -⟩ := hS.W.mat hl
  have hsp := sep_B hS hl b0 tb (Or.inl hl) (by have := hl.1; have := hl.2; have := hS.W.1.2; omega)
  rw [show sz m = 4 by unfold sz; rw [if_pos (by have := hl.2; have := hS.W.1.2; omega)]] at hsp
  induction n with
  | zero =>
    intro N g hN hg
    obtain ⟨N, rfl⟩ : ∃ N', N = N' + 1 := ⟨N - 1, by omega⟩
    obtain rfl : g = G := by omega
    simp -implicitDefEqProofs (disch := omega) only [lp_succ, F_b_X0_see_2, opC_K, opC_R, opC_I, oB_k hB, oB_0 hB, oB_1 hB, oB_2 hB, oB_3 hB, oB_4 hB, oB_k1 hB, oB_n1 hB, oB_k2 hB, oB_n2 hB, oB_k3 hB, oB_n3 hB, oB_k4 hB, oB_n4 hB, oB_5 hB, oB_6 hB, oB_7 hB, oB_d1 hB, oB_d2 hB, wP_lt, oM_k hM, oM_0 hM, oM_1 hM, oM_5 hM, oM_6 hM, oM_2 hM, oM_3 hM, oM_4 hM, oM_k1 hM, oM_n1 hM, oM_k2 hM, oM_n2 hM, oM_k3 hM, oM_n3 hM, oM_w hM, oM_b hM, oM_h hM, iv1_1, false_or, true_or, or_true, iv_add, iv_sub, iv_mul, iv_neg, iv_zero, iv_ltT, iv_ltF, iv_leT, iv_leF, iv_eqT, iv_eqF, iv_div, rm_iv, tn_iv, ib_iv, some_cb, some_cbv, ↓nm_eq, ↓reduceIte, true_and, and_true, Bool.true_eq_false, Bool.false_eq_true, not_false_eq_true, not_true_eq_false]
  | succ n ih =>
    intro N g hN hg
    obtain ⟨N, rfl⟩ : ∃ N', N = N' + 1 := ⟨N - 1, by omega⟩
    have q := ih N (g + 1) (by omega) (by omega)
    have q1 := c_see1 hS hl b0 tb hC hG i0 i1 sk1 sn1 sd (lp b_X0_see_2 (fun _ _ _ _ _ => none) N) (g := g) (by omega) C FU 0 (FU_gt (by omega)) (by omega)
    change lp (b_X0_see_16 (lp b_X0_see_2 (fun _ _ _ _ _ => none) N)) (fun _ _ _ _ _ _ => none) FU (A (10 + (12 * m + b))) a (iv i) (iv g) (iv 0) (opC h (A (10 + (12 * m + b))) C (opE w s i) (g * C)) = _ at q1
    rw [← q, Nat.succ_mul, show ((g + 1 : Nat) : Int) = (g : Int) + 1 by omega, ← q1]
    clear q q1 ih
    simp -implicitDefEqProofs (disch := omega) only [lp_succ, F_b_X0_see_2, f_X0_see_16, opC_K, opC_R, opC_I, oB_k hB, oB_0 hB, oB_1 hB, oB_2 hB, oB_3 hB, oB_4 hB, oB_k1 hB, oB_n1 hB, oB_k2 hB, oB_n2 hB, oB_k3 hB, oB_n3 hB, oB_k4 hB, oB_n4 hB, oB_5 hB, oB_6 hB, oB_7 hB, oB_d1 hB, oB_d2 hB, wP_lt, oM_k hM, oM_0 hM, oM_1 hM, oM_5 hM, oM_6 hM, oM_2 hM, oM_3 hM, oM_4 hM, oM_k1 hM, oM_n1 hM, oM_k2 hM, oM_n2 hM, oM_k3 hM, oM_n3 hM, oM_w hM, oM_b hM, oM_h hM, iv_add, iv_sub, iv_mul, iv_neg, iv_zero, iv_ltT, iv_ltF, iv_leT, iv_leF, iv_eqT, iv_eqF, iv_div, rm_iv, tn_iv, ib_iv, some_cb, some_cbv, ↓nm_eq, ↓reduceIte, true_and, and_true, Bool.true_eq_false, Bool.false_eq_true, not_false_eq_true, not_true_eq_false]
set_option maxRecDepth 100000 in
theorem q_see (hS : QS w h) (hl : lvM w m) (b0 : 0 ≤ b) (tb : b < wBx w m) {C G : Nat} (hC : (C : Int) = wCh w m) (hG : (G : Int) = wGr w m) (s0 : 0 ≤ s) (s1 : s < 6) (i0 : 0 ≤ i) (i1 : i + wGr w m * wCh w m ≤ 60) (n : Nat) : ∀ (N q : Nat), n < N → q + n = G * C → lp b_X12_open_64 (fun _ _ _ _ _ _ _ => none) N 91 (iv s) (iv i) (iv (12 * m + b)) (iv m) (iv q) (opQ h (12 * m + b) C (opE w s i) q) = if C = 2 then f_X12_open_153 91 (iv (12 * m + b)) (iv m) (iv 0) (opQ h (12 * m + b) C (opE w s i) (G * C)) else f_X12_open_189 91 (iv (12 * m + b)) (opQ h (12 * m + b) C (opE w s i) (G * C)) := by
  have hF := hS.F
  have hR := hS.R
  obtain ⟨⟨gg1, gg2⟩, ⟨gc1, gc2⟩, bb, -⟩ := hS.W.mat hl
  have gb := gc_bd (hS.W.mat hl)
  have l0 := hl.1
  have l4 : m < 4 := by have := hl.2; have := hS.W.1.2; omega
  have hGC : wGr w m * wCh w m = ((G * C : Nat) : Int) := by rw [← hC, ← hG]; push_cast; rfl
  induction n with
  | zero =>
    intro N q hN hq
    obtain ⟨N, rfl⟩ : ∃ N', N = N' + 1 := ⟨N - 1, by omega⟩
    obtain rfl : q = G * C := by omega
    rcases (show C = 2 ∨ C = 3 by omega) with c | c
    · have z2 : wCh w m = 2 := by omega
      rw [if_pos c]
      simp -implicitDefEqProofs (disch := omega) only [lp_succ, F_b_X12_open_64, opQ_K, opQ_N, opQ_R, opQ_I, K91 hF, K92 hF, N92 hF, K93 hF, N93 hF, K94 hF, N94 hF, K95 hF, N95 hF, K96 hF, N96 hF, K97 hF, N97 hF, K98 hF, N98 hF, K99 hF, N99 hF, K100 hF, N100 hF, K101 hF, N101 hF, K102 hF, N102 hF, K103 hF, N103 hF, K104 hF, N104 hF, K105 hF, N105 hF, K106 hF, N106 hF, K107 hF, N107 hF, K108 hF, N108 hF, K109 hF, N109 hF, K110 hF, N110 hF, K111 hF, N111 hF, K112 hF, N112 hF, K113 hF, N113 hF, K114 hF, N114 hF, K115 hF, N115 hF, K116 hF, N116 hF, K117 hF, N117 hF, K118 hF, N118 hF, K119 hF, N119 hF, K120 hF, N120 hF, R91_1 hF, R91_2 hF, R91_3 hF, R91_4 hF, R91_5 hF, R91_6 hF, R91_7 hF, R91_8 hF, R91_9 hF, R91_10 hF, R91_11 hF, R91_12 hF, R91_13 hF, R91_14 hF, R91_15 hF, R91_16 hF, R91_17 hF, R91_18 hF, R91_21 hF, R91_22 hF, R91_24 hF, R91_25 hF, R91_26 hF, R91_27 hF, R91_29 hF, R91_30 hF, R91_31 hF, R91_32 hF, R91_44 hF, RR_M hR, RR_T hR, RR_K hR, RR_Bo hR, RR_Gr hR, RR_Ch hR, RR_Bx hR, RR_G hR, RR_C hR, RR_G0 hR, RR_C0 hR, RR_V hR, RR_O hR, RR_Se hR, RR_S2 hR, RR_L hR, RR_W hR, RR_H hR, RR_hSo hR, RR_hCe hR, RR_hBo hR, RR_hOt hR, RR_hMu hR, RR_Ta hR, RR_Ki hR, RR_Tr hR, RR_Is hR, RR_So hR, RR_Sz hR, RR_El hR, iv_add, iv_sub, iv_mul, iv_neg, iv_zero, iv_ltT, iv_ltF, iv_leT, iv_leF, iv_eqT, iv_eqF, iv_div, rm_iv, tn_iv, ib_iv, some_cb, some_cbv, ↓nm_eq, ↓reduceIte, true_and, and_true, Bool.true_eq_false, Bool.false_eq_true, not_false_eq_true, not_true_eq_false]
    · have z2 : wCh w m = 3 := by omega
      rw [if_neg (by omega)]
      simp -implicitDefEqProofs (disch := omega) only [lp_succ, F_b_X12_open_64, opQ_K, opQ_N, opQ_R, opQ_I, K91 hF, K92 hF, N92 hF, K93 hF, N93 hF, K94 hF, N94 hF, K95 hF, N95 hF, K96 hF, N96 hF, K97 hF, N97 hF, K98 hF, N98 hF, K99 hF, N99 hF, K100 hF, N100 hF, K101 hF, N101 hF, K102 hF, N102 hF, K103 hF, N103 hF, K104 hF, N104 hF, K105 hF, N105 hF, K106 hF, N106 hF, K107 hF, N107 hF, K108 hF, N108 hF, K109 hF, N109 hF, K110 hF, N110 hF, K111 hF, N111 hF, K112 hF, N112 hF, K113 hF, N113 hF, K114 hF, N114 hF, K115 hF, N115 hF, K116 hF, N116 hF, K117 hF, N117 hF, K118 hF, N118 hF, K119 hF, N119 hF, K120 hF, N120 hF, R91_1 hF, R91_2 hF, R91_3 hF, R91_4 hF, R91_5 hF, R91_6 hF, R91_7 hF, R91_8 hF, R91_9 hF, R91_10 hF, R91_11 hF, R91_12 hF, R91_13 hF, R91_14 hF, R91_15 hF, R91_16 hF, R91_17 hF, R91_18 hF, R91_21 hF, R91_22 hF, R91_24 hF, R91_25 hF, R91_26 hF, R91_27 hF, R91_29 hF, R91_30 hF, R91_31 hF, R91_32 hF, R91_44 hF, RR_M hR, RR_T hR, RR_K hR, RR_Bo hR, RR_Gr hR, RR_Ch hR, RR_Bx hR, RR_G hR, RR_C hR, RR_G0 hR, RR_C0 hR, RR_V hR, RR_O hR, RR_Se hR, RR_S2 hR, RR_L hR, RR_W hR, RR_H hR, RR_hSo hR, RR_hCe hR, RR_hBo hR, RR_hOt hR, RR_hMu hR, RR_Ta hR, RR_Ki hR, RR_Tr hR, RR_Is hR, RR_So hR, RR_Sz hR, RR_El hR, iv_add, iv_sub, iv_mul, iv_neg, iv_zero, iv_ltT, iv_ltF, iv_leT, iv_leF, iv_eqT, iv_eqF, iv_div, rm_iv, tn_iv, ib_iv, some_cb, some_cbv, ↓nm_eq, ↓reduceIte, true_and, and_true, Bool.true_eq_false, Bool.false_eq_true, not_false_eq_true, not_true_eq_false]
  | succ n ih =>
    intro N q hN hq
    obtain ⟨N, rfl⟩ : ∃ N', N = N' + 1 := ⟨N - 1, by omega⟩
    have qq := ih N (q + 1) (by omega) (by omega)
    rw [← qq]
    clear qq ih
    have ej : gJ h 115 (60 * s + i + (q : Int)).toNat = sEl w (60 * s + i + q) := RR_El hR (by omega)
    have eE : (sEl w (60 * s + i + (q : Int))).toInt32 = iv (opE w s i q) := toI_iv _
    have hdv : iv (q : Int) / iv (wCh w m) = iv ((q : Int) / wCh w m) := iv_div (by omega) (by omega) (by omega) (by omega)
    have hrm : rmI (iv (q : Int)) (iv (wCh w m)) = iv ((q : Int) % wCh w m) := rm_iv (by omega) (by omega) (by omega) (by omega)
    have ix : 12 * (12 * m + b) + 3 * ((q : Int) / wCh w m) + (q : Int) % wCh w m = 12 * (12 * m + b) + ((3 * (q / C) + q % C : Nat) : Int) := by
      rw [← hC]; push_cast; omega
    have hq12 : 3 * (q / C) + q % C < 12 := by rcases (show C = 2 ∨ C = 3 by omega) with u | u <;> subst u <;> omega
    have ix0 : 0 ≤ 12 * (12 * m + b) + 3 * ((q : Int) / wCh w m) + (q : Int) % wCh w m ∧ 12 * (12 * m + b) + 3 * ((q : Int) / wCh w m) + (q : Int) % wCh w m < 576 := by rw [ix]; omega
    show _ = lp b_X12_open_64 (fun _ _ _ _ _ _ _ => none) N 91 (iv s) (iv i) (iv (12 * m + b)) (iv m) (iv ((q + 1 : Nat) : Int)) (sI (opQ h (12 * m + b) C (opE w s i) q) 99 (12 * (12 * m + b) + (3 * (q / C) + q % C : Nat)).toNat (iv (opE w s i q)))
    rw [show ((q + 1 : Nat) : Int) = (q : Int) + 1 by omega, ← ix]
    simp -implicitDefEqProofs (disch := omega) only [lp_succ, F_b_X12_open_64, opQ_K, opQ_N, opQ_R, opQ_J, opQ_I, K91 hF, R91_1 hF, R91_2 hF, R91_8 hF, R91_27 hF, K92 hF, N92 hF, K93 hF, N93 hF, K99 hF, N99 hF, K115 hF, N115 hF, RR_Gr hR, RR_Ch hR, hdv, hrm, ej, eE, iv_add, iv_sub, iv_mul, iv_neg, iv_zero, iv_ltT, iv_ltF, iv_leT, iv_leF, iv_eqT, iv_eqF, iv_div, rm_iv, tn_iv, ib_iv, some_cb, some_cbv, ↓nm_eq, ↓reduceIte, true_and, and_true, Bool.true_eq_false, Bool.false_eq_true, not_false_eq_true, not_true_eq_false]
set_option maxRecDepth 100000 in
theorem q_see3 (hF : Fix h) (hR : RR w h) (x0 : 0 ≤ x) (x1 : x < 48) (m0 : 0 ≤ m) (m4 : m < 4) {G : Nat} (hG : (G : Int) = wGr w m) (g4 : G ≤ 4) (n : Nat) : ∀ (N g : Nat), n < N → g + n = G → lp b_X12_open_153 (fun _ _ _ _ _ => none) N 91 (iv x) (iv m) (iv g) (opQ2 h x g) = some (iv 1, sI (opQ2 h x G) 98 x.toNat (iv 1)) := by
  induction n with
  | zero =>
    intro N g hN hg
    obtain ⟨N, rfl⟩ : ∃ N', N = N' + 1 := ⟨N - 1, by omega⟩
    obtain rfl : g = G := by omega
    simp -implicitDefEqProofs (disch := omega) only [lp_succ, F_b_X12_open_153, F_f_X12_open_189, opQ2_K, opQ2_N, opQ2_R, opQ2_I, K91 hF, R91_1 hF, R91_7 hF, K92 hF, N92 hF, K98 hF, N98 hF, RR_Gr hR, iv1_1, false_or, true_or, or_true, iv_add, iv_sub, iv_mul, iv_neg, iv_zero, iv_ltT, iv_ltF, iv_leT, iv_leF, iv_eqT, iv_eqF, iv_div, rm_iv, tn_iv, ib_iv, some_cb, some_cbv, ↓nm_eq, ↓reduceIte, true_and, and_true, Bool.true_eq_false, Bool.false_eq_true, not_false_eq_true, not_true_eq_false]
  | succ n ih =>
    intro N g hN hg
    obtain ⟨N, rfl⟩ : ∃ N', N = N' + 1 := ⟨N - 1, by omega⟩
    have qq := ih N (g + 1) (by omega) (by omega)
    rw [← qq]
    clear qq ih
    have ix : 12 * x + 3 * (g : Int) + 2 = 12 * x + ((3 * g + 2 : Nat) : Int) := by push_cast; omega
    show _ = lp b_X12_open_153 (fun _ _ _ _ _ => none) N 91 (iv x) (iv m) (iv ((g + 1 : Nat) : Int)) (sI (opQ2 h x g) 99 (12 * x + (3 * g + 2 : Nat)).toNat (iv 0))
    rw [show ((g + 1 : Nat) : Int) = (g : Int) + 1 by omega, ← ix]
    simp -implicitDefEqProofs (disch := omega) only [lp_succ, F_b_X12_open_153, opQ2_K, opQ2_N, opQ2_R, opQ2_I, K91 hF, R91_1 hF, R91_8 hF, K92 hF, N92 hF, K99 hF, N99 hF, RR_Gr hR, iv_add, iv_sub, iv_mul, iv_neg, iv_zero, iv_ltT, iv_ltF, iv_leT, iv_leF, iv_eqT, iv_eqF, iv_div, rm_iv, tn_iv, ib_iv, some_cb, some_cbv, ↓nm_eq, ↓reduceIte, true_and, and_true, Bool.true_eq_false, Bool.false_eq_true, not_false_eq_true, not_true_eq_false]
theorem Sim_open (hS : Sim w A h) (hl : lvM w m) (b0 : 0 ≤ b) (tb : b < wBx w m) {C G : Nat} {E : Nat → Int} {h2 : AH} (hC : (C : Int) = wCh w m) (hG : (G : Int) = wGr w m) (no : wO w (12 * m + b) ≠ 1) (er : ∀ q : Nat, q < G * C → 0 ≤ E q ∧ E q ≤ 99) (R2 : RR w' h2) (k2 : ∀ a, gK h2 a = gK h a) (n2 : ∀ a, gN h2 a = gN h a) (r2 : ∀ a j, gR h2 a j = gR h a j) (j2 : ∀ a j, gJ h2 a j = gJ h a j) (c2 : gC h2 = gC h) (i2 : ∀ a j, (a < 91 ∨ 115 < a) → gI h2 a j = gI (sI (opC h (A (10 + (12 * m + b))) C E (G * C)) (A (10 + (12 * m + b))) 7 (iv 1)) a j) (eo : ∀ (a : Nat) (z : Int), (a ≠ 99 ∨ z < 12 * (12 * m + b) ∨ 12 * (12 * m + b) + 12 ≤ z) → (a ≠ 98 ∨ z ≠ 12 * m + b) → w'.1 a z = w.1 a z) (e2 : w'.2 = w.2) (e98 : wO w' (12 * m + b) = 1) (e99 : ∀ p : Nat, p < 3 * G → w'.1 99 (12 * (12 * m + b) + p) = if p % 3 < C then E (p / 3 * C + p % 3) else 0) : Sim w' A h2 := by
  have aB := hS.aB hl b0 tb
  have tB := hS.tB hl b0 tb
  obtain ⟨⟨gg1, gg2⟩, ⟨gc1, gc2⟩, bb, -⟩ := hS.W.mat hl
  have c23 : C = 2 ∨ C = 3 := by omega
  have eP : ∀ m y g, wP w' m y g = wP w m y g := fun m y g => by
    unfold wP wGr wG
    rw [eo 92 _ (by omega) (by omega), eo 95 _ (by omega) (by omega)]
  have hlt : ∀ p : Nat, p < 3 * G → p % 3 < C → p / 3 * C + p % 3 < G * C := fun p hp hq => by rcases c23 with u | u <;> subst u <;> omega
  refine hS.box hl b0 tb (fun a z y => eo a z (by omega) (by omega)) (fun z => by rw [e2]) ?_ R2 (fun c n z1 z2 z3 a y1 y2 => ⟨k2 a, n2 a, fun j => by rw [i2 a j (by omega), gI_sIo _ _ (by omega), opC_I _ (by omega)], j2 a, r2 a⟩) c2 ?_ ?_ (j2 _ _)
  · exact hS.F.fr (fun a _ => k2 a) (fun a _ => n2 a) (fun a j _ _ _ _ => r2 a j)
  · obtain ⟨o1, o2, o3, o4, o5, o6, ⟨o7, o8⟩, ⟨o9, o10⟩, ⟨o11, o12⟩, ⟨o13, o14⟩, p1, p2, p3, p4, p5, p6, p7⟩ := hS.B hl b0 tb
    unfold ObB
    rw [e98, show wGr w' m = wGr w m from eo 92 _ (by omega) (by omega), show wCh w' m = wCh w m from eo 93 _ (by omega) (by omega), show wV w' (12 * m + b) = wV w (12 * m + b) from eo 97 _ (by omega) (by omega), show wS2 w' (12 * m + b) = wS2 w (12 * m + b) from eo 100 _ (by omega) (by omega)]
    have gi : ∀ a j, (121 ≤ a) → a ≠ A (10 + (12 * m + b)) + 4 → (a ≠ A (10 + (12 * m + b)) ∨ j ≠ 7) → gI h2 a j = gI h a j := fun a j y1 y2 y3 => by rw [i2 a j (by omega), gI_sIo _ _ y3, opC_I _ y2]
    refine ⟨by rw [k2, o1], by rw [r2, o2], by rw [r2, o3], by rw [r2, o4], by rw [r2, o5], by rw [r2, o6], ⟨by rw [k2, o7], by rw [n2, o8]⟩, ⟨by rw [k2, o9], by rw [n2, o10]⟩, ⟨by rw [k2, o11], by rw [n2, o12]⟩, ⟨by rw [k2, o13], by rw [n2, o14]⟩, fun p y z => by rw [gi _ _ (by omega) (by omega) (by omega), eP]; exact p1 p y z, fun p y z => by rw [gi _ _ (by omega) (by omega) (by omega), show wC w' (12 * m + b) p = wC w (12 * m + b) p from eo 96 _ (by omega) (by omega)]; exact p2 p y z, fun k y z => by rw [gi _ _ (by omega) (by omega) (by omega), show wL w' (12 * m + b) k = wL w (12 * m + b) k from eo 101 _ (by omega) (by omega)]; exact p3 k y z, fun p y z => ?_, by rw [gi _ _ (by omega) (by omega) (by omega), p5], by rw [gi _ _ (by omega) (by omega) (by omega), p6], by rw [i2 _ _ (by omega), gI_sIs]⟩
    obtain ⟨p', rfl⟩ : ∃ p' : Nat, p = p' := ⟨p.toNat, by omega⟩
    have e1 : wSe w' (12 * m + b) p' = if p' % 3 < C then E (p' / 3 * C + p' % 3) else 0 := e99 p' (by omega)
    have q4 := p4 p' y z
    rw [if_neg no] at q4
    rw [if_pos rfl, e1, i2 _ _ (by omega), gI_sIo _ _ (by omega), Int.toNat_natCast, opC_v c23]
    by_cases u : p' % 3 < C
    · rw [if_pos u, if_pos ⟨u, hlt p' (by omega) u⟩]
    · rw [if_neg u, if_neg (by omega)]
      exact q4
  · obtain ⟨z1, z2, z3, z4, z5, z6, z7, z8, z9⟩ := hS.W.box hl b0 tb
    unfold boxOK
    rw [e98, show wGr w' m = wGr w m from eo 92 _ (by omega) (by omega), show wCh w' m = wCh w m from eo 93 _ (by omega) (by omega), show wV w' (12 * m + b) = wV w (12 * m + b) from eo 97 _ (by omega) (by omega), show wS2 w' (12 * m + b) = wS2 w (12 * m + b) from eo 100 _ (by omega) (by omega), eP, eP, eP, eP, show wC w' (12 * m + b) 0 = wC w (12 * m + b) 0 from eo 96 _ (by omega) (by omega), show wC w' (12 * m + b) 1 = wC w (12 * m + b) 1 from eo 96 _ (by omega) (by omega), show wC w' (12 * m + b) 2 = wC w (12 * m + b) 2 from eo 96 _ (by omega) (by omega)]
    refine ⟨fun g y0 y1 => by rw [eP]; exact z1 g y0 y1, fun k y0 y1 => by rw [show wC w' (12 * m + b) k = wC w (12 * m + b) k from eo 96 _ (by omega) (by omega)]; exact z2 k y0 y1, z3, z4, z5, Or.inr rfl, fun _ p y0 y1 => ?_, z8, fun y k y0 y1 => by rw [show wL w' (12 * m + b) k = wL w (12 * m + b) k from eo 101 _ (by omega) (by omega)]; exact z9 y k y0 y1⟩
    obtain ⟨p', rfl⟩ : ∃ p' : Nat, p = p' := ⟨p.toNat, by omega⟩
    have e1 : wSe w' (12 * m + b) p' = if p' % 3 < C then E (p' / 3 * C + p' % 3) else 0 := e99 p' (by omega)
    rw [e1]
    by_cases u : p' % 3 < C
    · rw [if_pos u]
      have := er _ (hlt p' (by omega) u)
      exact ⟨this.1, this.2, fun y => by omega⟩
    · rw [if_neg u]
      exact ⟨by omega, by omega, fun _ => rfl⟩
set_option maxRecDepth 100000 in
theorem M_open (hS : Sim w A h) (x1 x2 x3 : Int32) : Both (f_X11_open 3 x1 x2 x3) (f_X12_open 91 x1 x2 x3) h := by
  obtain ⟨t, rfl, t1, t2⟩ := iv_ex x1
  obtain ⟨s, rfl, u1, u2⟩ := iv_ex x2
  obtain ⟨i, rfl, i1, i2⟩ := iv_ex x3
  have hF := hS.F
  have hR := hS.R
  by_cases hb : isB w t
  · obtain ⟨t0, hl, tb⟩ := hb; obtain ⟨m, hm⟩ : ∃ m, t / 100 = m := ⟨_, rfl⟩; obtain ⟨b, hbb⟩ : ∃ b, t % 100 = b := ⟨_, rfl⟩; rw [hm] at hl tb; rw [hbb] at tb; have b0 : 0 ≤ b := (by omega); obtain ⟨⟨x0, x1⟩, v0, v1⟩ := box_ran hS.W hl b0 tb; obtain ⟨⟨w1, w2⟩, -⟩ := hS.W; obtain ⟨⟨gg1, gg2⟩, ⟨gc1, gc2⟩, ⟨b2, b3⟩, ⟨hh1, hh2⟩, -⟩ := hS.W.mat hl; have hx : iv (12 * m + b) / iv 12 = iv m := (by rw [iv_div (by omega) (by omega) (by omega) (by omega)]; congr 1; omega); have hxm : rmI (iv (12 * m + b)) (iv 12) = iv b := (by rw [rm_iv (by omega) (by omega) (by omega) (by omega)]; congr 1; omega); have hcb := c_boxAt1 hS t2 t0 hm hbb hl tb; have hqb := q_boxOf1 hS.Q t2 t0 hm hbb hl tb; have hqbA := fun (h1 : AH) (q : QS w h1) => q_boxOf1 q t2 t0 hm hbb hl tb; have hcbA := fun (h1 : AH) (q : Sim w A h1) => c_boxAt1 q t2 t0 hm hbb hl tb; have hbA := eq_false (hS.bA hl b0 tb); have hB := hS.B hl b0 tb; have hM := hS.M hl; have hV := hS.W.box hl b0 tb; clear t0 t1 t2 hm hbb
    by_cases hs : 0 ≤ s ∧ s < 6
    · have hbr := q_barsRow hS.Q hl b0 tb hs i1 i2
      have hm := c_may hS hl b0 tb hcb hs i1 i2
      unfold mayZ at hm
      rcases barZ_rng w s i m with q | q | q | q
      · have qm := q_mayNot hS.Q hl b0 tb hs q.1
        rw [if_pos q.1] at hm
        rw [q.1] at hbr
        rcases mvAll_rng w s i m (12 * m + b) (by omega) (wGr w m).toNat 0 (by omega) (by omega) with r | r
        · obtain ⟨q1, q2, q3, q4⟩ := q
          rw [r] at hm qm
          obtain ⟨a, ha, hsh, ha0, sk, sr, sk1, sn1, -, -, -, sd⟩ := sh_facts hS hs.1 hs.2
          have s121 : a < 121 := by omega
          clear ha
          rcases hV.2.2.2.2.2.1 with o | o
          · obtain ⟨C, hC⟩ : ∃ C : Nat, (C : Int) = wCh w m := ⟨(wCh w m).toNat, by omega⟩
            obtain ⟨G, hG⟩ : ∃ G : Nat, (G : Int) = wGr w m := ⟨(wGr w m).toNat, by omega⟩
            have yy := hS.W.sh hs.1 hs.2
            have gb := gc_bd (hS.W.mat hl)
            have i60 : i + wGr w m * wCh w m ≤ 60 := by have := yy.2.2.1.2; omega
            have er := op_rng hS hl b0 tb hs.1 hs.2 q2 i60 q4 r hC hG
            have cs := c_see2 hS hl b0 tb hC hG q2 i60 sk1 sn1 sd G FU 0 (FU_gt (by omega)) (by omega)
            rw [Nat.zero_mul] at cs
            change lp b_X0_see_2 (fun _ _ _ _ _ => none) FU (A (10 + (12 * m + b))) (a + 1) (iv i) (iv 0) h = _ at cs
            have aB := hS.aB hl b0 tb
            have tB := hS.tB hl b0 tb
            have hGC : wGr w m * wCh w m = ((G * C : Nat) : Int) := by rw [← hC, ← hG]; push_cast; rfl
            have Q1 : QS w (sI (opC h (A (10 + (12 * m + b))) C (opE w s i) (G * C)) (A (10 + (12 * m + b))) 7 (iv 1)) := by
              refine QS.sI ⟨hS.F.fr (fun a _ => opC_K _ a) (fun a _ => opC_N _ a) (fun a j _ _ _ _ => opC_R _ a j), hS.R.fr (fun a j _ => opC_I _ (by omega)) (fun j => opC_J _ _ j), hS.W⟩ (by omega)
            have hbr1 := q_barsRow Q1 hl b0 tb hs i1 i2
            rw [q1] at hbr1
            have qm1 := q_mayNot Q1 hl b0 tb hs q1
            rw [r] at qm1
            have hqb1 := hqbA _ Q1
            have qs := q_see Q1 hl b0 tb hC hG hs.1 hs.2 q2 i60 (G * C) FU 0 (FU_gt (by omega)) (by omega)
            change lp b_X12_open_64 (fun _ _ _ _ _ _ _ => none) FU 91 (iv s) (iv i) (iv (12 * m + b)) (iv m) (iv 0) (sI (opC h (A (10 + (12 * m + b))) C (opE w s i) (G * C)) (A (10 + (12 * m + b))) 7 (iv 1)) = _ at qs
            have hF1 := Q1.F
            have hR1 := Q1.R
            have ro : gI (sI (opC h (A (10 + (12 * m + b))) C (opE w s i) (G * C)) (A (10 + (12 * m + b))) 7 (iv 1)) 98 (12 * m + b).toNat = iv 0 := by rw [RR_O hR1 (by omega), o]
            have co : gI h (A (10 + (12 * m + b))) 7 = iv 0 := by rw [oB_7 hB, o]
            have hc : f_X11_open 3 (iv t) (iv s) (iv i) h = some (iv 1, sI (opC h (A (10 + (12 * m + b))) C (opE w s i) (G * C)) (A (10 + (12 * m + b))) 7 (iv 1)) := by
              simp -implicitDefEqProofs (disch := omega) only [k_X11_open_1, k_X11_open_2, k_X11_open_3, k_X11_open_4, F_f_X11_open, F_f_X0_see, f_X0_see_2, K3 hF, hm, hcb, hsh, hbA, ha0, oB_k hB, sk, sr, co, cs, iv_add, iv_sub, iv_mul, iv_neg, iv_zero, iv_ltT, iv_ltF, iv_leT, iv_leF, iv_eqT, iv_eqF, iv_div, rm_iv, tn_iv, ib_iv, some_cb, some_cbv, ↓nm_eq, ↓reduceIte, true_and, and_true, Bool.true_eq_false, Bool.false_eq_true, not_false_eq_true, not_true_eq_false]
            have ce : ∀ c n : Nat, c + n ≤ 91 → Blk h (sI (opC h (A (10 + (12 * m + b))) C (opE w s i) (G * C)) (A (10 + (12 * m + b))) 7 (iv 1)) c n := fun c n z a y1 y2 => ⟨opC_K _ a, opC_N _ a, fun j => by rw [gI_sIo _ _ (by omega), opC_I _ (by omega)], opC_J _ a, opC_R _ a⟩
            have exb : Exb h (sI (opC h (A (10 + (12 * m + b))) C (opE w s i) (G * C)) (A (10 + (12 * m + b))) 7 (iv 1)) := ⟨opC_N _ 2, funext (fun j => by rw [gI_sIo _ _ (by omega), opC_I _ (by omega)]), K91 hF1⟩
            have c23 : C = 2 ∨ C = 3 := by omega
            have G4 : G ≤ 4 := by omega
            have hn4 : G * C ≤ 4 * C := Nat.mul_le_mul_right C G4
            rcases c23 with c | c
            · rw [if_pos c] at qs
              have hF2 : Fix (opQ (sI (opC h (A (10 + (12 * m + b))) C (opE w s i) (G * C)) (A (10 + (12 * m + b))) 7 (iv 1)) (12 * m + b) C (opE w s i) (G * C)) := hF1.fr (fun a _ => opQ_K _ a) (fun a _ => opQ_N _ a) (fun a j _ _ _ _ => opQ_R _ a j)
              have hR2 := opQ_RR (C := C) (E := opE w s i) hR1 (x := 12 * m + b) (by omega) (G * C)
              have q3' := q_see3 (G := G) hF2 hR2 (x := 12 * m + b) (m := m) (by omega) (by omega) (by omega) (by omega) (by rw [hG]; exact (opW_o _ (by omega)).symm) G4 G FU 0 (FU_gt (by omega)) (by omega)
              change f_X12_open_153 91 (iv (12 * m + b)) (iv m) (iv 0) (opQ (sI (opC h (A (10 + (12 * m + b))) C (opE w s i) (G * C)) (A (10 + (12 * m + b))) 7 (iv 1)) (12 * m + b) C (opE w s i) (G * C)) = _ at q3'
              rw [q3'] at qs
              refine ⟨iv 1, _, _, wZ (opW2 (opW w (12 * m + b) C (opE w s i) (G * C)) (12 * m + b) G) 98 (12 * m + b) 1, A, hc, ?_, Sim_open hS hl b0 tb (h2 := sI (opQ2 (opQ (sI (opC h (A (10 + (12 * m + b))) C (opE w s i) (G * C)) (A (10 + (12 * m + b))) 7 (iv 1)) (12 * m + b) C (opE w s i) (G * C)) (12 * m + b) G) 98 (12 * m + b).toNat (iv 1)) hC hG (by omega) er (RR_wZ (opQ2_RR hR2 (by omega) G) (by omega) (by omega) (by omega)) (fun a => ?_) (fun a => ?_) (fun a j => ?_) (fun a j => ?_) ?_ (fun a j y => ?_) (fun a z y1 y2 => ?_) ?_ (wZ_at _ _ _ _) (fun p hp => ?_), ?_, exb⟩
              · simp -implicitDefEqProofs (disch := omega) only [F_f_X12_open_189, F_b_X12_open_153, f_X12_open_153, F_b_X12_open_64, f_X12_open_64, k_X12_open_1, k_X12_open_2, k_X12_open_3, F_f_X12_open, K91 hF1, hqb1, hbr1, qm1, R91_7 hF1, K98 hF1, N98 hF1, ro, hx, qs, iv_add, iv_sub, iv_mul, iv_neg, iv_zero, iv_ltT, iv_ltF, iv_leT, iv_leF, iv_eqT, iv_eqF, iv_div, rm_iv, tn_iv, ib_iv, some_cb, some_cbv, ↓nm_eq, ↓reduceIte, true_and, and_true, Bool.true_eq_false, Bool.false_eq_true, not_false_eq_true, not_true_eq_false]
              · exact (opQ2_K _ a).trans ((opQ_K _ a).trans (opC_K _ a))
              · exact (opQ2_N _ a).trans ((opQ_N _ a).trans (opC_N _ a))
              · exact (opQ2_R _ a j).trans ((opQ_R _ a j).trans (opC_R _ a j))
              · exact (opQ2_J _ a j).trans ((opQ_J _ a j).trans (opC_J _ a j))
              · exact (opQ2_C _).trans ((opQ_C _).trans (opC_C _))
              · rw [gI_sIo _ _ (by omega), opQ2_I _ (by omega), opQ_I _ (by omega)]
              · rw [wZ_o _ (by omega)]
                by_cases e : a = 99
                · subst e
                  rw [opW2_f _ G4 (by omega), opW_f (Or.inl c) hn4 _ (Nat.le_refl _) (by omega)]
                · rw [opW2_o _ e, opW_o _ e]
              · show (opW2 (opW w (12 * m + b) C (opE w s i) (G * C)) (12 * m + b) G).2 = w.2
                rw [opW2_2, opW_2]
              · rw [wZ_o _ (by omega), opW2_v, opW_v (Or.inl c)]
                by_cases y : p % 3 < C
                · rw [if_neg (by omega), if_pos ⟨y, by subst c; omega⟩, if_pos y]
                · rw [if_pos (by omega), if_neg y]
              · refine ⟨?_, ?_, (opQ2_N _ 2).trans ((opQ_N _ 2).trans (opC_N _ 2)), ?_⟩
                · show gC (opQ2 _ _ _) ≤ _
                  rw [opQ2_C, opQ_C]
                  show gC (opC _ _ _ _ _) ≤ _
                  rw [opC_C]; omega
                · show gS (opQ2 _ _ _) ≤ _
                  rw [opQ2_S, opQ_S]
                  show gS (opC _ _ _ _ _) ≤ _
                  rw [opC_S]; omega
                · funext j
                  rw [gI_sIo _ _ (by omega), opQ2_I _ (by omega), opQ_I _ (by omega), gI_sIo _ _ (by omega), opC_I _ (by omega)]
            · rw [if_neg (by omega)] at qs
              have hF2 : Fix (opQ (sI (opC h (A (10 + (12 * m + b))) C (opE w s i) (G * C)) (A (10 + (12 * m + b))) 7 (iv 1)) (12 * m + b) C (opE w s i) (G * C)) := hF1.fr (fun a _ => opQ_K _ a) (fun a _ => opQ_N _ a) (fun a j _ _ _ _ => opQ_R _ a j)
              have hR2 := opQ_RR (C := C) (E := opE w s i) hR1 (x := 12 * m + b) (by omega) (G * C)
              have q3' : f_X12_open_189 91 (iv (12 * m + b)) (opQ (sI (opC h (A (10 + (12 * m + b))) C (opE w s i) (G * C)) (A (10 + (12 * m + b))) 7 (iv 1)) (12 * m + b) C (opE w s i) (G * C)) = some (iv 1, sI (opQ (sI (opC h (A (10 + (12 * m + b))) C (opE w s i) (G * C)) (A (10 + (12 * m + b))) 7 (iv 1)) (12 * m + b) C (opE w s i) (G * C)) 98 (12 * m + b).toNat (iv 1)) := by
                simp -implicitDefEqProofs (disch := omega) only [F_f_X12_open_189, K91 hF2, R91_7 hF2, K98 hF2, N98 hF2, iv1_1, false_or, true_or, or_true, iv_add, iv_sub, iv_mul, iv_neg, iv_zero, iv_ltT, iv_ltF, iv_leT, iv_leF, iv_eqT, iv_eqF, iv_div, rm_iv, tn_iv, ib_iv, some_cb, some_cbv, ↓nm_eq, ↓reduceIte, true_and, and_true, Bool.true_eq_false, Bool.false_eq_true, not_false_eq_true, not_true_eq_false]
              rw [q3'] at qs
              refine ⟨iv 1, _, _, wZ (opW w (12 * m + b) C (opE w s i) (G * C)) 98 (12 * m + b) 1, A, hc, ?_, Sim_open hS hl b0 tb (h2 := sI (opQ (sI (opC h (A (10 + (12 * m + b))) C (opE w s i) (G * C)) (A (10 + (12 * m + b))) 7 (iv 1)) (12 * m + b) C (opE w s i) (G * C)) 98 (12 * m + b).toNat (iv 1)) hC hG (by omega) er (RR_wZ hR2 (by omega) (by omega) (by omega)) (fun a => ?_) (fun a => ?_) (fun a j => ?_) (fun a j => ?_) ?_ (fun a j y => ?_) (fun a z y1 y2 => ?_) ?_ (wZ_at _ _ _ _) (fun p hp => ?_), ?_, exb⟩
              · simp -implicitDefEqProofs (disch := omega) only [F_f_X12_open_189, F_b_X12_open_153, f_X12_open_153, F_b_X12_open_64, f_X12_open_64, k_X12_open_1, k_X12_open_2, k_X12_open_3, F_f_X12_open, K91 hF1, hqb1, hbr1, qm1, R91_7 hF1, K98 hF1, N98 hF1, ro, hx, qs, iv_add, iv_sub, iv_mul, iv_neg, iv_zero, iv_ltT, iv_ltF, iv_leT, iv_leF, iv_eqT, iv_eqF, iv_div, rm_iv, tn_iv, ib_iv, some_cb, some_cbv, ↓nm_eq, ↓reduceIte, true_and, and_true, Bool.true_eq_false, Bool.false_eq_true, not_false_eq_true, not_true_eq_false]
              · exact (opQ_K _ a).trans (opC_K _ a)
              · exact (opQ_N _ a).trans (opC_N _ a)
              · exact (opQ_R _ a j).trans (opC_R _ a j)
              · exact (opQ_J _ a j).trans (opC_J _ a j)
              · exact (opQ_C _).trans (opC_C _)
              · rw [gI_sIo _ _ (by omega), opQ_I _ (by omega)]
              · rw [wZ_o _ (by omega)]
                by_cases e : a = 99
                · subst e
                  rw [opW_f (Or.inr c) hn4 _ (Nat.le_refl _) (by omega)]
                · rw [opW_o _ e]
              · show (opW w (12 * m + b) C (opE w s i) (G * C)).2 = w.2
                rw [opW_2]
              · rw [wZ_o _ (by omega), opW_v (Or.inr c)]
                have y : p % 3 < C := by omega
                rw [if_pos ⟨y, by subst c; omega⟩, if_pos y]
              · refine ⟨?_, ?_, (opQ_N _ 2).trans (opC_N _ 2), ?_⟩
                · show gC (opQ _ _ _ _ _) ≤ _
                  rw [opQ_C]
                  show gC (opC _ _ _ _ _) ≤ _
                  rw [opC_C]; omega
                · show gS (opQ _ _ _ _ _) ≤ _
                  rw [opQ_S]
                  show gS (opC _ _ _ _ _) ≤ _
                  rw [opC_S]; omega
                · funext j
                  rw [gI_sIo _ _ (by omega), opQ_I _ (by omega), gI_sIo _ _ (by omega), opC_I _ (by omega)]
          · have ro : gI h 98 (12 * m + b).toNat = iv 1 := by rw [RR_O hR (by omega), o]
            have co : gI h (A (10 + (12 * m + b))) 7 = iv 1 := by rw [oB_7 hB, o]
            exact Both.still hS (r := iv (-5)) (by simp -implicitDefEqProofs (disch := omega) only [k_X11_open_1, k_X11_open_2, k_X11_open_3, k_X11_open_4, F_f_X11_open, K3 hF, hm, hcb, hsh, hbA, ha0, oB_k hB, sk, co, iv_add, iv_sub, iv_mul, iv_neg, iv_zero, iv_ltT, iv_ltF, iv_leT, iv_leF, iv_eqT, iv_eqF, iv_div, rm_iv, tn_iv, ib_iv, some_cb, some_cbv, ↓nm_eq, ↓reduceIte, true_and, and_true, Bool.true_eq_false, Bool.false_eq_true, not_false_eq_true, not_true_eq_false]) (by simp -implicitDefEqProofs (disch := omega) only [F_f_X12_open_189, F_b_X12_open_153, f_X12_open_153, F_b_X12_open_64, f_X12_open_64, k_X12_open_1, k_X12_open_2, k_X12_open_3, F_f_X12_open, K91 hF, hqb, hbr, qm, R91_7 hF, K98 hF, N98 hF, ro, iv_add, iv_sub, iv_mul, iv_neg, iv_zero, iv_ltT, iv_ltF, iv_leT, iv_leF, iv_eqT, iv_eqF, iv_div, rm_iv, tn_iv, ib_iv, some_cb, some_cbv, ↓nm_eq, ↓reduceIte, true_and, and_true, Bool.true_eq_false, Bool.false_eq_true, not_false_eq_true, not_true_eq_false])
        · skip
          generalize mvAll w s i m (12 * m + b) (wGr w m).toNat 0 = y at *
          exact Both.still hS (r := iv (-2)) (by simp -implicitDefEqProofs (disch := omega) only [k_X11_open_1, k_X11_open_2, k_X11_open_3, k_X11_open_4, F_f_X11_open, K3 hF, hm, iv_add, iv_sub, iv_mul, iv_neg, iv_zero, iv_ltT, iv_ltF, iv_leT, iv_leF, iv_eqT, iv_eqF, iv_div, rm_iv, tn_iv, ib_iv, some_cb, some_cbv, ↓nm_eq, ↓reduceIte, true_and, and_true, Bool.true_eq_false, Bool.false_eq_true, not_false_eq_true, not_true_eq_false]) (by simp -implicitDefEqProofs (disch := omega) only [F_f_X12_open_189, F_b_X12_open_153, f_X12_open_153, F_b_X12_open_64, f_X12_open_64, k_X12_open_1, k_X12_open_2, k_X12_open_3, F_f_X12_open, K91 hF, hqb, hbr, qm, iv_add, iv_sub, iv_mul, iv_neg, iv_zero, iv_ltT, iv_ltF, iv_leT, iv_leF, iv_eqT, iv_eqF, iv_div, rm_iv, tn_iv, ib_iv, some_cb, some_cbv, ↓nm_eq, ↓reduceIte, true_and, and_true, Bool.true_eq_false, Bool.false_eq_true, not_false_eq_true, not_true_eq_false])
      · rw [if_neg (by omega), q] at hm
        rw [q] at hbr
        exact Both.still hS (r := iv (-11)) (by simp -implicitDefEqProofs (disch := omega) only [k_X11_open_1, k_X11_open_2, k_X11_open_3, k_X11_open_4, F_f_X11_open, K3 hF, hm, iv_add, iv_sub, iv_mul, iv_neg, iv_zero, iv_ltT, iv_ltF, iv_leT, iv_leF, iv_eqT, iv_eqF, iv_div, rm_iv, tn_iv, ib_iv, some_cb, some_cbv, ↓nm_eq, ↓reduceIte, true_and, and_true, Bool.true_eq_false, Bool.false_eq_true, not_false_eq_true, not_true_eq_false]) (by simp -implicitDefEqProofs (disch := omega) only [F_f_X12_open_189, F_b_X12_open_153, f_X12_open_153, F_b_X12_open_64, f_X12_open_64, k_X12_open_1, k_X12_open_2, k_X12_open_3, F_f_X12_open, K91 hF, hqb, hbr, iv_add, iv_sub, iv_mul, iv_neg, iv_zero, iv_ltT, iv_ltF, iv_leT, iv_leF, iv_eqT, iv_eqF, iv_div, rm_iv, tn_iv, ib_iv, some_cb, some_cbv, ↓nm_eq, ↓reduceIte, true_and, and_true, Bool.true_eq_false, Bool.false_eq_true, not_false_eq_true, not_true_eq_false])
      · rw [if_neg (by omega), q] at hm
        rw [q] at hbr
        exact Both.still hS (r := iv (-12)) (by simp -implicitDefEqProofs (disch := omega) only [k_X11_open_1, k_X11_open_2, k_X11_open_3, k_X11_open_4, F_f_X11_open, K3 hF, hm, iv_add, iv_sub, iv_mul, iv_neg, iv_zero, iv_ltT, iv_ltF, iv_leT, iv_leF, iv_eqT, iv_eqF, iv_div, rm_iv, tn_iv, ib_iv, some_cb, some_cbv, ↓nm_eq, ↓reduceIte, true_and, and_true, Bool.true_eq_false, Bool.false_eq_true, not_false_eq_true, not_true_eq_false]) (by simp -implicitDefEqProofs (disch := omega) only [F_f_X12_open_189, F_b_X12_open_153, f_X12_open_153, F_b_X12_open_64, f_X12_open_64, k_X12_open_1, k_X12_open_2, k_X12_open_3, F_f_X12_open, K91 hF, hqb, hbr, iv_add, iv_sub, iv_mul, iv_neg, iv_zero, iv_ltT, iv_ltF, iv_leT, iv_leF, iv_eqT, iv_eqF, iv_div, rm_iv, tn_iv, ib_iv, some_cb, some_cbv, ↓nm_eq, ↓reduceIte, true_and, and_true, Bool.true_eq_false, Bool.false_eq_true, not_false_eq_true, not_true_eq_false])
      · rw [if_neg (by omega), q] at hm
        rw [q] at hbr
        exact Both.still hS (r := iv (-13)) (by simp -implicitDefEqProofs (disch := omega) only [k_X11_open_1, k_X11_open_2, k_X11_open_3, k_X11_open_4, F_f_X11_open, K3 hF, hm, iv_add, iv_sub, iv_mul, iv_neg, iv_zero, iv_ltT, iv_ltF, iv_leT, iv_leF, iv_eqT, iv_eqF, iv_div, rm_iv, tn_iv, ib_iv, some_cb, some_cbv, ↓nm_eq, ↓reduceIte, true_and, and_true, Bool.true_eq_false, Bool.false_eq_true, not_false_eq_true, not_true_eq_false]) (by simp -implicitDefEqProofs (disch := omega) only [F_f_X12_open_189, F_b_X12_open_153, f_X12_open_153, F_b_X12_open_64, f_X12_open_64, k_X12_open_1, k_X12_open_2, k_X12_open_3, F_f_X12_open, K91 hF, hqb, hbr, iv_add, iv_sub, iv_mul, iv_neg, iv_zero, iv_ltT, iv_ltF, iv_leT, iv_leF, iv_eqT, iv_eqF, iv_div, rm_iv, tn_iv, ib_iv, some_cb, some_cbv, ↓nm_eq, ↓reduceIte, true_and, and_true, Bool.true_eq_false, Bool.false_eq_true, not_false_eq_true, not_true_eq_false])
    · exact Both.still hS (r := iv (-1)) (by simp -implicitDefEqProofs (disch := omega) only [k_X11_open_1, k_X11_open_2, k_X11_open_3, k_X11_open_4, F_f_X11_open, K3 hF, k_X11_may_1, k_X11_may_2, k_X11_may_3, k_X11_may_4, k_X11_may_5, F_f_X11_may, hcb, hbA, c_shelfAt0 u1 u2 hs, K3 hF, R3_0 hF, R3_1 hF, R3_2 hF, R3_3 hF, R3_4 hF, R3_5 hF, R3_6 hF, R3_7 hF, R3_8 hF, iv_add, iv_sub, iv_mul, iv_neg, iv_zero, iv_ltT, iv_ltF, iv_leT, iv_leF, iv_eqT, iv_eqF, iv_div, rm_iv, tn_iv, ib_iv, lc_lt, lc_le, lc_gt, lc_ge, lc_eq, iv_l, jv_add, jv_sub, jv_mul, jv_zero, if_pos, if_neg, some_cb, some_cbv, ↓nm_eq, ↓reduceIte, true_and, and_true, Bool.true_eq_false, Bool.false_eq_true, not_false_eq_true, not_true_eq_false]) (by simp -implicitDefEqProofs (disch := omega) only [F_f_X12_open_189, F_b_X12_open_153, f_X12_open_153, F_b_X12_open_64, f_X12_open_64, k_X12_open_1, k_X12_open_2, k_X12_open_3, F_f_X12_open, hqb, k_X12_barsRow_1, k_X12_barsRow_2, F_f_X12_barsRow, q_in0, K91 hF, K92 hF, N92 hF, K93 hF, N93 hF, K94 hF, N94 hF, K95 hF, N95 hF, K96 hF, N96 hF, K97 hF, N97 hF, K98 hF, N98 hF, K99 hF, N99 hF, K100 hF, N100 hF, K101 hF, N101 hF, K102 hF, N102 hF, K103 hF, N103 hF, K104 hF, N104 hF, K105 hF, N105 hF, K106 hF, N106 hF, K107 hF, N107 hF, K108 hF, N108 hF, K109 hF, N109 hF, K110 hF, N110 hF, K111 hF, N111 hF, K112 hF, N112 hF, K113 hF, N113 hF, K114 hF, N114 hF, K115 hF, N115 hF, K116 hF, N116 hF, K117 hF, N117 hF, K118 hF, N118 hF, K119 hF, N119 hF, K120 hF, N120 hF, R91_1 hF, R91_2 hF, R91_3 hF, R91_4 hF, R91_5 hF, R91_6 hF, R91_7 hF, R91_8 hF, R91_9 hF, R91_10 hF, R91_11 hF, R91_12 hF, R91_13 hF, R91_14 hF, R91_15 hF, R91_16 hF, R91_17 hF, R91_18 hF, R91_21 hF, R91_22 hF, R91_24 hF, R91_25 hF, R91_26 hF, R91_27 hF, R91_29 hF, R91_30 hF, R91_31 hF, R91_32 hF, R91_44 hF, RR_M hR, RR_T hR, RR_K hR, RR_Bo hR, RR_Gr hR, RR_Ch hR, RR_Bx hR, RR_G hR, RR_C hR, RR_G0 hR, RR_C0 hR, RR_V hR, RR_O hR, RR_Se hR, RR_S2 hR, RR_L hR, RR_W hR, RR_H hR, RR_hSo hR, RR_hCe hR, RR_hBo hR, RR_hOt hR, RR_hMu hR, RR_Ta hR, RR_Ki hR, RR_Tr hR, RR_Is hR, RR_So hR, RR_Sz hR, RR_El hR, iv_add, iv_sub, iv_mul, iv_neg, iv_zero, iv_ltT, iv_ltF, iv_leT, iv_leF, iv_eqT, iv_eqF, iv_div, rm_iv, tn_iv, ib_iv, lc_lt, lc_le, lc_gt, lc_ge, lc_eq, iv_l, jv_add, jv_sub, jv_mul, jv_zero, if_pos, if_neg, some_cb, some_cbv, ↓nm_eq, ↓reduceIte, true_and, and_true, Bool.true_eq_false, Bool.false_eq_true, not_false_eq_true, not_true_eq_false])
  · obtain ⟨a, ha⟩ : ∃ a, f_X11_shelfAt 3 (iv s) h = some (a, h) := by
      by_cases hs : 0 ≤ s ∧ s < 6
      · obtain ⟨a, -, e, -⟩ := sh_facts hS hs.1 hs.2; exact ⟨a, e⟩
      · exact ⟨0, c_shelfAt0 u1 u2 hs⟩
    exact Both.still hS (r := iv (-1)) (by simp -implicitDefEqProofs (disch := omega) only [k_X11_open_1, k_X11_open_2, k_X11_open_3, k_X11_open_4, F_f_X11_open, K3 hF, k_X11_may_1, k_X11_may_2, k_X11_may_3, k_X11_may_4, k_X11_may_5, F_f_X11_may, c_boxAt0 hS t1 t2 hb, ha, K3 hF, R3_0 hF, R3_1 hF, R3_2 hF, R3_3 hF, R3_4 hF, R3_5 hF, R3_6 hF, R3_7 hF, R3_8 hF, iv_add, iv_sub, iv_mul, iv_neg, iv_zero, iv_ltT, iv_ltF, iv_leT, iv_leF, iv_eqT, iv_eqF, iv_div, rm_iv, tn_iv, ib_iv, lc_lt, lc_le, lc_gt, lc_ge, lc_eq, iv_l, jv_add, jv_sub, jv_mul, jv_zero, if_pos, if_neg, some_cb, some_cbv, ↓nm_eq, ↓reduceIte, true_and, and_true, Bool.true_eq_false, Bool.false_eq_true, not_false_eq_true, not_true_eq_false]) (by simp -implicitDefEqProofs (disch := omega) only [F_f_X12_open_189, F_b_X12_open_153, f_X12_open_153, F_b_X12_open_64, f_X12_open_64, k_X12_open_1, k_X12_open_2, k_X12_open_3, F_f_X12_open, q_boxOf0 hS.Q t1 t2 hb, k_X12_barsRow_1, k_X12_barsRow_2, F_f_X12_barsRow, K91 hF, K92 hF, N92 hF, K93 hF, N93 hF, K94 hF, N94 hF, K95 hF, N95 hF, K96 hF, N96 hF, K97 hF, N97 hF, K98 hF, N98 hF, K99 hF, N99 hF, K100 hF, N100 hF, K101 hF, N101 hF, K102 hF, N102 hF, K103 hF, N103 hF, K104 hF, N104 hF, K105 hF, N105 hF, K106 hF, N106 hF, K107 hF, N107 hF, K108 hF, N108 hF, K109 hF, N109 hF, K110 hF, N110 hF, K111 hF, N111 hF, K112 hF, N112 hF, K113 hF, N113 hF, K114 hF, N114 hF, K115 hF, N115 hF, K116 hF, N116 hF, K117 hF, N117 hF, K118 hF, N118 hF, K119 hF, N119 hF, K120 hF, N120 hF, R91_1 hF, R91_2 hF, R91_3 hF, R91_4 hF, R91_5 hF, R91_6 hF, R91_7 hF, R91_8 hF, R91_9 hF, R91_10 hF, R91_11 hF, R91_12 hF, R91_13 hF, R91_14 hF, R91_15 hF, R91_16 hF, R91_17 hF, R91_18 hF, R91_21 hF, R91_22 hF, R91_24 hF, R91_25 hF, R91_26 hF, R91_27 hF, R91_29 hF, R91_30 hF, R91_31 hF, R91_32 hF, R91_44 hF, RR_M hR, RR_T hR, RR_K hR, RR_Bo hR, RR_Gr hR, RR_Ch hR, RR_Bx hR, RR_G hR, RR_C hR, RR_G0 hR, RR_C0 hR, RR_V hR, RR_O hR, RR_Se hR, RR_S2 hR, RR_L hR, RR_W hR, RR_H hR, RR_hSo hR, RR_hCe hR, RR_hBo hR, RR_hOt hR, RR_hMu hR, RR_Ta hR, RR_Ki hR, RR_Tr hR, RR_Is hR, RR_So hR, RR_Sz hR, RR_El hR, iv_add, iv_sub, iv_mul, iv_neg, iv_zero, iv_ltT, iv_ltF, iv_leT, iv_leF, iv_eqT, iv_eqF, iv_div, rm_iv, tn_iv, ib_iv, lc_lt, lc_le, lc_gt, lc_ge, lc_eq, iv_l, jv_add, jv_sub, jv_mul, jv_zero, if_pos, if_neg, some_cb, some_cbv, ↓nm_eq, ↓reduceIte, true_and, and_true, Bool.true_eq_false, Bool.false_eq_true, not_false_eq_true, not_true_eq_false])
end Q
