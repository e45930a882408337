/-! shelves that change -/
def zJ (h : AH) (b p n : Nat) : AH := (h.1, h.2.1, h.2.2.1, (fun x k => if x = b ∧ p ≤ k ∧ k < p + n then jv 0 else gJ h x k), h.2.2.2.2.1, h.2.2.2.2.2.1, h.2.2.2.2.2.2)
theorem zJ_0 (h : AH) (b p : Nat) : zJ h b p 0 = h := by
  obtain ⟨h1, h2, h3, h4, h5, h6, h7⟩ := h
  show (h1, h2, h3, _, h5, h6, h7) = (h1, h2, h3, h4, h5, h6, h7)
  congr 4
  funext x k
  exact if_neg (by omega)
theorem zJ_step (h : AH) (b p n : Nat) : zJ (sJ h b p (jv 0)) b (p + 1) n = zJ h b p (n + 1) := by
  unfold zJ
  show (h.1, h.2.1, h.2.2.1, _, h.2.2.2.2.1, h.2.2.2.2.2.1, h.2.2.2.2.2.2) = (h.1, h.2.1, h.2.2.1, _, h.2.2.2.2.1, h.2.2.2.2.2.1, h.2.2.2.2.2.2)
  congr 4
  funext x k
  by_cases e : x = b ∧ p ≤ k ∧ k < p + (n + 1)
  · rw [if_pos e]
    by_cases q : x = b ∧ p + 1 ≤ k ∧ k < p + 1 + n
    · rw [if_pos q]
    · rw [if_neg q, e.1, show k = p by omega, gJ_sJs]
  · rw [if_neg e, if_neg (by omega), gJ_sJo _ _ (by omega)]
theorem gJ_zJi (h : AH) {b p n k : Nat} (e : p ≤ k ∧ k < p + n) : gJ (zJ h b p n) b k = jv 0 := if_pos ⟨rfl, e⟩
theorem gJ_zJo (h : AH) {b p n x k : Nat} (e : x ≠ b ∨ k < p ∨ p + n ≤ k) : gJ (zJ h b p n) x k = gJ h x k := if_neg (by omega)
theorem Blk.zJ {h h1 : AH} {b n a p m : Nat} (B : Blk h h1 b n) (z : a < b ∨ b + n ≤ a) : Blk h (zJ h1 a p m) b n := fun x y q => by
  obtain ⟨b1, b2, b3, b4, b5⟩ := B x y q
  exact ⟨b1, b2, b3, fun j => by rw [gJ_zJo _ (by omega), b4], b5⟩
section Q
variable {w w' : WD} {A A' : Int → Nat} {h h' h1 : AH}
theorem Sim.sh (hS : Sim w A h) {s : Int} (s0 : 0 ≤ s) (s1 : s < 6) (e : Elw w w') (e19 : w'.1 91 19 = w.1 91 19) (e23 : w'.1 91 23 = w.1 91 23) (e109 : ∀ i, w'.1 109 i = w.1 109 i) (e111 : ∀ i, w'.1 111 i = w.1 111 i) (eS : ∀ (a : Nat) (i : Int), 112 ≤ a → a ≤ 114 → i ≠ s → w'.1 a i = w.1 a i) (eE : ∀ j : Int, (j < 60 * s ∨ 60 * s + 60 ≤ j) → w'.2 j = w.2 j) (F : Fix h') (R : RR w' h') (B3 : Blk h h' 3 9) (Bt : ∀ t : Int, 0 ≤ t → t < 6 → t ≠ s → Blk h h' (79 + 2 * t.toNat) 2) (B : ∀ b n : Nat, 121 ≤ b → b + n ≤ gC h → Blk h h' b n) (g : gC h ≤ gC h') (O : ObS w' A h' s) (ok : shOK w' s) : Sim w' A h' := by
  have hW := hS.W
  obtain ⟨a1, a2, a3, a4, a5, a6, a7, a8, a9⟩ := id hW
  have eK : wK w' = wK w := e 91 20 (by omega)
  refine hS.hi e F R (hW.hi e ?_ ?_ ?_ ?_) (hS.C.kp B3 (e 91 0 (by omega)) eK e19 (fun i _ _ => e109 i) (fun i _ _ => e111 i) e23 (fun _ _ => rfl) (fun _ _ _ => rfl)) ?_ B g
  · rw [show wT w' = wT w from e19]; exact a2
  · intro i i0 i1
    rw [show wTa w' i = wTa w i from e109 i]; exact a4 i i0 i1
  · intro t t0 t1
    by_cases q : t = s
    · rw [q]; exact ok
    · have := a8 t t0 t1
      unfold shOK at this ⊢
      rw [eK, show sIs w' t = sIs w t from eS 112 t (by omega) (by omega) q, show sSo w' t = sSo w t from eS 113 t (by omega) (by omega) q, show sSz w' t = sSz w t from eS 114 t (by omega) (by omega) q]
      exact this
  · rw [show wBo w' = wBo w from e23]; exact a9
  · intro t t0 t1
    by_cases q : t = s
    · rw [q]; exact O
    · exact (hS.S t0 t1).kp (Bt t t0 t1 q) (eS 113 t (by omega) (by omega) q) (eS 114 t (by omega) (by omega) q) (eS 112 t (by omega) (by omega) q) (fun _ => rfl) (fun i i0 i1 => eE _ (by omega))
set_option maxRecDepth 100000 in
theorem c_knowingAt1 (hS : Sim w A h) {k : Int} (k0 : 0 ≤ k) (k1 : k < wK w) : f_X11_knowingAt 3 (iv k) h = some (A (110 + k), h) := by
  have hF := hS.F
  obtain ⟨kw1, kw2⟩ := hS.W.2.2.1
  obtain ⟨-, q2, -, -, -, -, -, q8⟩ := hS.C
  have q := q8 k k0 k1
  simp -implicitDefEqProofs (disch := omega) only [F_f_X11_knowingAt, K3 hF, R3_2 hF, K8 hF, N8 hF, q2, q, iv_add, iv_sub, iv_mul, iv_neg, iv_zero, iv_ltT, iv_ltF, iv_leT, iv_leF, iv_eqT, iv_eqF, iv_div, rm_iv, tn_iv, ib_iv, some_cb, some_cbv, ↓nm_eq, ↓reduceIte, true_and, and_true, Bool.true_eq_false, Bool.false_eq_true, not_false_eq_true, not_true_eq_false]
set_option maxRecDepth 100000 in
theorem c_knowingAt0 (hS : Sim w A h) {k : Int} (h1 : -2147483648 ≤ k) (h2 : k ≤ 2147483647) (hk : ¬ (0 ≤ k ∧ k < wK w)) : f_X11_knowingAt 3 (iv k) h = some (0, h) := by
  have hF := hS.F
  obtain ⟨kw1, kw2⟩ := hS.W.2.2.1
  obtain ⟨-, q2, -⟩ := hS.C
  by_cases z : k < 0
  · simp -implicitDefEqProofs (disch := omega) only [F_f_X11_knowingAt, iv_add, iv_sub, iv_mul, iv_neg, iv_zero, iv_ltT, iv_ltF, iv_leT, iv_leF, iv_eqT, iv_eqF, iv_div, rm_iv, tn_iv, ib_iv, some_cb, some_cbv, ↓nm_eq, ↓reduceIte, true_and, and_true, Bool.true_eq_false, Bool.false_eq_true, not_false_eq_true, not_true_eq_false]
  · simp -implicitDefEqProofs (disch := omega) only [F_f_X11_knowingAt, K3 hF, q2, iv_add, iv_sub, iv_mul, iv_neg, iv_zero, iv_ltT, iv_ltF, iv_leT, iv_leF, iv_eqT, iv_eqF, iv_div, rm_iv, tn_iv, ib_iv, some_cb, some_cbv, ↓nm_eq, ↓reduceIte, true_and, and_true, Bool.true_eq_false, Bool.false_eq_true, not_false_eq_true, not_true_eq_false]
set_option maxRecDepth 100000 in
theorem q_isKnowing1 (hS : QS w h) {k : Int} (h1 : -2147483648 ≤ k) (h2 : k ≤ 2147483647) (k0 : 0 ≤ k) (k1 : k < wK w) : f_X12_isKnowing 91 (iv k) h = some (iv 1, h) := by
  have hF := hS.F
  have hR := hS.R
  obtain ⟨kw1, kw2⟩ := hS.W.2.2.1
  simp -implicitDefEqProofs (disch := omega) only [k_X12_isKnowing_1, F_f_X12_isKnowing, K91 hF, RR_K hR, q_in1, zret1, iv_add, iv_sub, iv_mul, iv_neg, iv_zero, iv_ltT, iv_ltF, iv_leT, iv_leF, iv_eqT, iv_eqF, iv_div, rm_iv, tn_iv, ib_iv, some_cb, some_cbv, ↓nm_eq, ↓reduceIte, true_and, and_true, Bool.true_eq_false, Bool.false_eq_true, not_false_eq_true, not_true_eq_false]
set_option maxRecDepth 100000 in
theorem q_isKnowing0 (hS : QS w h) {k : Int} (h1 : -2147483648 ≤ k) (h2 : k ≤ 2147483647) (hk : ¬ (0 ≤ k ∧ k < wK w)) : f_X12_isKnowing 91 (iv k) h = some (iv 0, h) := by
  have hF := hS.F
  have hR := hS.R
  obtain ⟨kw1, kw2⟩ := hS.W.2.2.1
  simp -implicitDefEqProofs (disch := omega) only [k_X12_isKnowing_1, F_f_X12_isKnowing, K91 hF, RR_K hR, q_in0, zret0, iv_add, iv_sub, iv_mul, iv_neg, iv_zero, iv_ltT, iv_ltF, iv_leT, iv_leF, iv_eqT, iv_eqF, iv_div, rm_iv, tn_iv, ib_iv, some_cb, some_cbv, ↓nm_eq, ↓reduceIte, true_and, and_true, Bool.true_eq_false, Bool.false_eq_true, not_false_eq_true, not_true_eq_false]
theorem Sim_keep (hS : Sim w A h) {s k : Int} (s0 : 0 ≤ s) (s1 : s < 6) (k0 : -1 ≤ k) (k1 : k < wK w) {a v : Nat} (ha : a = 79 + 2 * s.toNat) (hv : v = if k < 0 then 0 else A (110 + k)) : Sim (wZ (wZ w 112 s k) 113 s (-1)) A (sI (sI (sI (sI (sR h a 1 v) a 2 (iv (-1))) a 3 (iv 0)) 112 s.toNat (iv k)) 113 s.toNat (iv (-1))) := by
  have hg := hS.gc
  have hQ := ((hS.Q.sR (a := a) (i := 1) (v := v) (by omega)).sI (a := a) (i := 2) (v := iv (-1)) (by omega)).sI (a := a) (i := 3) (v := iv 0) (by omega)
  refine hS.sh s0 s1 (fun b i z => by rw [wZ_o _ (by omega), wZ_o _ (by omega)]) (by rw [wZ_o _ (by omega), wZ_o _ (by omega)]) (by rw [wZ_o _ (by omega), wZ_o _ (by omega)]) (fun i => by rw [wZ_o _ (by omega), wZ_o _ (by omega)]) (fun i => by rw [wZ_o _ (by omega), wZ_o _ (by omega)]) (fun b i z1 z2 z3 => by rw [wZ_o _ (by omega), wZ_o _ (by omega)]) (fun _ _ => rfl) hQ.F (RR_wZ (RR_wZ hQ.R (by omega) (by omega) s0) (by omega) (by omega) s0) ?_ ?_ ?_ (Nat.le_refl _) ?_ ?_
  · exact ((((((Blk.rf h 3 9).sR (by omega)).sI (by omega)).sI (by omega)).sI (by omega)).sI (by omega))
  · intro t t0 t1 ts
    exact ((((((Blk.rf h _ 2).sR (by omega)).sI (by omega)).sI (by omega)).sI (by omega)).sI (by omega))
  · intro b n b0 b1
    exact ((((((Blk.rf h _ n).sR (by omega)).sI (by omega)).sI (by omega)).sI (by omega)).sI (by omega))
  · obtain ⟨o1, o2, o3, o4⟩ := hS.S s0 s1
    have e1 : sSo (wZ (wZ w 112 s k) 113 s (-1)) s = -1 := wZ_at _ _ _ _
    have e2 : sIs (wZ (wZ w 112 s k) 113 s (-1)) s = k := by
      show (wZ (wZ w 112 s k) 113 s (-1)).1 112 s = k
      rw [wZ_o _ (by omega), wZ_at]
    unfold ObS
    rw [e1, e2, ← ha]
    refine ⟨?_, fun z => by omega, ?_, fun i y z => ⟨(o4 i y z).1, soR_o _ (by omega)⟩⟩
    · rw [gI_sIo _ _ (by omega), gI_sIo _ _ (by omega), gI_sIo _ _ (by omega), gI_sIs]
    · show gR (sR h a 1 v) a 1 = _
      rw [gR_sRs, hv]
  · have e1 : sSo (wZ (wZ w 112 s k) 113 s (-1)) s = -1 := wZ_at _ _ _ _
    have e2 : sIs (wZ (wZ w 112 s k) 113 s (-1)) s = k := by
      show (wZ (wZ w 112 s k) 113 s (-1)).1 112 s = k
      rw [wZ_o _ (by omega), wZ_at]
    obtain ⟨p1, p2, p3, p4⟩ := hS.W.sh s0 s1
    unfold shOK
    rw [e1, e2]
    refine ⟨⟨k0, ?_⟩, by omega, ?_, by omega⟩
    · show k < (wZ (wZ w 112 s k) 113 s (-1)).1 91 20
      rw [wZ_o _ (by omega), wZ_o _ (by omega)]; exact k1
    · show 0 ≤ (wZ (wZ w 112 s k) 113 s (-1)).1 114 s ∧ (wZ (wZ w 112 s k) 113 s (-1)).1 114 s ≤ 60
      rw [wZ_o _ (by omega), wZ_o _ (by omega)]; exact p3
set_option maxRecDepth 100000 in
theorem M_keep (hS : Sim w A h) (x1 x2 : Int32) : Both (f_X11_keep 3 x1 x2) (f_X12_keep 91 x1 x2) h := by
  obtain ⟨s, rfl, t1, t2⟩ := iv_ex x1
  obtain ⟨k, rfl, k1, k2⟩ := iv_ex x2
  have hF := hS.F
  have hR := hS.R
  by_cases hs : 0 ≤ s ∧ s < 6
  · obtain ⟨a, ha, hsh, ha0, sk, sr, sk1, sn1, s2, s3, s1, sd⟩ := sh_facts hS hs.1 hs.2; obtain ⟨⟨y1, y2⟩, ⟨y3, y4⟩, ⟨y5, y6⟩, y7⟩ := hS.W.sh hs.1 hs.2; obtain ⟨hs0, hs1⟩ := id hs; obtain ⟨kw1, kw2⟩ := hS.W.2.2.1
    by_cases hk : 0 ≤ k ∧ k < wK w
    · obtain ⟨q0, q1⟩ := id hk
      have kA := eq_false (hS.kA (k := k) (by omega) (by omega))
      have hQ := ((hS.Q.sR (a := a) (i := 1) (v := A (110 + k)) (by omega)).sI (a := a) (i := 2) (v := iv (-1)) (by omega)).sI (a := a) (i := 3) (v := iv 0) (by omega)
      have sim := Sim_keep hS hs0 hs1 (k := k) (by omega) q1 ha (v := A (110 + k)) (by rw [if_neg (by omega)])
      have ha2 : a ≠ 2 := by omega
      clear ha
      refine ⟨iv 1, sI (sI (sR h a 1 (A (110 + k))) a 2 (iv (-1))) a 3 (iv 0), _, _, A, (by simp -implicitDefEqProofs (disch := omega) only [k_X11_keep_1, k_X11_keep_2, k_X11_keep_3, k_X11_keep_4, F_f_X11_keep, K3 hF, hsh, ha0, c_knowingAt1 hS, kA, F_f_X7_holdKnowing, sk, gK_sI, gK_sR, K3 hF, R3_0 hF, R3_1 hF, R3_2 hF, R3_3 hF, R3_4 hF, R3_5 hF, R3_6 hF, R3_7 hF, R3_8 hF, iv_add, iv_sub, iv_mul, iv_neg, iv_zero, iv_ltT, iv_ltF, iv_leT, iv_leF, iv_eqT, iv_eqF, iv_div, rm_iv, tn_iv, ib_iv, lc_lt, lc_le, lc_gt, lc_ge, lc_eq, iv_l, jv_add, jv_sub, jv_mul, jv_zero, if_pos, if_neg, some_cb, some_cbv, ↓nm_eq, ↓reduceIte, true_and, and_true, Bool.true_eq_false, Bool.false_eq_true, not_false_eq_true, not_true_eq_false]), ?_, sim, ⟨by show gC h ≤ gC h + 100; omega, by show gS h ≤ gS h + 500; omega, rfl, ?_⟩, rfl, funext (fun i => by rw [gI_sIo _ _ (by omega), gI_sIo _ _ (by omega)]; rfl), K91 hQ.F⟩
      · have hF := hQ.F
        have hR := hQ.R
        exact (by simp -implicitDefEqProofs (disch := omega) only [F_f_X12_keep_22, k_X12_keep_1, k_X12_keep_2, F_f_X12_keep, k_X12_isShelf_1, F_f_X12_isShelf, q_in1, zret1, q_isKnowing1 hQ, gK_sI, gR_sI, gN_sI, K91 hF, K92 hF, N92 hF, K93 hF, N93 hF, K94 hF, N94 hF, K95 hF, N95 hF, K96 hF, N96 hF, K97 hF, N97 hF, K98 hF, N98 hF, K99 hF, N99 hF, K100 hF, N100 hF, K101 hF, N101 hF, K102 hF, N102 hF, K103 hF, N103 hF, K104 hF, N104 hF, K105 hF, N105 hF, K106 hF, N106 hF, K107 hF, N107 hF, K108 hF, N108 hF, K109 hF, N109 hF, K110 hF, N110 hF, K111 hF, N111 hF, K112 hF, N112 hF, K113 hF, N113 hF, K114 hF, N114 hF, K115 hF, N115 hF, K116 hF, N116 hF, K117 hF, N117 hF, K118 hF, N118 hF, K119 hF, N119 hF, K120 hF, N120 hF, R91_1 hF, R91_2 hF, R91_3 hF, R91_4 hF, R91_5 hF, R91_6 hF, R91_7 hF, R91_8 hF, R91_9 hF, R91_10 hF, R91_11 hF, R91_12 hF, R91_13 hF, R91_14 hF, R91_15 hF, R91_16 hF, R91_17 hF, R91_18 hF, R91_21 hF, R91_22 hF, R91_24 hF, R91_25 hF, R91_26 hF, R91_27 hF, R91_29 hF, R91_30 hF, R91_31 hF, R91_32 hF, R91_44 hF, RR_M hR, RR_T hR, RR_K hR, RR_Bo hR, RR_Gr hR, RR_Ch hR, RR_Bx hR, RR_G hR, RR_C hR, RR_G0 hR, RR_C0 hR, RR_V hR, RR_O hR, RR_Se hR, RR_S2 hR, RR_L hR, RR_W hR, RR_H hR, RR_hSo hR, RR_hCe hR, RR_hBo hR, RR_hOt hR, RR_hMu hR, RR_Ta hR, RR_Ki hR, RR_Tr hR, RR_Is hR, RR_So hR, RR_Sz hR, RR_El hR, iv_add, iv_sub, iv_mul, iv_neg, iv_zero, iv_ltT, iv_ltF, iv_leT, iv_leF, iv_eqT, iv_eqF, iv_div, rm_iv, tn_iv, ib_iv, lc_lt, lc_le, lc_gt, lc_ge, lc_eq, iv_l, jv_add, jv_sub, jv_mul, jv_zero, if_pos, if_neg, some_cb, some_cbv, ↓nm_eq, ↓reduceIte, true_and, and_true, Bool.true_eq_false, Bool.false_eq_true, not_false_eq_true, not_true_eq_false])
      · funext i; rw [gI_sIo _ _ (by omega), gI_sIo _ _ (by omega), gI_sIo _ _ (by omega), gI_sIo _ _ (by omega)]; rfl
    · by_cases z : k = -1
      · have hQ := ((hS.Q.sR (a := a) (i := 1) (v := 0) (by omega)).sI (a := a) (i := 2) (v := iv (-1)) (by omega)).sI (a := a) (i := 3) (v := iv 0) (by omega)
        have sim := Sim_keep hS hs0 hs1 (k := k) (by omega) (by omega) ha (v := 0) (by rw [if_pos (by omega)])
        have ha2 : a ≠ 2 := by omega
        clear ha
        have ck := c_knowingAt0 hS k1 k2 hk
        subst z
        refine ⟨iv 1, sI (sI (sR h a 1 0) a 2 (iv (-1))) a 3 (iv 0), _, _, A, (by simp -implicitDefEqProofs (disch := omega) only [k_X11_keep_1, k_X11_keep_2, k_X11_keep_3, k_X11_keep_4, F_f_X11_keep, K3 hF, hsh, ha0, ck, F_f_X7_holdKnowing, sk, gK_sI, gK_sR, K3 hF, R3_0 hF, R3_1 hF, R3_2 hF, R3_3 hF, R3_4 hF, R3_5 hF, R3_6 hF, R3_7 hF, R3_8 hF, iv_add, iv_sub, iv_mul, iv_neg, iv_zero, iv_ltT, iv_ltF, iv_leT, iv_leF, iv_eqT, iv_eqF, iv_div, rm_iv, tn_iv, ib_iv, lc_lt, lc_le, lc_gt, lc_ge, lc_eq, iv_l, jv_add, jv_sub, jv_mul, jv_zero, if_pos, if_neg, some_cb, some_cbv, ↓nm_eq, ↓reduceIte, true_and, and_true, Bool.true_eq_false, Bool.false_eq_true, not_false_eq_true, not_true_eq_false]), ?_, sim, ⟨by show gC h ≤ gC h + 100; omega, by show gS h ≤ gS h + 500; omega, rfl, ?_⟩, rfl, funext (fun i => by rw [gI_sIo _ _ (by omega), gI_sIo _ _ (by omega)]; rfl), K91 hQ.F⟩
        · have hF := hQ.F
          have hR := hQ.R
          exact (by simp -implicitDefEqProofs (disch := omega) only [F_f_X12_keep_22, k_X12_keep_1, k_X12_keep_2, F_f_X12_keep, k_X12_isShelf_1, F_f_X12_isShelf, q_in1, zret1, gK_sI, gR_sI, gN_sI, K91 hF, K92 hF, N92 hF, K93 hF, N93 hF, K94 hF, N94 hF, K95 hF, N95 hF, K96 hF, N96 hF, K97 hF, N97 hF, K98 hF, N98 hF, K99 hF, N99 hF, K100 hF, N100 hF, K101 hF, N101 hF, K102 hF, N102 hF, K103 hF, N103 hF, K104 hF, N104 hF, K105 hF, N105 hF, K106 hF, N106 hF, K107 hF, N107 hF, K108 hF, N108 hF, K109 hF, N109 hF, K110 hF, N110 hF, K111 hF, N111 hF, K112 hF, N112 hF, K113 hF, N113 hF, K114 hF, N114 hF, K115 hF, N115 hF, K116 hF, N116 hF, K117 hF, N117 hF, K118 hF, N118 hF, K119 hF, N119 hF, K120 hF, N120 hF, R91_1 hF, R91_2 hF, R91_3 hF, R91_4 hF, R91_5 hF, R91_6 hF, R91_7 hF, R91_8 hF, R91_9 hF, R91_10 hF, R91_11 hF, R91_12 hF, R91_13 hF, R91_14 hF, R91_15 hF, R91_16 hF, R91_17 hF, R91_18 hF, R91_21 hF, R91_22 hF, R91_24 hF, R91_25 hF, R91_26 hF, R91_27 hF, R91_29 hF, R91_30 hF, R91_31 hF, R91_32 hF, R91_44 hF, RR_M hR, RR_T hR, RR_K hR, RR_Bo hR, RR_Gr hR, RR_Ch hR, RR_Bx hR, RR_G hR, RR_C hR, RR_G0 hR, RR_C0 hR, RR_V hR, RR_O hR, RR_Se hR, RR_S2 hR, RR_L hR, RR_W hR, RR_H hR, RR_hSo hR, RR_hCe hR, RR_hBo hR, RR_hOt hR, RR_hMu hR, RR_Ta hR, RR_Ki hR, RR_Tr hR, RR_Is hR, RR_So hR, RR_Sz hR, RR_El hR, iv_add, iv_sub, iv_mul, iv_neg, iv_zero, iv_ltT, iv_ltF, iv_leT, iv_leF, iv_eqT, iv_eqF, iv_div, rm_iv, tn_iv, ib_iv, lc_lt, lc_le, lc_gt, lc_ge, lc_eq, iv_l, jv_add, jv_sub, jv_mul, jv_zero, if_pos, if_neg, some_cb, some_cbv, ↓nm_eq, ↓reduceIte, true_and, and_true, Bool.true_eq_false, Bool.false_eq_true, not_false_eq_true, not_true_eq_false])
        · funext i; rw [gI_sIo _ _ (by omega), gI_sIo _ _ (by omega), gI_sIo _ _ (by omega), gI_sIo _ _ (by omega)]; rfl
      · clear ha
        exact Both.still hS (r := iv (-1)) (by simp -implicitDefEqProofs (disch := omega) only [k_X11_keep_1, k_X11_keep_2, k_X11_keep_3, k_X11_keep_4, F_f_X11_keep, K3 hF, hsh, ha0, c_knowingAt0 hS k1 k2 hk, K3 hF, R3_0 hF, R3_1 hF, R3_2 hF, R3_3 hF, R3_4 hF, R3_5 hF, R3_6 hF, R3_7 hF, R3_8 hF, iv_add, iv_sub, iv_mul, iv_neg, iv_zero, iv_ltT, iv_ltF, iv_leT, iv_leF, iv_eqT, iv_eqF, iv_div, rm_iv, tn_iv, ib_iv, lc_lt, lc_le, lc_gt, lc_ge, lc_eq, iv_l, jv_add, jv_sub, jv_mul, jv_zero, if_pos, if_neg, some_cb, some_cbv, ↓nm_eq, ↓reduceIte, true_and, and_true, Bool.true_eq_false, Bool.false_eq_true, not_false_eq_true, not_true_eq_false]) (by simp -implicitDefEqProofs (disch := omega) only [F_f_X12_keep_22, k_X12_keep_1, k_X12_keep_2, F_f_X12_keep, k_X12_isShelf_1, F_f_X12_isShelf, q_in1, zret1, q_isKnowing0 hS.Q k1 k2 hk, K91 hF, K92 hF, N92 hF, K93 hF, N93 hF, K94 hF, N94 hF, K95 hF, N95 hF, K96 hF, N96 hF, K97 hF, N97 hF, K98 hF, N98 hF, K99 hF, N99 hF, K100 hF, N100 hF, K101 hF, N101 hF, K102 hF, N102 hF, K103 hF, N103 hF, K104 hF, N104 hF, K105 hF, N105 hF, K106 hF, N106 hF, K107 hF, N107 hF, K108 hF, N108 hF, K109 hF, N109 hF, K110 hF, N110 hF, K111 hF, N111 hF, K112 hF, N112 hF, K113 hF, N113 hF, K114 hF, N114 hF, K115 hF, N115 hF, K116 hF, N116 hF, K117 hF, N117 hF, K118 hF, N118 hF, K119 hF, N119 hF, K120 hF, N120 hF, R91_1 hF, R91_2 hF, R91_3 hF, R91_4 hF, R91_5 hF, R91_6 hF, R91_7 hF, R91_8 hF, R91_9 hF, R91_10 hF, R91_11 hF, R91_12 hF, R91_13 hF, R91_14 hF, R91_15 hF, R91_16 hF, R91_17 hF, R91_18 hF, R91_21 hF, R91_22 hF, R91_24 hF, R91_25 hF, R91_26 hF, R91_27 hF, R91_29 hF, R91_30 hF, R91_31 hF, R91_32 hF, R91_44 hF, RR_M hR, RR_T hR, RR_K hR, RR_Bo hR, RR_Gr hR, RR_Ch hR, RR_Bx hR, RR_G hR, RR_C hR, RR_G0 hR, RR_C0 hR, RR_V hR, RR_O hR, RR_Se hR, RR_S2 hR, RR_L hR, RR_W hR, RR_H hR, RR_hSo hR, RR_hCe hR, RR_hBo hR, RR_hOt hR, RR_hMu hR, RR_Ta hR, RR_Ki hR, RR_Tr hR, RR_Is hR, RR_So hR, RR_Sz hR, RR_El hR, iv_add, iv_sub, iv_mul, iv_neg, iv_zero, iv_ltT, iv_ltF, iv_leT, iv_leF, iv_eqT, iv_eqF, iv_div, rm_iv, tn_iv, ib_iv, lc_lt, lc_le, lc_gt, lc_ge, lc_eq, iv_l, jv_add, jv_sub, jv_mul, jv_zero, if_pos, if_neg, some_cb, some_cbv, ↓nm_eq, ↓reduceIte, true_and, and_true, Bool.true_eq_false, Bool.false_eq_true, not_false_eq_true, not_true_eq_false])
  · by_cases hk : 0 ≤ k ∧ k < wK w
    · obtain ⟨q0, q1⟩ := id hk
      exact Both.still hS (r := iv (-1)) (by simp -implicitDefEqProofs (disch := omega) only [k_X11_keep_1, k_X11_keep_2, k_X11_keep_3, k_X11_keep_4, F_f_X11_keep, K3 hF, c_shelfAt0 t1 t2 hs, c_knowingAt1 hS q0 q1, K3 hF, R3_0 hF, R3_1 hF, R3_2 hF, R3_3 hF, R3_4 hF, R3_5 hF, R3_6 hF, R3_7 hF, R3_8 hF, iv_add, iv_sub, iv_mul, iv_neg, iv_zero, iv_ltT, iv_ltF, iv_leT, iv_leF, iv_eqT, iv_eqF, iv_div, rm_iv, tn_iv, ib_iv, lc_lt, lc_le, lc_gt, lc_ge, lc_eq, iv_l, jv_add, jv_sub, jv_mul, jv_zero, if_pos, if_neg, some_cb, some_cbv, ↓nm_eq, ↓reduceIte, true_and, and_true, Bool.true_eq_false, Bool.false_eq_true, not_false_eq_true, not_true_eq_false]) (by simp -implicitDefEqProofs (disch := omega) only [F_f_X12_keep_22, k_X12_keep_1, k_X12_keep_2, F_f_X12_keep, k_X12_isShelf_1, F_f_X12_isShelf, q_in0, zret0, K91 hF, K92 hF, N92 hF, K93 hF, N93 hF, K94 hF, N94 hF, K95 hF, N95 hF, K96 hF, N96 hF, K97 hF, N97 hF, K98 hF, N98 hF, K99 hF, N99 hF, K100 hF, N100 hF, K101 hF, N101 hF, K102 hF, N102 hF, K103 hF, N103 hF, K104 hF, N104 hF, K105 hF, N105 hF, K106 hF, N106 hF, K107 hF, N107 hF, K108 hF, N108 hF, K109 hF, N109 hF, K110 hF, N110 hF, K111 hF, N111 hF, K112 hF, N112 hF, K113 hF, N113 hF, K114 hF, N114 hF, K115 hF, N115 hF, K116 hF, N116 hF, K117 hF, N117 hF, K118 hF, N118 hF, K119 hF, N119 hF, K120 hF, N120 hF, R91_1 hF, R91_2 hF, R91_3 hF, R91_4 hF, R91_5 hF, R91_6 hF, R91_7 hF, R91_8 hF, R91_9 hF, R91_10 hF, R91_11 hF, R91_12 hF, R91_13 hF, R91_14 hF, R91_15 hF, R91_16 hF, R91_17 hF, R91_18 hF, R91_21 hF, R91_22 hF, R91_24 hF, R91_25 hF, R91_26 hF, R91_27 hF, R91_29 hF, R91_30 hF, R91_31 hF, R91_32 hF, R91_44 hF, RR_M hR, RR_T hR, RR_K hR, RR_Bo hR, RR_Gr hR, RR_Ch hR, RR_Bx hR, RR_G hR, RR_C hR, RR_G0 hR, RR_C0 hR, RR_V hR, RR_O hR, RR_Se hR, RR_S2 hR, RR_L hR, RR_W hR, RR_H hR, RR_hSo hR, RR_hCe hR, RR_hBo hR, RR_hOt hR, RR_hMu hR, RR_Ta hR, RR_Ki hR, RR_Tr hR, RR_Is hR, RR_So hR, RR_Sz hR, RR_El hR, iv_add, iv_sub, iv_mul, iv_neg, iv_zero, iv_ltT, iv_ltF, iv_leT, iv_leF, iv_eqT, iv_eqF, iv_div, rm_iv, tn_iv, ib_iv, lc_lt, lc_le, lc_gt, lc_ge, lc_eq, iv_l, jv_add, jv_sub, jv_mul, jv_zero, if_pos, if_neg, some_cb, some_cbv, ↓nm_eq, ↓reduceIte, true_and, and_true, Bool.true_eq_false, Bool.false_eq_true, not_false_eq_true, not_true_eq_false])
    · exact Both.still hS (r := iv (-1)) (by simp -implicitDefEqProofs (disch := omega) only [k_X11_keep_1, k_X11_keep_2, k_X11_keep_3, k_X11_keep_4, F_f_X11_keep, K3 hF, c_shelfAt0 t1 t2 hs, c_knowingAt0 hS k1 k2 hk, K3 hF, R3_0 hF, R3_1 hF, R3_2 hF, R3_3 hF, R3_4 hF, R3_5 hF, R3_6 hF, R3_7 hF, R3_8 hF, iv_add, iv_sub, iv_mul, iv_neg, iv_zero, iv_ltT, iv_ltF, iv_leT, iv_leF, iv_eqT, iv_eqF, iv_div, rm_iv, tn_iv, ib_iv, lc_lt, lc_le, lc_gt, lc_ge, lc_eq, iv_l, jv_add, jv_sub, jv_mul, jv_zero, if_pos, if_neg, some_cb, some_cbv, ↓nm_eq, ↓reduceIte, true_and, and_true, Bool.true_eq_false, Bool.false_eq_true, not_false_eq_true, not_true_eq_false]) (by simp -implicitDefEqProofs (disch := omega) only [F_f_X12_keep_22, k_X12_keep_1, k_X12_keep_2, F_f_X12_keep, k_X12_isShelf_1, F_f_X12_isShelf, q_in0, zret0, K91 hF, K92 hF, N92 hF, K93 hF, N93 hF, K94 hF, N94 hF, K95 hF, N95 hF, K96 hF, N96 hF, K97 hF, N97 hF, K98 hF, N98 hF, K99 hF, N99 hF, K100 hF, N100 hF, K101 hF, N101 hF, K102 hF, N102 hF, K103 hF, N103 hF, K104 hF, N104 hF, K105 hF, N105 hF, K106 hF, N106 hF, K107 hF, N107 hF, K108 hF, N108 hF, K109 hF, N109 hF, K110 hF, N110 hF, K111 hF, N111 hF, K112 hF, N112 hF, K113 hF, N113 hF, K114 hF, N114 hF, K115 hF, N115 hF, K116 hF, N116 hF, K117 hF, N117 hF, K118 hF, N118 hF, K119 hF, N119 hF, K120 hF, N120 hF, R91_1 hF, R91_2 hF, R91_3 hF, R91_4 hF, R91_5 hF, R91_6 hF, R91_7 hF, R91_8 hF, R91_9 hF, R91_10 hF, R91_11 hF, R91_12 hF, R91_13 hF, R91_14 hF, R91_15 hF, R91_16 hF, R91_17 hF, R91_18 hF, R91_21 hF, R91_22 hF, R91_24 hF, R91_25 hF, R91_26 hF, R91_27 hF, R91_29 hF, R91_30 hF, R91_31 hF, R91_32 hF, R91_44 hF, RR_M hR, RR_T hR, RR_K hR, RR_Bo hR, RR_Gr hR, RR_Ch hR, RR_Bx hR, RR_G hR, RR_C hR, RR_G0 hR, RR_C0 hR, RR_V hR, RR_O hR, RR_Se hR, RR_S2 hR, RR_L hR, RR_W hR, RR_H hR, RR_hSo hR, RR_hCe hR, RR_hBo hR, RR_hOt hR, RR_hMu hR, RR_Ta hR, RR_Ki hR, RR_Tr hR, RR_Is hR, RR_So hR, RR_Sz hR, RR_El hR, iv_add, iv_sub, iv_mul, iv_neg, iv_zero, iv_ltT, iv_ltF, iv_leT, iv_leF, iv_eqT, iv_eqF, iv_div, rm_iv, tn_iv, ib_iv, lc_lt, lc_le, lc_gt, lc_ge, lc_eq, iv_l, jv_add, jv_sub, jv_mul, jv_zero, if_pos, if_neg, some_cb, some_cbv, ↓nm_eq, ↓reduceIte, true_and, and_true, Bool.true_eq_false, Bool.false_eq_true, not_false_eq_true, not_true_eq_false])
end Q
