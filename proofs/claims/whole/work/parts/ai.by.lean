/-! by, claim -/
theorem bo2 : (iv 1 = 1) = True := eq_true rfl
section Q
variable {w : WD} {A : Int → Nat} {h hh h' : AH} {m g k : Int} {S N : Int32}
set_option maxRecDepth 100000 in
theorem c_walk0 (hS : Sim w A h) (hl : lvM w m) (g0 : 0 ≤ g) (g1 : g < wGr w m) (k0 : 0 ≤ k) (k1 : k < wCh w m) (hb : bigR w m S = 0) {md : Option Int} (hm : mdOK md) (sc : Sc w A h hh) (hK : KS w A m S g k hh) (hI : KI (loR w m S g k) (hiR w m S g k) hh (fun _ => False) md) : ∃ h' : AH, f_X3_walk 16 (iv 0) (iv 0) hh = some h' ∧ Sc w A h h' ∧ KI (loR w m S g k) (hiR w m S g k) h' (fun s => s ∈ rowsS w m S ∧ kep w m S s) md ∧ ∀ i : Nat, gI h' 23 i = gI hh 23 i := by
  have hbig : bigN w m S (wBx w m).toNat ≤ 20000 := by rcases bigR_01 w m S with y | y <;> omega
  have hL := lvs_len (S := S) hS.W hl
  have hV : RoV w m S (rw0 w m S) := fun b b0 b1 => by rw [(rw0_ok hS.W hl b0 b1).1]; exact List.mem_cons_self
  obtain ⟨h', f1, f2, f3, f4⟩ := c_walk hS hl g0 g1 k0 k1 hbig hm (lvs w m S) [] 20 (rw0 w m S) _ hh rfl (by omega) sc hK (fun d1 d2 b e => absurd e (by simp)) hV (fun j j0 j1 jb je => by
    have : (([] : List Int).length : Int) = 0 := rfl
    have h1 : -1 ≤ dueN w m S j := by
      have q : ∀ b : Int, -1 ≤ lvB w m S b := fun b => by unfold lvB; by_cases y : gz w m S b = true <;> simp only [y, if_true, if_false] <;> omega
      have q1 := q (hBo w (12 * m + j))
      unfold dueN
      by_cases y : 2 ≤ hSo w (12 * m + j)
      · rw [if_pos y]; omega
      · rw [if_neg y]; omega
    omega) hI
  exact ⟨h', f1, f2, f4.congr fun s => ⟨fun y => by
    rcases y with y | ⟨y1, y2, -⟩
    · exact y.elim
    · exact ⟨y1, y2⟩, fun y => Or.inr ⟨y.1, y.2, fun b hb => absurd hb (by simp)⟩⟩, fun i => f3.1 23 i (by omega) (by omega)⟩
set_option maxRecDepth 100000 in
theorem c_goAll (hS : Sim w A h) (hl : lvM w m) (S : Int32) (g0 : 0 ≤ g) (g1 : g < wGr w m) (k0 : 0 ≤ k) (k1 : k < wCh w m) (hb : bigR w m S = 0) {p : Int} (hp : p = 3 * g + k) : ∃ h' : AH, f_X3_goThrough 16 (A m) S (iv p) h = some h' ∧ Sc w A h h' ∧ KIo h' (resS w m S g k) := by
  have hF := hS.F
  have sc0 : Sc w A h (sI h 16 15 (iv 1)) := (Sc.rf hS).sI (k16 _)
  obtain ⟨h1, f1, f2, f3, f4, f5, f6⟩ := c_prepare hS hl S g0 g1 k0 k1 sc0 hp
  have hF1 := (hS.sc f2).F
  obtain ⟨h2, e1, e2, e3, e4⟩ := c_walk0 hS hl g0 g1 k0 k1 hb (md := none) trivial f2 f3 ⟨by rw [f5 15 (by omega), gI_sIs], none, fun _ => id, f4⟩
  obtain ⟨-, o, o1, o2⟩ := e3
  refine ⟨h2, ?_, e2, ?_⟩
  · simp -implicitDefEqProofs (disch := omega) only [F_f_X3_goThrough, k_X3_goThrough_1, k_X3_goThrough_2, K16 hF, gK_sI, bo1, bo2, false_or, f1, K16 hF1, e1, iv_add, iv_sub, iv_mul, iv_neg, iv_zero, iv_ltT, iv_ltF, iv_leT, iv_leF, iv_eqT, iv_eqF, iv_div, rm_iv, tn_iv, ib_iv, some_cb, some_cbv, ↓nm_eq, ↓reduceIte, true_and, and_true, Bool.true_eq_false, Bool.false_eq_true, not_false_eq_true, not_true_eq_false]
  · rw [← RsOK.uniq o1 (resS_ok g k)]; exact o2
set_option maxRecDepth 100000 in
theorem c_goTill (hS : Sim w A h) (hl : lvM w m) (S : Int32) (g0 : 0 ≤ g) (g1 : g < wGr w m) (k0 : 0 ≤ k) (k1 : k < wCh w m) (hb : bigR w m S = 0) {p v : Int} (hp : p = 3 * g + k) (v0 : 0 ≤ v) (v1 : v ≤ 2147483647) : ∃ h' : AH, f_X3_goTillBelow 16 (A m) S (iv p) (iv v) h = some h' ∧ Sc w A h h' ∧ ((gI h' 16 0 = iv 0 ∧ resS w m S g k = none) ∨ (gI h' 16 0 = iv 1 ∧ ∃ q : Int × Int, resS w m S g k = some q ∧ ∃ le : Int, gI h' 16 1 = iv le ∧ (0 ≤ le ∧ le ≤ 10000) ∧ (le < v ↔ q.1 < v))) ∧ ∀ i : Nat, gI h' 23 i = gI h 23 i := by
  have hF := hS.F
  have sc0 : Sc w A h (sI (sI (sI h 16 15 (iv 0)) 16 13 (iv v)) 16 14 (iv 2147483647)) := (((Sc.rf hS).sI (k16 _)).sI (k16 _)).sI (k16 _)
  obtain ⟨h1, f1, f2, f3, f4, f5, f6⟩ := c_prepare hS hl S g0 g1 k0 k1 sc0 hp
  have hF1 := (hS.sc f2).F
  obtain ⟨h2, e1, e2, e3, e4⟩ := c_walk0 hS hl g0 g1 k0 k1 hb (md := some v) ⟨v0, v1⟩ f2 f3 ⟨by rw [f5 15 (by omega), gI_s16 _ _ (by omega), gI_s16 _ _ (by omega), gI_sIs], by rw [f5 14 (by omega), gI_sIs], Or.inl ⟨f4, by rw [f5 13 (by omega), gI_s16 _ _ (by omega), gI_sIs], fun _ => id⟩⟩
  refine ⟨h2, ?_, e2, ?_, fun i => by rw [e4, f6, gI_sIo _ _ (by omega), gI_sIo _ _ (by omega), gI_sIo _ _ (by omega)]⟩
  · simp -implicitDefEqProofs (disch := omega) only [F_f_X3_goTillBelow, k_X3_goTillBelow_1, k_X3_goTillBelow_2, K16 hF, gK_sI, true_or, bo0, f1, K16 hF1, e1, iv_add, iv_sub, iv_mul, iv_neg, iv_zero, iv_ltT, iv_ltF, iv_leT, iv_leF, iv_eqT, iv_eqF, iv_div, rm_iv, tn_iv, ib_iv, some_cb, some_cbv, ↓nm_eq, ↓reduceIte, true_and, and_true, Bool.true_eq_false, Bool.false_eq_true, not_false_eq_true, not_true_eq_false]
  · have hok := resS_ok (w := w) (m := m) (S := S) g k
    obtain ⟨-, -, e3⟩ := e3
    rcases e3 with ⟨c1, c2, c3⟩ | ⟨c1, ⟨r, hr⟩, le, mo, c3, c4, c5, c6, c7⟩
    · refine Or.inl ⟨c1, ?_⟩
      cases er : resS w m S g k with
      | none => rfl
      | some q =>
        rw [er] at hok
        obtain ⟨⟨r, hr, -⟩, -⟩ := hok
        exact absurd hr (c3 r)
    · refine Or.inr ⟨c1, ?_⟩
      cases er : resS w m S g k with
      | none =>
        rw [er] at hok
        exact absurd hr (hok r)
      | some q =>
        rw [er] at hok
        obtain ⟨⟨r1, p1, p2⟩, p3, -⟩ := hok
        refine ⟨q, rfl, le, c3, c5, ?_⟩
        rcases c7 with ⟨d1, d2, d3⟩ | ⟨d1, d2, s, d3, d4⟩
        · have := d3 r1 p1
          constructor
          · intro y; omega
          · intro y; omega
        · have := p3 s d3
          constructor
          · intro y; omega
          · intro y; omega
def isT (w : WD) (m s : Int) : Prop := 0 ≤ s ∧ s < 2 ^ (wH w m).toNat
theorem sh2 {c : Int} (c0 : 0 ≤ c) (c1 : c ≤ 8) : iv 1 <<< (iv c &&& 31) = iv (2 ^ c.toNat) := by
  rcases (show c = 0 ∨ c = 1 ∨ c = 2 ∨ c = 3 ∨ c = 4 ∨ c = 5 ∨ c = 6 ∨ c = 7 ∨ c = 8 by omega) with q | q | q | q | q | q | q | q | q <;> subst q <;> rfl
theorem p2r {c : Int} (c0 : 0 ≤ c) (c1 : c ≤ 8) : (1 : Int) ≤ 2 ^ c.toNat ∧ (2 : Int) ^ c.toNat ≤ 256 := by
  rcases (show c = 0 ∨ c = 1 ∨ c = 2 ∨ c = 3 ∨ c = 4 ∨ c = 5 ∨ c = 6 ∨ c = 7 ∨ c = 8 by omega) with q | q | q | q | q | q | q | q | q <;> subst q <;> decide
set_option maxRecDepth 100000 in
theorem c_told (hS : Sim w A h) (hl : lvM w m) {s : Int} (s0 : -2147483648 ≤ s) (s1 : s ≤ 2147483647) : (isT w m s → f_X6_hasTold (A m) (iv s) h = some (iv 1, h)) ∧ (¬ isT w m s → f_X6_hasTold (A m) (iv s) h = some (iv 0, h)) := by
  have hM := hS.M hl
  obtain ⟨-, -, -, ⟨hh1, hh2⟩, -⟩ := hS.W.mat hl
  obtain ⟨t1, t2⟩ := p2r hh1 hh2
  have e := sh2 hh1 hh2
  unfold isT
  obtain ⟨T, hT⟩ : ∃ T : Int, 2 ^ (wH w m).toNat = T := ⟨_, rfl⟩
  rw [hT] at e t1 t2 ⊢
  refine ⟨fun ⟨y1, y2⟩ => ?_, fun y => ?_⟩
  · simp -implicitDefEqProofs (disch := omega) only [F_f_X6_hasTold, oM_k hM, oM_6 hM, e, zret1, iv_add, iv_sub, iv_mul, iv_neg, iv_zero, iv_ltT, iv_ltF, iv_leT, iv_leF, iv_eqT, iv_eqF, iv_div, rm_iv, tn_iv, ib_iv, some_cb, some_cbv, ↓nm_eq, ↓reduceIte, true_and, and_true, Bool.true_eq_false, Bool.false_eq_true, not_false_eq_true, not_true_eq_false]
  · by_cases z : s < 0
    · simp -implicitDefEqProofs (disch := omega) only [F_f_X6_hasTold, oM_k hM, oM_6 hM, e, zret0, iv_add, iv_sub, iv_mul, iv_neg, iv_zero, iv_ltT, iv_ltF, iv_leT, iv_leF, iv_eqT, iv_eqF, iv_div, rm_iv, tn_iv, ib_iv, some_cb, some_cbv, ↓nm_eq, ↓reduceIte, true_and, and_true, Bool.true_eq_false, Bool.false_eq_true, not_false_eq_true, not_true_eq_false]
    · simp -implicitDefEqProofs (disch := omega) only [F_f_X6_hasTold, oM_k hM, oM_6 hM, e, zret0, iv_add, iv_sub, iv_mul, iv_neg, iv_zero, iv_ltT, iv_ltF, iv_leT, iv_leF, iv_eqT, iv_eqF, iv_div, rm_iv, tn_iv, ib_iv, some_cb, some_cbv, ↓nm_eq, ↓reduceIte, true_and, and_true, Bool.true_eq_false, Bool.false_eq_true, not_false_eq_true, not_true_eq_false]
set_option maxRecDepth 100000 in
theorem q_told (hS : QS w h) (m0 : -2147483648 ≤ m) (m1 : m ≤ 2147483647) {s : Int} (s0 : -2147483648 ≤ s) (s1 : s ≤ 2147483647) : (lvM w m ∧ isT w m s → f_X12_isSet 91 (iv m) (iv s) h = some (iv 1, h)) ∧ (¬ (lvM w m ∧ isT w m s) → f_X12_isSet 91 (iv m) (iv s) h = some (iv 0, h)) := by
  have hF := hS.F
  have hR := hS.R
  by_cases hl : lvM w m
  · obtain ⟨⟨w1, w2⟩, -⟩ := id hS.W
    obtain ⟨l1, l2⟩ := id hl
    obtain ⟨-, -, -, ⟨hh1, hh2⟩, -⟩ := hS.W.mat hl
    obtain ⟨t1, t2⟩ := p2r hh1 hh2
    have e := sh2 hh1 hh2
    have hq := q_isMatter1 hF hR hS.W m0 m1 hl
    unfold isT
    obtain ⟨T, hT⟩ : ∃ T : Int, 2 ^ (wH w m).toNat = T := ⟨_, rfl⟩
    rw [hT] at e t1 t2 ⊢
    refine ⟨fun ⟨_, y1, y2⟩ => ?_, fun y => ?_⟩
    · have hin := q_in1 (h := h) s0 s1 (a := 0) (by omega) (by omega) (b := T - 1) (by omega) (by omega) (by omega)
      simp -implicitDefEqProofs (disch := omega) only [k_X12_isSet_28_1, F_f_X12_isSet_28, k_X12_isSet_1, k_X12_isSet_2, F_f_X12_isSet, K91 hF, hq, R91_12 hF, K103 hF, N103 hF, RR_H hR, e, hin, zret1, iv_add, iv_sub, iv_mul, iv_neg, iv_zero, iv_ltT, iv_ltF, iv_leT, iv_leF, iv_eqT, iv_eqF, iv_div, rm_iv, tn_iv, ib_iv, some_cb, some_cbv, ↓nm_eq, ↓reduceIte, true_and, and_true, Bool.true_eq_false, Bool.false_eq_true, not_false_eq_true, not_true_eq_false]
    · have hin := q_in0 (h := h) s0 s1 (a := 0) (by omega) (by omega) (b := T - 1) (by omega) (by omega) (fun z => y ⟨hl, by omega, by omega⟩)
      simp -implicitDefEqProofs (disch := omega) only [k_X12_isSet_28_1, F_f_X12_isSet_28, k_X12_isSet_1, k_X12_isSet_2, F_f_X12_isSet, K91 hF, hq, R91_12 hF, K103 hF, N103 hF, RR_H hR, e, hin, zret0, iv_add, iv_sub, iv_mul, iv_neg, iv_zero, iv_ltT, iv_ltF, iv_leT, iv_leF, iv_eqT, iv_eqF, iv_div, rm_iv, tn_iv, ib_iv, some_cb, some_cbv, ↓nm_eq, ↓reduceIte, true_and, and_true, Bool.true_eq_false, Bool.false_eq_true, not_false_eq_true, not_true_eq_false]
  · have hq := q_isMatter0 hF hR hS.W m0 m1 hl
    refine ⟨fun y => absurd y.1 hl, fun _ => ?_⟩
    simp -implicitDefEqProofs (disch := omega) only [k_X12_isSet_28_1, F_f_X12_isSet_28, k_X12_isSet_1, k_X12_isSet_2, F_f_X12_isSet, K91 hF, hq, zret0, iv_add, iv_sub, iv_mul, iv_neg, iv_zero, iv_ltT, iv_ltF, iv_leT, iv_leF, iv_eqT, iv_eqF, iv_div, rm_iv, tn_iv, ib_iv, some_cb, some_cbv, ↓nm_eq, ↓reduceIte, true_and, and_true, Bool.true_eq_false, Bool.false_eq_true, not_false_eq_true, not_true_eq_false]
set_option maxRecDepth 100000 in
theorem c_isEnd {e : Int} (e0 : -2147483648 ≤ e) (e1 : e ≤ 2147483647) : (0 ≤ e ∧ e ≤ 1 → f_X11_isEnd (iv e) h = some (iv 1, h)) ∧ (¬ (0 ≤ e ∧ e ≤ 1) → f_X11_isEnd (iv e) h = some (iv 0, h)) := by
  refine ⟨fun y => ?_, fun y => ?_⟩
  · by_cases z : e = 0
    · subst z; simp -implicitDefEqProofs (disch := omega) only [F_f_X11_isEnd, zret1, iv_add, iv_sub, iv_mul, iv_neg, iv_zero, iv_ltT, iv_ltF, iv_leT, iv_leF, iv_eqT, iv_eqF, iv_div, rm_iv, tn_iv, ib_iv, some_cb, some_cbv, ↓nm_eq, ↓reduceIte, true_and, and_true, Bool.true_eq_false, Bool.false_eq_true, not_false_eq_true, not_true_eq_false]
    · have : e = 1 := by omega
      subst this; simp -implicitDefEqProofs (disch := omega) only [F_f_X11_isEnd, zret1, iv_add, iv_sub, iv_mul, iv_neg, iv_zero, iv_ltT, iv_ltF, iv_leT, iv_leF, iv_eqT, iv_eqF, iv_div, rm_iv, tn_iv, ib_iv, some_cb, some_cbv, ↓nm_eq, ↓reduceIte, true_and, and_true, Bool.true_eq_false, Bool.false_eq_true, not_false_eq_true, not_true_eq_false]
  · simp -implicitDefEqProofs (disch := omega) only [F_f_X11_isEnd, zret0, iv_add, iv_sub, iv_mul, iv_neg, iv_zero, iv_ltT, iv_ltF, iv_leT, iv_leF, iv_eqT, iv_eqF, iv_div, rm_iv, tn_iv, ib_iv, some_cb, some_cbv, ↓nm_eq, ↓reduceIte, true_and, and_true, Bool.true_eq_false, Bool.false_eq_true, not_false_eq_true, not_true_eq_false]
set_option maxRecDepth 100000 in
theorem M_by (hS : Sim w A h) (x1 x2 x3 x4 : Int32) : Both (f_X11_by 3 x1 x2 x3 x4) (f_X12_by 91 x1 x2 x3 x4) h := by
  obtain ⟨m, rfl, m1, m2⟩ := iv_ex x1
  obtain ⟨s, rfl, s1, s2⟩ := iv_ex x2
  obtain ⟨c, rfl, c1, c2⟩ := iv_ex x3
  obtain ⟨e, rfl, e1, e2⟩ := iv_ex x4
  have hF := hS.F
  have hR := hS.R
  by_cases hl : lvM w m
  · by_cases hc : isC w m c
    · obtain ⟨⟨w1, w2⟩, -⟩ := hS.W; obtain ⟨⟨gg1, gg2⟩, ⟨gc1, gc2⟩, ⟨b2, b3⟩, ⟨hh1, hh2⟩, -⟩ := hS.W.mat hl; obtain ⟨l1, l2⟩ := id hl
      obtain ⟨cc0, cg, ck⟩ := hc; obtain ⟨g, hg⟩ : ∃ g, c / 10 = g := ⟨_, rfl⟩; obtain ⟨k, hk⟩ : ∃ k, c % 10 = k := ⟨_, rfl⟩; rw [hg] at cg; rw [hk] at ck; have g0 : 0 ≤ g := (by omega); have k0 : 0 ≤ k := (by omega)
      have hcp := c_placeOf1 hS c2 hl cc0 hg hk cg ck; have hqc := q_isAsked1 hS.Q c2 hl cc0 hg hk cg ck; have hgd : iv c / iv 10 = iv g := (by rw [iv_div (by omega) (by omega) (by omega) (by omega), hg]); have hkd : rmI (iv c) (iv 10) = iv k := (by rw [rm_iv (by omega) (by omega) (by omega) (by omega), hk]); have hg3 : iv (3 * g + k) / iv 3 = iv g := (by rw [iv_div (by omega) (by omega) (by omega) (by omega)]; congr 1; omega); have hk3 : rmI (iv (3 * g + k)) (iv 3) = iv k := (by rw [rm_iv (by omega) (by omega) (by omega) (by omega)]; congr 1; omega)
      have hM := hS.M hl
      have hcm := c_matterAt1 hF hS.C hS.W m1 m2 hl
      by_cases ht : isT w m s
      · have ct := (c_told hS hl s1 s2).1 ht
        by_cases he : 0 ≤ e ∧ e ≤ 1
        · have ce := (c_isEnd (h := h) e1 e2).1 he
          obtain ⟨h1, b1, sc1⟩ := c_isTooMany (S := iv s) hS hl
          have hS1 := hS.sc sc1
          have hF1 := hS1.F
          rcases bigR_01 w m (iv s) with ⟨z, -⟩ | ⟨z, -⟩
          · rw [z] at b1
            obtain ⟨h2, b2, sc2, ko⟩ := c_goAll hS1 hl (iv s) g0 cg k0 ck z (p := 3 * g + k) rfl
            have sim2 := hS1.sc sc2
            have hF2 := sim2.F
            have hM1 := hS1.M hl
            cases er : resS w m (iv s) g k with
            | none =>
              rw [er] at ko
              have ko : gI h2 16 0 = iv 0 := ko
              refine Both.scr hS (r := iv (-2)) ⟨h2, ?_, sc1.tr sc2⟩ (fun h3 hS3 => ?_)
              · simp -implicitDefEqProofs (disch := omega) only [k_X11_by_1, k_X11_by_2, k_X11_by_3, k_X11_by_4, k_X11_by_5, k_X11_by_6, F_f_X11_by, K3 hF, hcm, hcp, oM_k hM, oM_k hM1, ct, ce, b1, K3 hF1, R3_6 hF1, K16 hF1, b2, K3 hF2, R3_6 hF2, K16 hF2, ko, iv_add, iv_sub, iv_mul, iv_neg, iv_zero, iv_ltT, iv_ltF, iv_leT, iv_leF, iv_eqT, iv_eqF, iv_div, rm_iv, tn_iv, ib_iv, some_cb, some_cbv, ↓nm_eq, ↓reduceIte, true_and, and_true, Bool.true_eq_false, Bool.false_eq_true, not_false_eq_true, not_true_eq_false]
              · have hF3 := hS3.F
                obtain ⟨h4, d1, d2, d3⟩ := (q_goes hS3 hl (iv s) cc0 hg hk cg ck).2 z
                rw [er] at d3
                have d3 : gI h4 91 33 = iv 0 := d3
                have hF4 := (hS3.sc d2).F
                have qt := (q_told hS3.Q m1 m2 s1 s2).1 ⟨hl, ht⟩
                have qa := q_isAsked1 hS3.Q c2 hl cc0 hg hk cg ck
                refine ⟨h4, ?_, d2⟩
                simp -implicitDefEqProofs (disch := omega) only [k_X12_by_1, k_X12_by_2, k_X12_by_3, k_X12_by_4, F_f_X12_by, K91 hF3, qt, qa, q_in1, d1, K91 hF4, d3, iv_add, iv_sub, iv_mul, iv_neg, iv_zero, iv_ltT, iv_ltF, iv_leT, iv_leF, iv_eqT, iv_eqF, iv_div, rm_iv, tn_iv, ib_iv, some_cb, some_cbv, ↓nm_eq, ↓reduceIte, true_and, and_true, Bool.true_eq_false, Bool.false_eq_true, not_false_eq_true, not_true_eq_false]
            | some q =>
              rw [er] at ko
              obtain ⟨k1', k2', k3', -, -, k6', k7'⟩ := ko
              refine Both.scr hS (r := iv (if e = 0 then q.1 else q.2)) ⟨h2, ?_, sc1.tr sc2⟩ (fun h3 hS3 => ?_)
              · by_cases z0 : e = 0
                · rw [if_pos z0]
                  simp -implicitDefEqProofs (disch := omega) only [k_X11_by_1, k_X11_by_2, k_X11_by_3, k_X11_by_4, k_X11_by_5, k_X11_by_6, F_f_X11_by, K3 hF, hcm, hcp, oM_k hM, oM_k hM1, ct, ce, b1, K3 hF1, R3_6 hF1, K16 hF1, b2, K3 hF2, R3_6 hF2, K16 hF2, k1', k2', k3', iv_add, iv_sub, iv_mul, iv_neg, iv_zero, iv_ltT, iv_ltF, iv_leT, iv_leF, iv_eqT, iv_eqF, iv_div, rm_iv, tn_iv, ib_iv, some_cb, some_cbv, ↓nm_eq, ↓reduceIte, true_and, and_true, Bool.true_eq_false, Bool.false_eq_true, not_false_eq_true, not_true_eq_false]
                · rw [if_neg z0]
                  simp -implicitDefEqProofs (disch := omega) only [k_X11_by_1, k_X11_by_2, k_X11_by_3, k_X11_by_4, k_X11_by_5, k_X11_by_6, F_f_X11_by, K3 hF, hcm, hcp, oM_k hM, oM_k hM1, ct, ce, b1, K3 hF1, R3_6 hF1, K16 hF1, b2, K3 hF2, R3_6 hF2, K16 hF2, k1', k2', k3', iv_add, iv_sub, iv_mul, iv_neg, iv_zero, iv_ltT, iv_ltF, iv_leT, iv_leF, iv_eqT, iv_eqF, iv_div, rm_iv, tn_iv, ib_iv, some_cb, some_cbv, ↓nm_eq, ↓reduceIte, true_and, and_true, Bool.true_eq_false, Bool.false_eq_true, not_false_eq_true, not_true_eq_false]
              · have hF3 := hS3.F
                obtain ⟨h4, d1, d2, d3⟩ := (q_goes hS3 hl (iv s) cc0 hg hk cg ck).2 z
                rw [er] at d3
                obtain ⟨u1, u2, u3, u4, u5⟩ := d3
                have hF4 := (hS3.sc d2).F
                have qt := (q_told hS3.Q m1 m2 s1 s2).1 ⟨hl, ht⟩
                have qa := q_isAsked1 hS3.Q c2 hl cc0 hg hk cg ck
                refine ⟨h4, ?_, d2⟩
                by_cases z0 : e = 0
                · rw [if_pos z0]
                  simp -implicitDefEqProofs (disch := omega) only [k_X12_by_1, k_X12_by_2, k_X12_by_3, k_X12_by_4, F_f_X12_by, K91 hF3, qt, qa, q_in1, d1, K91 hF4, u1, u2, u3, iv_add, iv_sub, iv_mul, iv_neg, iv_zero, iv_ltT, iv_ltF, iv_leT, iv_leF, iv_eqT, iv_eqF, iv_div, rm_iv, tn_iv, ib_iv, some_cb, some_cbv, ↓nm_eq, ↓reduceIte, true_and, and_true, Bool.true_eq_false, Bool.false_eq_true, not_false_eq_true, not_true_eq_false]
                · rw [if_neg z0]
                  simp -implicitDefEqProofs (disch := omega) only [k_X12_by_1, k_X12_by_2, k_X12_by_3, k_X12_by_4, F_f_X12_by, K91 hF3, qt, qa, q_in1, d1, K91 hF4, u1, u2, u3, iv_add, iv_sub, iv_mul, iv_neg, iv_zero, iv_ltT, iv_ltF, iv_leT, iv_leF, iv_eqT, iv_eqF, iv_div, rm_iv, tn_iv, ib_iv, some_cb, some_cbv, ↓nm_eq, ↓reduceIte, true_and, and_true, Bool.true_eq_false, Bool.false_eq_true, not_false_eq_true, not_true_eq_false]
          · rw [z] at b1
            refine Both.scr hS (r := iv (-4)) ⟨h1, ?_, sc1⟩ (fun h3 hS3 => CSm.still hS3 ?_)
            · simp -implicitDefEqProofs (disch := omega) only [k_X11_by_1, k_X11_by_2, k_X11_by_3, k_X11_by_4, k_X11_by_5, k_X11_by_6, F_f_X11_by, K3 hF, hcm, hcp, oM_k hM, ct, ce, b1, iv_add, iv_sub, iv_mul, iv_neg, iv_zero, iv_ltT, iv_ltF, iv_leT, iv_leF, iv_eqT, iv_eqF, iv_div, rm_iv, tn_iv, ib_iv, some_cb, some_cbv, ↓nm_eq, ↓reduceIte, true_and, and_true, Bool.true_eq_false, Bool.false_eq_true, not_false_eq_true, not_true_eq_false]
            · have hF3 := hS3.F
              have d1 := (q_goes hS3 hl (iv s) cc0 hg hk cg ck).1 z
              have qt := (q_told hS3.Q m1 m2 s1 s2).1 ⟨hl, ht⟩
              have qa := q_isAsked1 hS3.Q c2 hl cc0 hg hk cg ck
              simp -implicitDefEqProofs (disch := omega) only [k_X12_by_1, k_X12_by_2, k_X12_by_3, k_X12_by_4, F_f_X12_by, K91 hF3, qt, qa, q_in1, d1, iv_add, iv_sub, iv_mul, iv_neg, iv_zero, iv_ltT, iv_ltF, iv_leT, iv_leF, iv_eqT, iv_eqF, iv_div, rm_iv, tn_iv, ib_iv, some_cb, some_cbv, ↓nm_eq, ↓reduceIte, true_and, and_true, Bool.true_eq_false, Bool.false_eq_true, not_false_eq_true, not_true_eq_false]
        · have ce := (c_isEnd (h := h) e1 e2).2 he
          have qt := (q_told hS.Q m1 m2 s1 s2).1 ⟨hl, ht⟩
          exact Both.still hS (r := iv (-1)) (by simp -implicitDefEqProofs (disch := omega) only [k_X11_by_1, k_X11_by_2, k_X11_by_3, k_X11_by_4, k_X11_by_5, k_X11_by_6, F_f_X11_by, K3 hF, hcm, hcp, oM_k hM, ct, ce, iv_add, iv_sub, iv_mul, iv_neg, iv_zero, iv_ltT, iv_ltF, iv_leT, iv_leF, iv_eqT, iv_eqF, iv_div, rm_iv, tn_iv, ib_iv, some_cb, some_cbv, ↓nm_eq, ↓reduceIte, true_and, and_true, Bool.true_eq_false, Bool.false_eq_true, not_false_eq_true, not_true_eq_false]) (by simp -implicitDefEqProofs (disch := omega) only [k_X12_by_1, k_X12_by_2, k_X12_by_3, k_X12_by_4, F_f_X12_by, K91 hF, qt, hqc, q_in0, iv_add, iv_sub, iv_mul, iv_neg, iv_zero, iv_ltT, iv_ltF, iv_leT, iv_leF, iv_eqT, iv_eqF, iv_div, rm_iv, tn_iv, ib_iv, some_cb, some_cbv, ↓nm_eq, ↓reduceIte, true_and, and_true, Bool.true_eq_false, Bool.false_eq_true, not_false_eq_true, not_true_eq_false])
      · have ct := (c_told hS hl s1 s2).2 ht
        have qt := (q_told hS.Q m1 m2 s1 s2).2 (fun y => ht y.2)
        exact Both.still hS (r := iv (-1)) (by simp -implicitDefEqProofs (disch := omega) only [k_X11_by_1, k_X11_by_2, k_X11_by_3, k_X11_by_4, k_X11_by_5, k_X11_by_6, F_f_X11_by, K3 hF, hcm, hcp, oM_k hM, ct, iv_add, iv_sub, iv_mul, iv_neg, iv_zero, iv_ltT, iv_ltF, iv_leT, iv_leF, iv_eqT, iv_eqF, iv_div, rm_iv, tn_iv, ib_iv, some_cb, some_cbv, ↓nm_eq, ↓reduceIte, true_and, and_true, Bool.true_eq_false, Bool.false_eq_true, not_false_eq_true, not_true_eq_false]) (by simp -implicitDefEqProofs (disch := omega) only [k_X12_by_1, k_X12_by_2, k_X12_by_3, k_X12_by_4, F_f_X12_by, K91 hF, qt, iv_add, iv_sub, iv_mul, iv_neg, iv_zero, iv_ltT, iv_ltF, iv_leT, iv_leF, iv_eqT, iv_eqF, iv_div, rm_iv, tn_iv, ib_iv, some_cb, some_cbv, ↓nm_eq, ↓reduceIte, true_and, and_true, Bool.true_eq_false, Bool.false_eq_true, not_false_eq_true, not_true_eq_false])
    · have hcm := c_matterAt1 hF hS.C hS.W m1 m2 hl
      have hcp := c_placeOf0 hS c1 c2 hl hc
      have qa := q_isAsked0 hS.Q m1 m2 c1 c2 (fun q => hc q.2)
      refine Both.still hS (r := iv (-1)) (by simp -implicitDefEqProofs (disch := omega) only [k_X11_by_1, k_X11_by_2, k_X11_by_3, k_X11_by_4, k_X11_by_5, k_X11_by_6, F_f_X11_by, K3 hF, hcm, hcp, iv_add, iv_sub, iv_mul, iv_neg, iv_zero, iv_ltT, iv_ltF, iv_leT, iv_leF, iv_eqT, iv_eqF, iv_div, rm_iv, tn_iv, ib_iv, some_cb, some_cbv, ↓nm_eq, ↓reduceIte, true_and, and_true, Bool.true_eq_false, Bool.false_eq_true, not_false_eq_true, not_true_eq_false]) ?_
      by_cases ht : lvM w m ∧ isT w m s
      · have qt := (q_told hS.Q m1 m2 s1 s2).1 ht
        simp -implicitDefEqProofs (disch := omega) only [k_X12_by_1, k_X12_by_2, k_X12_by_3, k_X12_by_4, F_f_X12_by, K91 hF, qt, qa, iv_add, iv_sub, iv_mul, iv_neg, iv_zero, iv_ltT, iv_ltF, iv_leT, iv_leF, iv_eqT, iv_eqF, iv_div, rm_iv, tn_iv, ib_iv, some_cb, some_cbv, ↓nm_eq, ↓reduceIte, true_and, and_true, Bool.true_eq_false, Bool.false_eq_true, not_false_eq_true, not_true_eq_false]
      · have qt := (q_told hS.Q m1 m2 s1 s2).2 ht
        simp -implicitDefEqProofs (disch := omega) only [k_X12_by_1, k_X12_by_2, k_X12_by_3, k_X12_by_4, F_f_X12_by, K91 hF, qt, iv_add, iv_sub, iv_mul, iv_neg, iv_zero, iv_ltT, iv_ltF, iv_leT, iv_leF, iv_eqT, iv_eqF, iv_div, rm_iv, tn_iv, ib_iv, some_cb, some_cbv, ↓nm_eq, ↓reduceIte, true_and, and_true, Bool.true_eq_false, Bool.false_eq_true, not_false_eq_true, not_true_eq_false]
  · have hcm := c_matterAt0 hF hS.C hS.W m1 m2 hl
    have qt := (q_told hS.Q m1 m2 s1 s2).2 (fun y => hl y.1)
    exact Both.still hS (r := iv (-1)) (by simp -implicitDefEqProofs (disch := omega) only [k_X11_by_1, k_X11_by_2, k_X11_by_3, k_X11_by_4, k_X11_by_5, k_X11_by_6, F_f_X11_by, K3 hF, hcm, c_placeOfN, iv_add, iv_sub, iv_mul, iv_neg, iv_zero, iv_ltT, iv_ltF, iv_leT, iv_leF, iv_eqT, iv_eqF, iv_div, rm_iv, tn_iv, ib_iv, some_cb, some_cbv, ↓nm_eq, ↓reduceIte, true_and, and_true, Bool.true_eq_false, Bool.false_eq_true, not_false_eq_true, not_true_eq_false]) (by simp -implicitDefEqProofs (disch := omega) only [k_X12_by_1, k_X12_by_2, k_X12_by_3, k_X12_by_4, F_f_X12_by, K91 hF, qt, iv_add, iv_sub, iv_mul, iv_neg, iv_zero, iv_ltT, iv_ltF, iv_leT, iv_leF, iv_eqT, iv_eqF, iv_div, rm_iv, tn_iv, ib_iv, some_cb, some_cbv, ↓nm_eq, ↓reduceIte, true_and, and_true, Bool.true_eq_false, Bool.false_eq_true, not_false_eq_true, not_true_eq_false])
set_option maxRecDepth 100000 in
theorem M_claim (hS : Sim w A h) (x1 x2 x3 x4 : Int32) : Both (f_X11_claim 3 x1 x2 x3 x4) (f_X12_claim 91 x1 x2 x3 x4) h := by
  obtain ⟨m, rfl, m1, m2⟩ := iv_ex x1
  obtain ⟨s, rfl, s1, s2⟩ := iv_ex x2
  obtain ⟨c, rfl, c1, c2⟩ := iv_ex x3
  obtain ⟨e, rfl, e1, e2⟩ := iv_ex x4
  have hF := hS.F
  have hR := hS.R
  by_cases hl : lvM w m
  · by_cases hc : isC w m c
    · obtain ⟨⟨w1, w2⟩, -⟩ := hS.W; obtain ⟨⟨gg1, gg2⟩, ⟨gc1, gc2⟩, ⟨b2, b3⟩, ⟨hh1, hh2⟩, -⟩ := hS.W.mat hl; obtain ⟨l1, l2⟩ := id hl
      obtain ⟨cc0, cg, ck⟩ := hc; obtain ⟨g, hg⟩ : ∃ g, c / 10 = g := ⟨_, rfl⟩; obtain ⟨k, hk⟩ : ∃ k, c % 10 = k := ⟨_, rfl⟩; rw [hg] at cg; rw [hk] at ck; have g0 : 0 ≤ g := (by omega); have k0 : 0 ≤ k := (by omega)
      have hcp := c_placeOf1 hS c2 hl cc0 hg hk cg ck; have hqc := q_isAsked1 hS.Q c2 hl cc0 hg hk cg ck; have hgd : iv c / iv 10 = iv g := (by rw [iv_div (by omega) (by omega) (by omega) (by omega), hg]); have hkd : rmI (iv c) (iv 10) = iv k := (by rw [rm_iv (by omega) (by omega) (by omega) (by omega), hk]); have hg3 : iv (3 * g + k) / iv 3 = iv g := (by rw [iv_div (by omega) (by omega) (by omega) (by omega)]; congr 1; omega); have hk3 : rmI (iv (3 * g + k)) (iv 3) = iv k := (by rw [rm_iv (by omega) (by omega) (by omega) (by omega)]; congr 1; omega)
      have hM := hS.M hl
      have hcm := c_matterAt1 hF hS.C hS.W m1 m2 hl
      by_cases ht : isT w m s
      · have ct := (c_told hS hl s1 s2).1 ht
        by_cases he : 0 ≤ e ∧ e ≤ 9999
        · obtain ⟨he0, he1⟩ := id he
          obtain ⟨h1, b1, sc1⟩ := c_isTooMany (S := iv s) hS hl
          have hS1 := hS.sc sc1
          have hF1 := hS1.F
          rcases bigR_01 w m (iv s) with ⟨z, -⟩ | ⟨z, -⟩
          · rw [z] at b1
            obtain ⟨h2, b2, sc2, ko⟩ := c_goAll hS1 hl (iv s) g0 cg k0 ck z (p := 3 * g + k) rfl
            have sim2 := hS1.sc sc2
            have hF2 := sim2.F
            have hM1 := hS1.M hl
            cases er : resS w m (iv s) g k with
            | none =>
              rw [er] at ko
              have ko : gI h2 16 0 = iv 0 := ko
              refine Both.scr hS (r := iv 2) ⟨h2, ?_, sc1.tr sc2⟩ (fun h3 hS3 => ?_)
              · simp -implicitDefEqProofs (disch := omega) only [k_X11_claim_1, k_X11_claim_2, k_X11_claim_3, k_X11_claim_4, k_X11_claim_5, F_f_X11_claim, K3 hF, hcm, hcp, oM_k hM, oM_k hM1, ct, b1, K3 hF1, R3_6 hF1, K16 hF1, b2, K3 hF2, R3_6 hF2, K16 hF2, ko, iv_add, iv_sub, iv_mul, iv_neg, iv_zero, iv_ltT, iv_ltF, iv_leT, iv_leF, iv_eqT, iv_eqF, iv_div, rm_iv, tn_iv, ib_iv, some_cb, some_cbv, ↓nm_eq, ↓reduceIte, true_and, and_true, Bool.true_eq_false, Bool.false_eq_true, not_false_eq_true, not_true_eq_false]
              · have hF3 := hS3.F
                obtain ⟨h4, d1, d2, d3⟩ := (q_goes hS3 hl (iv s) cc0 hg hk cg ck).2 z
                rw [er] at d3
                have d3 : gI h4 91 33 = iv 0 := d3
                have hF4 := (hS3.sc d2).F
                have qt := (q_told hS3.Q m1 m2 s1 s2).1 ⟨hl, ht⟩
                have qa := q_isAsked1 hS3.Q c2 hl cc0 hg hk cg ck
                refine ⟨h4, ?_, d2⟩
                simp -implicitDefEqProofs (disch := omega) only [k_X12_claim_1, k_X12_claim_2, k_X12_claim_3, k_X12_claim_4, F_f_X12_claim, K91 hF3, qt, qa, q_in1, d1, K91 hF4, d3, iv_add, iv_sub, iv_mul, iv_neg, iv_zero, iv_ltT, iv_ltF, iv_leT, iv_leF, iv_eqT, iv_eqF, iv_div, rm_iv, tn_iv, ib_iv, some_cb, some_cbv, ↓nm_eq, ↓reduceIte, true_and, and_true, Bool.true_eq_false, Bool.false_eq_true, not_false_eq_true, not_true_eq_false]
            | some q =>
              rw [er] at ko
              obtain ⟨k1', k2', k3', -, -, k6', k7'⟩ := ko
              refine Both.scr hS (r := iv (if e ≤ q.1 then 2 else if q.2 < e then 0 else 1)) ⟨h2, ?_, sc1.tr sc2⟩ (fun h3 hS3 => ?_)
              · by_cases z0 : e ≤ q.1
                · rw [if_pos z0]
                  simp -implicitDefEqProofs (disch := omega) only [k_X11_claim_1, k_X11_claim_2, k_X11_claim_3, k_X11_claim_4, k_X11_claim_5, F_f_X11_claim, K3 hF, hcm, hcp, oM_k hM, oM_k hM1, ct, b1, K3 hF1, R3_6 hF1, K16 hF1, b2, K3 hF2, R3_6 hF2, K16 hF2, k1', k2', k3', iv_add, iv_sub, iv_mul, iv_neg, iv_zero, iv_ltT, iv_ltF, iv_leT, iv_leF, iv_eqT, iv_eqF, iv_div, rm_iv, tn_iv, ib_iv, some_cb, some_cbv, ↓nm_eq, ↓reduceIte, true_and, and_true, Bool.true_eq_false, Bool.false_eq_true, not_false_eq_true, not_true_eq_false]
                · rw [if_neg z0]
                  by_cases z2 : q.2 < e
                  · rw [if_pos z2]
                    simp -implicitDefEqProofs (disch := omega) only [k_X11_claim_1, k_X11_claim_2, k_X11_claim_3, k_X11_claim_4, k_X11_claim_5, F_f_X11_claim, K3 hF, hcm, hcp, oM_k hM, oM_k hM1, ct, b1, K3 hF1, R3_6 hF1, K16 hF1, b2, K3 hF2, R3_6 hF2, K16 hF2, k1', k2', k3', iv_add, iv_sub, iv_mul, iv_neg, iv_zero, iv_ltT, iv_ltF, iv_leT, iv_leF, iv_eqT, iv_eqF, iv_div, rm_iv, tn_iv, ib_iv, some_cb, some_cbv, ↓nm_eq, ↓reduceIte, true_and, and_true, Bool.true_eq_false, Bool.false_eq_true, not_false_eq_true, not_true_eq_false]
                  · rw [if_neg z2]
                    simp -implicitDefEqProofs (disch := omega) only [k_X11_claim_1, k_X11_claim_2, k_X11_claim_3, k_X11_claim_4, k_X11_claim_5, F_f_X11_claim, K3 hF, hcm, hcp, oM_k hM, oM_k hM1, ct, b1, K3 hF1, R3_6 hF1, K16 hF1, b2, K3 hF2, R3_6 hF2, K16 hF2, k1', k2', k3', iv_add, iv_sub, iv_mul, iv_neg, iv_zero, iv_ltT, iv_ltF, iv_leT, iv_leF, iv_eqT, iv_eqF, iv_div, rm_iv, tn_iv, ib_iv, some_cb, some_cbv, ↓nm_eq, ↓reduceIte, true_and, and_true, Bool.true_eq_false, Bool.false_eq_true, not_false_eq_true, not_true_eq_false]
              · have hF3 := hS3.F
                obtain ⟨h4, d1, d2, d3⟩ := (q_goes hS3 hl (iv s) cc0 hg hk cg ck).2 z
                rw [er] at d3
                obtain ⟨u1, u2, u3, u4, u5⟩ := d3
                have hF4 := (hS3.sc d2).F
                have qt := (q_told hS3.Q m1 m2 s1 s2).1 ⟨hl, ht⟩
                have qa := q_isAsked1 hS3.Q c2 hl cc0 hg hk cg ck
                refine ⟨h4, ?_, d2⟩
                by_cases z0 : e ≤ q.1
                · rw [if_pos z0]
                  simp -implicitDefEqProofs (disch := omega) only [k_X12_claim_1, k_X12_claim_2, k_X12_claim_3, k_X12_claim_4, F_f_X12_claim, K91 hF3, qt, qa, q_in1, d1, K91 hF4, u1, u2, u3, iv_add, iv_sub, iv_mul, iv_neg, iv_zero, iv_ltT, iv_ltF, iv_leT, iv_leF, iv_eqT, iv_eqF, iv_div, rm_iv, tn_iv, ib_iv, some_cb, some_cbv, ↓nm_eq, ↓reduceIte, true_and, and_true, Bool.true_eq_false, Bool.false_eq_true, not_false_eq_true, not_true_eq_false]
                · rw [if_neg z0]
                  by_cases z2 : q.2 < e
                  · rw [if_pos z2]
                    simp -implicitDefEqProofs (disch := omega) only [k_X12_claim_1, k_X12_claim_2, k_X12_claim_3, k_X12_claim_4, F_f_X12_claim, K91 hF3, qt, qa, q_in1, d1, K91 hF4, u1, u2, u3, iv_add, iv_sub, iv_mul, iv_neg, iv_zero, iv_ltT, iv_ltF, iv_leT, iv_leF, iv_eqT, iv_eqF, iv_div, rm_iv, tn_iv, ib_iv, some_cb, some_cbv, ↓nm_eq, ↓reduceIte, true_and, and_true, Bool.true_eq_false, Bool.false_eq_true, not_false_eq_true, not_true_eq_false]
                  · rw [if_neg z2]
                    simp -implicitDefEqProofs (disch := omega) only [k_X12_claim_1, k_X12_claim_2, k_X12_claim_3, k_X12_claim_4, F_f_X12_claim, K91 hF3, qt, qa, q_in1, d1, K91 hF4, u1, u2, u3, iv_add, iv_sub, iv_mul, iv_neg, iv_zero, iv_ltT, iv_ltF, iv_leT, iv_leF, iv_eqT, iv_eqF, iv_div, rm_iv, tn_iv, ib_iv, some_cb, some_cbv, ↓nm_eq, ↓reduceIte, true_and, and_true, Bool.true_eq_false, Bool.false_eq_true, not_false_eq_true, not_true_eq_false]
          · rw [z] at b1
            refine Both.scr hS (r := iv (-4)) ⟨h1, ?_, sc1⟩ (fun h3 hS3 => CSm.still hS3 ?_)
            · simp -implicitDefEqProofs (disch := omega) only [k_X11_claim_1, k_X11_claim_2, k_X11_claim_3, k_X11_claim_4, k_X11_claim_5, F_f_X11_claim, K3 hF, hcm, hcp, oM_k hM, ct, b1, iv_add, iv_sub, iv_mul, iv_neg, iv_zero, iv_ltT, iv_ltF, iv_leT, iv_leF, iv_eqT, iv_eqF, iv_div, rm_iv, tn_iv, ib_iv, some_cb, some_cbv, ↓nm_eq, ↓reduceIte, true_and, and_true, Bool.true_eq_false, Bool.false_eq_true, not_false_eq_true, not_true_eq_false]
            · have hF3 := hS3.F
              have d1 := (q_goes hS3 hl (iv s) cc0 hg hk cg ck).1 z
              have qt := (q_told hS3.Q m1 m2 s1 s2).1 ⟨hl, ht⟩
              have qa := q_isAsked1 hS3.Q c2 hl cc0 hg hk cg ck
              simp -implicitDefEqProofs (disch := omega) only [k_X12_claim_1, k_X12_claim_2, k_X12_claim_3, k_X12_claim_4, F_f_X12_claim, K91 hF3, qt, qa, q_in1, d1, iv_add, iv_sub, iv_mul, iv_neg, iv_zero, iv_ltT, iv_ltF, iv_leT, iv_leF, iv_eqT, iv_eqF, iv_div, rm_iv, tn_iv, ib_iv, some_cb, some_cbv, ↓nm_eq, ↓reduceIte, true_and, and_true, Bool.true_eq_false, Bool.false_eq_true, not_false_eq_true, not_true_eq_false]
        · have qt := (q_told hS.Q m1 m2 s1 s2).1 ⟨hl, ht⟩
          exact Both.still hS (r := iv (-1)) (by
            by_cases q : e < 0
            · simp -implicitDefEqProofs (disch := omega) only [k_X11_claim_1, k_X11_claim_2, k_X11_claim_3, k_X11_claim_4, k_X11_claim_5, F_f_X11_claim, K3 hF, hcm, hcp, oM_k hM, ct, iv_add, iv_sub, iv_mul, iv_neg, iv_zero, iv_ltT, iv_ltF, iv_leT, iv_leF, iv_eqT, iv_eqF, iv_div, rm_iv, tn_iv, ib_iv, some_cb, some_cbv, ↓nm_eq, ↓reduceIte, true_and, and_true, Bool.true_eq_false, Bool.false_eq_true, not_false_eq_true, not_true_eq_false]
            · simp -implicitDefEqProofs (disch := omega) only [k_X11_claim_1, k_X11_claim_2, k_X11_claim_3, k_X11_claim_4, k_X11_claim_5, F_f_X11_claim, K3 hF, hcm, hcp, oM_k hM, ct, iv_add, iv_sub, iv_mul, iv_neg, iv_zero, iv_ltT, iv_ltF, iv_leT, iv_leF, iv_eqT, iv_eqF, iv_div, rm_iv, tn_iv, ib_iv, some_cb, some_cbv, ↓nm_eq, ↓reduceIte, true_and, and_true, Bool.true_eq_false, Bool.false_eq_true, not_false_eq_true, not_true_eq_false]) (by simp -implicitDefEqProofs (disch := omega) only [k_X12_claim_1, k_X12_claim_2, k_X12_claim_3, k_X12_claim_4, F_f_X12_claim, K91 hF, qt, hqc, q_in0, iv_add, iv_sub, iv_mul, iv_neg, iv_zero, iv_ltT, iv_ltF, iv_leT, iv_leF, iv_eqT, iv_eqF, iv_div, rm_iv, tn_iv, ib_iv, some_cb, some_cbv, ↓nm_eq, ↓reduceIte, true_and, and_true, Bool.true_eq_false, Bool.false_eq_true, not_false_eq_true, not_true_eq_false])
      · have ct := (c_told hS hl s1 s2).2 ht
        have qt := (q_told hS.Q m1 m2 s1 s2).2 (fun y => ht y.2)
        exact Both.still hS (r := iv (-1)) (by simp -implicitDefEqProofs (disch := omega) only [k_X11_claim_1, k_X11_claim_2, k_X11_claim_3, k_X11_claim_4, k_X11_claim_5, F_f_X11_claim, K3 hF, hcm, hcp, oM_k hM, ct, iv_add, iv_sub, iv_mul, iv_neg, iv_zero, iv_ltT, iv_ltF, iv_leT, iv_leF, iv_eqT, iv_eqF, iv_div, rm_iv, tn_iv, ib_iv, some_cb, some_cbv, ↓nm_eq, ↓reduceIte, true_and, and_true, Bool.true_eq_false, Bool.false_eq_true, not_false_eq_true, not_true_eq_false]) (by simp -implicitDefEqProofs (disch := omega) only [k_X12_claim_1, k_X12_claim_2, k_X12_claim_3, k_X12_claim_4, F_f_X12_claim, K91 hF, qt, iv_add, iv_sub, iv_mul, iv_neg, iv_zero, iv_ltT, iv_ltF, iv_leT, iv_leF, iv_eqT, iv_eqF, iv_div, rm_iv, tn_iv, ib_iv, some_cb, some_cbv, ↓nm_eq, ↓reduceIte, true_and, and_true, Bool.true_eq_false, Bool.false_eq_true, not_false_eq_true, not_true_eq_false])
    · have hcm := c_matterAt1 hF hS.C hS.W m1 m2 hl
      have hcp := c_placeOf0 hS c1 c2 hl hc
      have qa := q_isAsked0 hS.Q m1 m2 c1 c2 (fun q => hc q.2)
      refine Both.still hS (r := iv (-1)) (by simp -implicitDefEqProofs (disch := omega) only [k_X11_claim_1, k_X11_claim_2, k_X11_claim_3, k_X11_claim_4, k_X11_claim_5, F_f_X11_claim, K3 hF, hcm, hcp, iv_add, iv_sub, iv_mul, iv_neg, iv_zero, iv_ltT, iv_ltF, iv_leT, iv_leF, iv_eqT, iv_eqF, iv_div, rm_iv, tn_iv, ib_iv, some_cb, some_cbv, ↓nm_eq, ↓reduceIte, true_and, and_true, Bool.true_eq_false, Bool.false_eq_true, not_false_eq_true, not_true_eq_false]) ?_
      by_cases ht : lvM w m ∧ isT w m s
      · have qt := (q_told hS.Q m1 m2 s1 s2).1 ht
        simp -implicitDefEqProofs (disch := omega) only [k_X12_claim_1, k_X12_claim_2, k_X12_claim_3, k_X12_claim_4, F_f_X12_claim, K91 hF, qt, qa, iv_add, iv_sub, iv_mul, iv_neg, iv_zero, iv_ltT, iv_ltF, iv_leT, iv_leF, iv_eqT, iv_eqF, iv_div, rm_iv, tn_iv, ib_iv, some_cb, some_cbv, ↓nm_eq, ↓reduceIte, true_and, and_true, Bool.true_eq_false, Bool.false_eq_true, not_false_eq_true, not_true_eq_false]
      · have qt := (q_told hS.Q m1 m2 s1 s2).2 ht
        simp -implicitDefEqProofs (disch := omega) only [k_X12_claim_1, k_X12_claim_2, k_X12_claim_3, k_X12_claim_4, F_f_X12_claim, K91 hF, qt, iv_add, iv_sub, iv_mul, iv_neg, iv_zero, iv_ltT, iv_ltF, iv_leT, iv_leF, iv_eqT, iv_eqF, iv_div, rm_iv, tn_iv, ib_iv, some_cb, some_cbv, ↓nm_eq, ↓reduceIte, true_and, and_true, Bool.true_eq_false, Bool.false_eq_true, not_false_eq_true, not_true_eq_false]
  · have hcm := c_matterAt0 hF hS.C hS.W m1 m2 hl
    have qt := (q_told hS.Q m1 m2 s1 s2).2 (fun y => hl y.1)
    exact Both.still hS (r := iv (-1)) (by simp -implicitDefEqProofs (disch := omega) only [k_X11_claim_1, k_X11_claim_2, k_X11_claim_3, k_X11_claim_4, k_X11_claim_5, F_f_X11_claim, K3 hF, hcm, c_placeOfN, iv_add, iv_sub, iv_mul, iv_neg, iv_zero, iv_ltT, iv_ltF, iv_leT, iv_leF, iv_eqT, iv_eqF, iv_div, rm_iv, tn_iv, ib_iv, some_cb, some_cbv, ↓nm_eq, ↓reduceIte, true_and, and_true, Bool.true_eq_false, Bool.false_eq_true, not_false_eq_true, not_true_eq_false]) (by simp -implicitDefEqProofs (disch := omega) only [k_X12_claim_1, k_X12_claim_2, k_X12_claim_3, k_X12_claim_4, F_f_X12_claim, K91 hF, qt, iv_add, iv_sub, iv_mul, iv_neg, iv_zero, iv_ltT, iv_ltF, iv_leT, iv_leF, iv_eqT, iv_eqF, iv_div, rm_iv, tn_iv, ib_iv, some_cb, some_cbv, ↓nm_eq, ↓reduceIte, true_and, and_true, Bool.true_eq_false, Bool.false_eq_true, not_false_eq_true, not_true_eq_false])
end Q
