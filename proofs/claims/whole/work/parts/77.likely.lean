/-! the likeliest table, its weight, and the next weight below -/
def cz (T : List TR) (p : Int) : Int := tcl T (p / 3).toNat (p % 3)
def wtT (w : WD) (m : Int) (T : List TR) : Int := sF (fun p => wW w m p * cz T p) 0 12
abbrev LkS : Type := Int × List TR × Int × Int
def lkS (w : WD) (m : Int) (s : LkS) (T : List TR) : LkS := if wtT w m T = s.1 then s else if s.1 < wtT w m T then (wtT w m T, T, 1, s.1) else if s.2.2.1 = 0 ∨ s.2.2.2 < wtT w m T then (s.1, s.2.1, 1, wtT w m T) else s
def lkF (w : WD) (m : Int) : LkS → List (List TR) → LkS
  | s, [] => s
  | s, T :: l => lkF w m (lkS w m s T) l
def LI (w : WD) (m : Int) (s : LkS) : Prop := (-400000 ≤ s.1 ∧ s.1 ≤ 400000) ∧ (s.2.2.1 = 0 ∨ s.2.2.1 = 1) ∧ (s.2.2.1 = 1 → s.2.2.2 < s.1 ∧ -400000 ≤ s.2.2.2)
section Q
variable {w : WD} {A : Int → Nat} {h hh : AH} {t : Nat} {c : Int → Int}
theorem cz_rng {rs : List Int} {a b c : Int} {T : List TR} (hT : TOk rs a b c T) (p : Int) : 0 ≤ cz T p ∧ cz T p ≤ a + b + c := tcl_rng hT _ _
theorem tcl_two {rs : List Int} {a b c : Int} {T : List TR} (hT : TOk rs a b c T) (hc : c = 0) : ∀ g : Nat, tcl T g 2 = 0 := by
  induction rs generalizing a b c T with
  | nil => obtain ⟨e, -⟩ := hT; subst e; intro g; rfl
  | cons r rs ih =>
    cases T with
    | nil => exact hT.elim
    | cons e T =>
      obtain ⟨p, q, s⟩ := e
      obtain ⟨h1, h2, h3, h4, h5⟩ := hT
      obtain ⟨k1, k2, k3, -⟩ := TOk_rng _ _ _ _ _ h5
      intro g
      cases g with
      | zero => show s = 0; omega
      | succ g => exact ih h5 (by omega) g
theorem tcl_far (T : List TR) {g : Nat} (hg : T.length ≤ g) (k : Int) : tcl T g k = 0 := by
  unfold tcl
  rw [List.getElem?_eq_none hg]
theorem wt_rng (hW : WI w) {m b : Int} (hl : lvM w m) (b0 : 0 ≤ b) (tb : b < wBx w m) {T : List TR} (hT : TOk (bRw w m (12 * m + b)) (wC w (12 * m + b) 0) (wC w (12 * m + b) 1) (wC w (12 * m + b) 2) T) : -400000 ≤ wtT w m T ∧ wtT w m T ≤ 400000 := by
  obtain ⟨-, -, e3, e4, e5, -, -⟩ := box_all hW hl b0 tb
  have hw := (hW.mat hl).2.2.2.2.1
  have key : ∀ p : Int, 0 ≤ p → p < 0 + (12 : Nat) → -29403 ≤ wW w m p * cz T p ∧ wW w m p * cz T p ≤ 29403 := fun p p0 p1 => by
    obtain ⟨u1, u2⟩ := hw p p0 (by omega)
    obtain ⟨c1, c2⟩ := cz_rng hT p
    have a1 : wW w m p * cz T p ≤ 99 * cz T p := Int.mul_le_mul_of_nonneg_right u2 c1
    have a2 : -99 * cz T p ≤ wW w m p * cz T p := Int.mul_le_mul_of_nonneg_right u1 c1
    omega
  have b1 := sF_ge (fun p => wW w m p * cz T p) (-29403) 12 0 (fun p p0 p1 => (key p p0 p1).1)
  have b2 := sF_le (fun p => wW w m p * cz T p) 29403 12 0 (fun p p0 p1 => (key p p0 p1).2)
  unfold wtT
  omega
theorem LI_step (hW : WI w) {m b : Int} (hl : lvM w m) (b0 : 0 ≤ b) (tb : b < wBx w m) {T : List TR} (hT : TOk (bRw w m (12 * m + b)) (wC w (12 * m + b) 0) (wC w (12 * m + b) 1) (wC w (12 * m + b) 2) T) {s : LkS} (H : LI w m s) : LI w m (lkS w m s T) := by
  have hr := wt_rng hW hl b0 tb hT
  obtain ⟨s1, s2, s3, s4⟩ := s
  obtain ⟨⟨h1, h2⟩, h3, h4⟩ := H
  have h1 : -400000 ≤ s1 := h1
  have h2 : s1 ≤ 400000 := h2
  have h3 : s3 = 0 ∨ s3 = 1 := h3
  have h4 : s3 = 1 → s4 < s1 ∧ -400000 ≤ s4 := h4
  unfold lkS
  by_cases z1 : wtT w m T = s1
  · rw [if_pos z1]; exact ⟨⟨h1, h2⟩, h3, h4⟩
  · rw [if_neg z1]
    by_cases z2 : s1 < wtT w m T
    · rw [if_pos z2]; exact ⟨hr, Or.inr rfl, fun _ => ⟨z2, h1⟩⟩
    · rw [if_neg z2]
      by_cases z3 : s3 = 0 ∨ s4 < wtT w m T
      · rw [if_pos z3]; exact ⟨⟨h1, h2⟩, Or.inr rfl, fun _ => ⟨by show wtT w m T < s1; omega, hr.1⟩⟩
      · rw [if_neg z3]; exact ⟨⟨h1, h2⟩, h3, h4⟩
/- a weight, gone through by the class -/
set_option maxRecDepth 100000 in
theorem c_weightOf {T : List TR} (hF : Fix hh) {m : Int} (hM : ObM w A hh m) (hc : Rw hh 75 12 (fun p => cz T p)) : ∀ (n N : Nat), n < N → ∀ (p s : Int), 0 ≤ p → p + n = 12 → lp b_X4_weightOf_4 (fun _ _ _ _ _ => none) N 72 (A m + 3) (iv s) (iv p) hh = some (iv (s + sF (fun p => wW w m p * cz T p) p n), hh) := by
  intro n
  induction n with
  | zero =>
    intro N hN; obtain ⟨N, rfl⟩ : ∃ N', N = N' + 1 := ⟨N - 1, (by omega)⟩
    intro p s p0 hp
    rw [sF_zero, Int.add_zero]
    simp -implicitDefEqProofs (disch := omega) only [lp_succ, F_b_X4_weightOf_4, iv_add, iv_sub, iv_mul, iv_neg, iv_zero, iv_ltT, iv_ltF, iv_leT, iv_leF, iv_eqT, iv_eqF, iv_div, rm_iv, tn_iv, ib_iv, some_cb, some_cbv, ↓nm_eq, ↓reduceIte, true_and, and_true, Bool.true_eq_false, Bool.false_eq_true, not_false_eq_true, not_true_eq_false]
  | succ n ih =>
    intro N hN; obtain ⟨N, rfl⟩ : ∃ N', N = N' + 1 := ⟨N - 1, (by omega)⟩
    intro p s p0 hp
    obtain ⟨q1, q2, -, -, ⟨q5, q6⟩, -⟩ := (show Tt 74 from Or.inr (Or.inl rfl)).ok hF
    have hi := ih N (by omega) (p + 1) (s + wW w m p * cz T p) (by omega) (by omega)
    have h1 := hc p p0 (by omega)
    rw [sF_succ, ← Int.add_assoc, ← hi]
    simp -implicitDefEqProofs (disch := omega) only [lp_succ, F_b_X4_weightOf_4, K72 hF, R72_4 hF, q1, q2, q5, q6, oM_k3 hM, oM_n3 hM, oM_w hM, Nat.reduceAdd, h1, iv_add, iv_sub, iv_mul, iv_neg, iv_zero, iv_ltT, iv_ltF, iv_leT, iv_leF, iv_eqT, iv_eqF, iv_div, rm_iv, tn_iv, ib_iv, some_cb, some_cbv, ↓nm_eq, ↓reduceIte, true_and, and_true, Bool.true_eq_false, Bool.false_eq_true, not_false_eq_true, not_true_eq_false]
set_option maxRecDepth 100000 in
theorem q_weightNow (N0 : NS w A h hh c) {m b : Int} (hl : lvM w m) (b0 : 0 ≤ b) (tb : b < wBx w m) {T : List TR} (hT : TOk (bRw w m (12 * m + b)) (wC w (12 * m + b) 0) (wC w (12 * m + b) 1) (wC w (12 * m + b) 2) T) (hH : HT c (12 * b) T) : f_X12_weightNow 91 (iv (12 * m + b)) hh = some (iv (wtT w m T), hh) := by
  have hS := N0.2.1
  have hF := hS.F
  have hR := hS.R
  obtain ⟨⟨gg1, gg2⟩, ⟨gc1, gc2⟩, ⟨b2, b3⟩, -⟩ := hS.W.mat hl
  obtain ⟨⟨x0, x1⟩, -⟩ := box_ran hS.W hl b0 tb
  obtain ⟨⟨w1, w2⟩, -⟩ := id hS.W
  obtain ⟨l1, l2⟩ := id hl
  have hV := hS.W.box hl b0 tb
  have hx : iv (12 * m + b) / iv 12 = iv m := (by rw [iv_div (by omega) (by omega) (by omega) (by omega)]; congr 1; omega)
  have hxm : rmI (iv (12 * m + b)) (iv 12) = iv b := (by rw [rm_iv (by omega) (by omega) (by omega) (by omega)]; congr 1; omega)
  have hlen := (TOk_rng _ _ _ _ _ hT).2.2.2.2
  unfold bRw at hlen
  rw [rwL_len] at hlen
  have key : ∀ (n N : Nat), n < N → ∀ (p s : Int), 0 ≤ p → p + n = 3 * wGr w m → lp b_X12_weightNow_4 (fun _ _ _ _ _ => none) N 91 (iv (12 * m + b)) (iv s) (iv p) hh = some (iv (s + sF (fun p => wW w m p * cz T p) p n), hh) := by
    intro n
    induction n with
    | zero =>
      intro N hN; obtain ⟨N, rfl⟩ : ∃ N', N = N' + 1 := ⟨N - 1, (by omega)⟩
      intro p s p0 hp
      rw [sF_zero, Int.add_zero]
      simp -implicitDefEqProofs (disch := omega) only [lp_succ, F_b_X12_weightNow_4, K91 hF, R91_1 hF, K92 hF, N92 hF, RR_Gr hR, hx, iv_add, iv_sub, iv_mul, iv_neg, iv_zero, iv_ltT, iv_ltF, iv_leT, iv_leF, iv_eqT, iv_eqF, iv_div, rm_iv, tn_iv, ib_iv, some_cb, some_cbv, ↓nm_eq, ↓reduceIte, true_and, and_true, Bool.true_eq_false, Bool.false_eq_true, not_false_eq_true, not_true_eq_false]
    | succ n ih =>
      intro N hN; obtain ⟨N, rfl⟩ : ∃ N', N = N' + 1 := ⟨N - 1, (by omega)⟩
      intro p s p0 hp
      have hi := ih N (by omega) (p + 1) (s + wW w m p * cz T p) (by omega) (by omega)
      have hcell := HT_cell T (12 * b) (p / 3).toNat (p % 3) hH (by omega) (by omega) (by omega)
      rw [show 12 * b + 3 * ((p / 3).toNat : Int) + p % 3 = 12 * b + p by omega] at hcell
      have hn := N0.2.2 (12 * b + p) (by omega)
      rw [hcell] at hn
      rw [sF_succ, ← Int.add_assoc, ← hi]
      by_cases z : p % 3 < wCh w m
      · have e : wW w m p * cz T p = cz T p * wW w m p := Int.mul_comm _ _
        rw [e]
        unfold cz
        simp -implicitDefEqProofs (disch := omega) only [lp_succ, F_b_X12_weightNow_4, K91 hF, R91_1 hF, K92 hF, N92 hF, RR_Gr hR, R91_2 hF, K93 hF, N93 hF, RR_Ch hR, R91_29 hF, K116 hF, N116 hF, R91_11 hF, K102 hF, N102 hF, RR_W hR, hx, hxm, hn, iv_add, iv_sub, iv_mul, iv_neg, iv_zero, iv_ltT, iv_ltF, iv_leT, iv_leF, iv_eqT, iv_eqF, iv_div, rm_iv, tn_iv, ib_iv, some_cb, some_cbv, ↓nm_eq, ↓reduceIte, true_and, and_true, Bool.true_eq_false, Bool.false_eq_true, not_false_eq_true, not_true_eq_false]
      · have e : wW w m p * cz T p = tcl T (p / 3).toNat (p % 3) * 0 := by
          unfold cz
          rw [show p % 3 = 2 by omega, tcl_two hT (hV.2.2.1 (by omega))]
          omega
        rw [e]
        simp -implicitDefEqProofs (disch := omega) only [lp_succ, F_b_X12_weightNow_4, K91 hF, R91_1 hF, K92 hF, N92 hF, RR_Gr hR, R91_2 hF, K93 hF, N93 hF, RR_Ch hR, R91_29 hF, K116 hF, N116 hF, hx, hxm, hn, iv_add, iv_sub, iv_mul, iv_neg, iv_zero, iv_ltT, iv_ltF, iv_leT, iv_leF, iv_eqT, iv_eqF, iv_div, rm_iv, tn_iv, ib_iv, some_cb, some_cbv, ↓nm_eq, ↓reduceIte, true_and, and_true, Bool.true_eq_false, Bool.false_eq_true, not_false_eq_true, not_true_eq_false]
  have k0 := key (3 * wGr w m).toNat FU (FU_gt (by omega)) 0 0 (by omega) (by omega)
  have e : sF (fun p => wW w m p * cz T p) 0 (3 * wGr w m).toNat = wtT w m T := by
    unfold wtT
    rw [show (12 : Nat) = (3 * wGr w m).toNat + (12 - (3 * wGr w m).toNat) by omega, sF_split, sF_z (12 - (3 * wGr w m).toNat) _ (fun p p0 p1 => by
      show wW w m p * cz T p = 0
      unfold cz
      rw [tcl_far T (by omega), Int.mul_zero])]
    omega
  rw [e, Int.zero_add] at k0
  simp -implicitDefEqProofs (disch := omega) only [F_f_X12_weightNow, f_X12_weightNow_4, k0, iv_add, iv_sub, iv_mul, iv_neg, iv_zero, iv_ltT, iv_ltF, iv_leT, iv_leF, iv_eqT, iv_eqF, iv_div, rm_iv, tn_iv, ib_iv, some_cb, some_cbv, ↓nm_eq, ↓reduceIte, true_and, and_true, Bool.true_eq_false, Bool.false_eq_true, not_false_eq_true, not_true_eq_false]
end Q
