/-! the reference's row of tables in mind: first, next -/
section Q
variable {w : WD} {A : Int → Nat} {h hh : AH} {c : Int → Int} {m : Int} {S : Int32}
def Fq (hh h' : AH) : Prop := ∀ a j : Nat, (a < 116 ∨ 119 < a) → gI h' a j = gI hh a j
theorem Fq.rf (h : AH) : Fq h h := fun _ _ _ => rfl
theorem Fq.tr {h1 h2 h3 : AH} (a : Fq h1 h2) (b : Fq h2 h3) : Fq h1 h3 := fun x j z => (b x j z).trans (a x j z)
theorem NS.put (N : NS w A h hh c) {z : Int} (hz : 0 ≤ z) (v : Int) : NS w A h (sI hh 116 z.toNat (iv v)) (uZ c z v) := by
  obtain ⟨n1, n2, n3⟩ := N
  have k : ∀ i : Nat, ¬ kpI 116 i := fun i => by unfold kpI; omega
  exact ⟨n1.sI (k _), n2.sc ((Sc.rf n2).sI (k _)), n3.up hz⟩
set_option maxRecDepth 100000 in
theorem q_fo16 (hl : lvM w m) {b : Int} (b0 : 0 ≤ b) (tb : b < wBx w m) (o : wO w (12 * m + b) = 1) : ∀ (n L : Nat) (p : Int) (hh : AH) (c : Int → Int), n < L → 0 ≤ p → p + n = 12 → NS w A h hh c → (∀ q : Int, 0 ≤ q → q < p → c (12 * b + q) = wSe w (12 * m + b) q) → ∃ (h' : AH) (c' : Int → Int), lp b_X12_firstOf_16 (fun _ _ _ _ => none) L 91 (iv (12 * m + b)) (iv p) hh = some h' ∧ NS w A h h' c' ∧ (∀ q : Int, 0 ≤ q → q < 12 → c' (12 * b + q) = wSe w (12 * m + b) q) ∧ (∀ i : Int, (i < 12 * b ∨ 12 * b + 12 ≤ i) → c' i = c i) ∧ Fq hh h' := by
  intro n
  induction n with
  | zero =>
    intro L p hh c hL p0 hp N hc
    obtain ⟨L, rfl⟩ : ∃ L', L = L' + 1 := ⟨L - 1, by omega⟩
    exact ⟨hh, c, by simp -implicitDefEqProofs (disch := omega) only [lp_succ, F_b_X12_firstOf_16, iv_add, iv_sub, iv_mul, iv_neg, iv_zero, iv_ltT, iv_ltF, iv_leT, iv_leF, iv_eqT, iv_eqF, iv_div, rm_iv, tn_iv, ib_iv, some_cb, some_cbv, ↓nm_eq, ↓reduceIte, true_and, and_true, Bool.true_eq_false, Bool.false_eq_true, not_false_eq_true, not_true_eq_false], N, fun q q0 q1 => hc q q0 (by omega), fun _ _ => rfl, Fq.rf hh⟩
  | succ n ih =>
    intro L p hh c hL p0 hp N hc
    obtain ⟨L, rfl⟩ : ∃ L', L = L' + 1 := ⟨L - 1, by omega⟩
    have hF := N.2.1.F
    have hR := N.2.1.R
    obtain ⟨⟨x0, x1⟩, -⟩ := box_ran N.2.1.W hl b0 tb
    obtain ⟨-, -, ⟨b2, b3⟩, -⟩ := N.2.1.W.mat hl
    have hxm : rmI (iv (12 * m + b)) (iv 12) = iv b := (by rw [rm_iv (by omega) (by omega) (by omega) (by omega)]; congr 1; omega)
    obtain ⟨h', c', f1, f2, f3, f4, f5⟩ := ih L (p + 1) _ _ (by omega) (by omega) (by omega) (N.put (z := 12 * b + p) (by omega) (wSe w (12 * m + b) p)) (fun q q0 q1 => by
      by_cases e : q = p
      · rw [e, uZ_same]
      · rw [uZ_ne _ (by omega)]; exact hc q q0 (by omega))
    refine ⟨h', c', ?_, f2, f3, fun i hi => by rw [f4 i hi, uZ_ne _ (by omega)], fun a j ha => by rw [f5 a j ha, gI_sIo _ _ (Or.inl (by omega))]⟩
    rw [← f1]
    simp -implicitDefEqProofs (disch := omega) only [lp_succ, F_b_X12_firstOf_16, K91 hF, R91_7 hF, K98 hF, N98 hF, RR_O hR, o, R91_8 hF, K99 hF, N99 hF, RR_Se hR, R91_29 hF, K116 hF, N116 hF, hxm, iv_add, iv_sub, iv_mul, iv_neg, iv_zero, iv_ltT, iv_ltF, iv_leT, iv_leF, iv_eqT, iv_eqF, iv_div, rm_iv, tn_iv, ib_iv, some_cb, some_cbv, ↓nm_eq, ↓reduceIte, true_and, and_true, Bool.true_eq_false, Bool.false_eq_true, not_false_eq_true, not_true_eq_false]
/-- the first table that a box has in mind -/
def hdT (w : WD) (m b : Int) : List TR := if wO w (12 * m + b) = 1 then seT w (12 * m + b) else fst1 (bRw w m (12 * m + b)) (wC w (12 * m + b) 0) (wC w (12 * m + b) 1) (wC w (12 * m + b) 2)
theorem HT_seT {x : Int} {z : Int} (hc : ∀ q : Int, 0 ≤ q → q < 12 → c (z + q) = wSe w x q) : HT c z (seT w x) := by
  have e : ∀ q : Int, 0 ≤ q → q < 12 → ∀ y : Int, y = z + q → c y = wSe w x q := fun q q0 q1 y hy => by rw [hy]; exact hc q q0 q1
  exact ⟨e 0 (by omega) (by omega) _ (by omega), e 1 (by omega) (by omega) _ (by omega), e 2 (by omega) (by omega) _ (by omega), e 3 (by omega) (by omega) _ (by omega), e 4 (by omega) (by omega) _ (by omega), e 5 (by omega) (by omega) _ (by omega), e 6 (by omega) (by omega) _ (by omega), e 7 (by omega) (by omega) _ (by omega), e 8 (by omega) (by omega) _ (by omega), e 9 (by omega) (by omega) _ (by omega), e 10 (by omega) (by omega) _ (by omega), e 11 (by omega) (by omega) _ (by omega), trivial⟩
set_option maxRecDepth 100000 in
theorem q_firstOf (N : NS w A h hh c) (hl : lvM w m) {b : Int} (b0 : 0 ≤ b) (tb : b < wBx w m) : ∃ (h' : AH) (c' : Int → Int), f_X12_firstOf 91 (iv (12 * m + b)) hh = some h' ∧ NS w A h h' c' ∧ HT c' (12 * b) (hdT w m b) ∧ (∀ i : Int, (i < 12 * b ∨ 12 * b + 12 ≤ i) → c' i = c i) ∧ Fq hh h' := by
  have hF := N.2.1.F
  have hR := N.2.1.R
  obtain ⟨⟨x0, x1⟩, -⟩ := box_ran N.2.1.W hl b0 tb
  obtain ⟨-, -, ⟨b2, b3⟩, -⟩ := N.2.1.W.mat hl
  obtain ⟨-, -, -, -, -, wo, -⟩ := N.2.1.W.box hl b0 tb
  rcases wo with o | o
  · obtain ⟨h', c', f1, f2, f3, f4, f5⟩ := q_firstT N hl b0 tb
    have hF' := f2.2.1.F
    have hR' := f2.2.1.R
    refine ⟨h', c', ?_, f2, ?_, f4, fun a j ha => f5 a j (by omega)⟩
    · obtain ⟨FN, hFU⟩ : ∃ N : Nat, FU = N + 1 := ⟨4294967295, rfl⟩
      simp -implicitDefEqProofs (disch := omega) only [F_f_X12_firstOf, k_X12_firstOf_1, f_X12_firstOf_16, hFU, lp_succ, F_b_X12_firstOf_16, K91 hF, R91_7 hF, K98 hF, N98 hF, RR_O hR, o, f1, K91 hF', R91_7 hF', K98 hF', N98 hF', RR_O hR', iv_add, iv_sub, iv_mul, iv_neg, iv_zero, iv_ltT, iv_ltF, iv_leT, iv_leF, iv_eqT, iv_eqF, iv_div, rm_iv, tn_iv, ib_iv, some_cb, some_cbv, ↓nm_eq, ↓reduceIte, true_and, and_true, Bool.true_eq_false, Bool.false_eq_true, not_false_eq_true, not_true_eq_false]
    · unfold hdT; rw [if_neg (by omega)]; exact f3
  · obtain ⟨h', c', f1, f2, f3, f4, f5⟩ := q_fo16 hl b0 tb o 12 FU 0 hh c (FU_gt (by omega)) (by omega) (by omega) N (fun q q0 q1 => by omega)
    refine ⟨h', c', ?_, f2, ?_, f4, f5⟩
    · simp -implicitDefEqProofs (disch := omega) only [F_f_X12_firstOf, f_X12_firstOf_16, K91 hF, R91_7 hF, K98 hF, N98 hF, RR_O hR, o, f1, iv_add, iv_sub, iv_mul, iv_neg, iv_zero, iv_ltT, iv_ltF, iv_leT, iv_leF, iv_eqT, iv_eqF, iv_div, rm_iv, tn_iv, ib_iv, some_cb, some_cbv, ↓nm_eq, ↓reduceIte, true_and, and_true, Bool.true_eq_false, Bool.false_eq_true, not_false_eq_true, not_true_eq_false]
    · unfold hdT; rw [if_pos o]; exact HT_seT f3
/-- the boxes that are named have their tables in mind -/
def RoS (w : WD) (m : Int) (S : Int32) (c : Int → Int) (r : RoT) (n : Int) : Prop := ∀ b : Int, 0 ≤ b → b < n → nb w m S b = true → HT c (12 * b) (r b)
/-- of each box: a table, and those to come -/
def RoL (w : WD) (m : Int) (S : Int32) (r : RoT) (s : Int → List (List TR)) (n : Int) : Prop := ∀ b : Int, 0 ≤ b → b < n → ∃ p, tabS w m S b = p ++ r b :: s b
theorem tabS_hd (hW : WI w) (hl : lvM w m) {b : Int} (b0 : 0 ≤ b) (tb : b < wBx w m) : ∃ t l, tabS w m S b = t :: l ∧ (nb w m S b = true → t = hdT w m b) := by
  obtain ⟨-, -, -, -, -, wo, -⟩ := hW.box hl b0 tb
  cases n : nb w m S b with
  | false => exact ⟨[], [], tabS_n n, fun z => absurd z (by decide)⟩
  | true =>
    rcases wo with o | o
    · obtain ⟨-, hh⟩ := bTb_chain hW hl b0 tb
      rw [tabS_t n o]
      cases e : bTb w m (12 * m + b) with
      | nil => rw [e] at hh; exact absurd hh (by simp)
      | cons t l =>
        rw [e, List.head?_cons] at hh
        refine ⟨t, l, rfl, fun _ => ?_⟩
        unfold hdT; rw [if_neg (by omega)]; exact Option.some.inj hh
    · exact ⟨_, [], tabS_o n o, fun _ => by unfold hdT; rw [if_pos o]⟩
theorem Cs_at {α : Type} (f : α → Option α) (x : α) (l : List α) : ∀ p : List α, Cs f (p ++ x :: l) none → f x = l.head? := by
  intro p
  induction p with
  | nil => intro z; have := z.1; rw [Option.or_none] at this; exact this
  | cons y p ih => exact fun z => ih z.2
theorem len_seT (x : Int) : (seT w x).length = 4 := rfl
theorem tab_len (hW : WI w) (hl : lvM w m) {b : Int} (b0 : 0 ≤ b) (tb : b < wBx w m) {t : List TR} (ht : t ∈ tabS w m S b) (n : nb w m S b = true) : wGr w m ≤ t.length := by
  obtain ⟨⟨g1, g2⟩, -⟩ := hW.mat hl
  obtain ⟨-, -, -, -, -, wo, -⟩ := hW.box hl b0 tb
  rcases wo with o | o
  · rw [tabS_t n o] at ht
    have hlen := (TOk_rng _ _ _ _ _ (bTb_ok w m _ ht)).2.2.2.2
    unfold bRw at hlen
    rw [rwL_len] at hlen
    omega
  · rw [tabS_o n o, List.mem_singleton] at ht
    rw [ht, len_seT]
    omega
theorem HT_same {c' : Int → Int} {r : List TR} {b : Int} (hlen : (r.length : Int) ≤ 4) (he : ∀ i : Int, 12 * b ≤ i → i < 12 * b + 12 → c' i = c i) (H : HT c (12 * b) r) : HT c' (12 * b) r := HT_congr _ _ (fun i i0 i1 => he i i0 (by omega)) H
theorem tab_len4 (hW : WI w) (hl : lvM w m) {b : Int} (b0 : 0 ≤ b) (tb : b < wBx w m) {t : List TR} (ht : t ∈ tabS w m S b) : (t.length : Int) ≤ 4 := by
  obtain ⟨⟨g1, g2⟩, -⟩ := hW.mat hl
  obtain ⟨-, -, -, -, -, wo, -⟩ := hW.box hl b0 tb
  cases n : nb w m S b with
  | false => rw [tabS_n n, List.mem_singleton] at ht; rw [ht]; decide
  | true =>
    rcases wo with o | o
    · rw [tabS_t n o] at ht
      have hlen := (TOk_rng _ _ _ _ _ (bTb_ok w m _ ht)).2.2.2.2
      unfold bRw at hlen
      rw [rwL_len] at hlen
      omega
    · rw [tabS_o n o, List.mem_singleton] at ht
      rw [ht, len_seT]
      omega
end Q
