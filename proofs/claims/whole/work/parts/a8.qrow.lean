/-! the reference: the next row; whether a row keeps what is held -/
def slUp (s : Int → List (List TR)) (b : Int) (l : List (List TR)) : Int → List (List TR) := fun c => if c = b then l else s c
theorem slUp_same (s : Int → List (List TR)) (b : Int) (l : List (List TR)) : slUp s b l b = l := if_pos rfl
theorem slUp_ne (s : Int → List (List TR)) {b c : Int} (l : List (List TR)) (h : c ≠ b) : slUp s b l c = s c := if_neg h
theorem rw_none {tb : Int → List (List TR)} {r : RoT} {s : Int → List (List TR)} {n : Nat} (hs : s n = []) (e : rwRem tb r s n = []) : rwRem tb r s (n + 1) = [] := by
  show _ ++ _ = _
  rw [hs, e]; rfl
theorem rw_adv {tb : Int → List (List TR)} {r : RoT} {s : Int → List (List TR)} {n : Nat} {y : List TR} {l : List (List TR)} (hs : s n = y :: l) : rwCut (rwUp r n y) (n + 1) :: rwRem tb (rwUp r n y) (slUp s n l) (n + 1) = rwRem tb r s (n + 1) := by
  show _ :: (_ ++ _) = _ ++ _
  rw [rwRem_congr (r := r) (s := s) n (fun c _ c1 => ⟨rwUp_ne _ _ (by omega), slUp_ne _ _ (by omega)⟩), hs, slUp_same, ← rwCut_succ, rwUp_same, rwCut_congr (r := r) (r' := rwUp r n y) (fun c _ c1 => rwUp_ne _ _ (by omega))]
  rfl
theorem rw_carry {tb : Int → List (List TR)} {r r' : RoT} {s s' : Int → List (List TR)} {n : Nat} {t : List TR} {l : List (List TR)} (hs : s n = []) (ht : tb n = t :: l) (e : rwCut r' n :: rwRem tb r' s' n = rwRem tb r s n) : rwCut (rwUp r' n t) (n + 1) :: rwRem tb (rwUp r' n t) (slUp s' n l) (n + 1) = rwRem tb r s (n + 1) := by
  show _ :: (_ ++ _) = _ ++ _
  rw [rwRem_congr (r := r') (s := s') n (fun c _ c1 => ⟨rwUp_ne _ _ (by omega), slUp_ne _ _ (by omega)⟩), hs, slUp_same, ← rwCut_succ, rwUp_same, rwCut_congr (r := r') (r' := rwUp r' n t) (fun c _ c1 => rwUp_ne _ _ (by omega)), ← e, List.flatMap_cons, ht]
  rfl
section Q
variable {w : WD} {A : Int → Nat} {h hh : AH} {c : Int → Int} {m : Int} {S N : Int32}
theorem nb_bt (hN : ∀ b : Int, 0 ≤ b → b ≤ 11 → (bt N b ↔ nmB w m S b)) {b : Int} (b0 : 0 ≤ b) (b1 : b ≤ 11) : nb w m S b = true ↔ (N >>> (iv b &&& 31)) &&& iv 1 = iv 1 := by
  rw [nb_t, ← hN b b0 b1]; rfl
set_option maxRecDepth 100000 in
theorem q_nr9 (hl : lvM w m) (hN : ∀ b : Int, 0 ≤ b → b ≤ 11 → (bt N b ↔ nmB w m S b)) : ∀ (n L : Nat) (hh : AH) (c : Int → Int) (r : RoT) (s : Int → List (List TR)), n < L → (n : Int) ≤ wBx w m → NS w A h hh c → RoS w m S c r n → RoL w m S r s n →
    (rwRem (tabS w m S) r s n = [] ∧ ∃ (h' : AH) (c' : Int → Int), lp b_X12_nextRow_9 (fun _ _ _ _ _ => none) L 91 (iv m) N (iv ((n : Int) - 1)) hh = some (iv 0, h') ∧ NS w A h h' c' ∧ Fq hh h') ∨
    (∃ (h' : AH) (c' : Int → Int) (r' : RoT) (s' : Int → List (List TR)), lp b_X12_nextRow_9 (fun _ _ _ _ _ => none) L 91 (iv m) N (iv ((n : Int) - 1)) hh = some (iv 1, h') ∧ NS w A h h' c' ∧ Fq hh h' ∧ RoS w m S c' r' n ∧ RoL w m S r' s' n ∧ rwCut r' n :: rwRem (tabS w m S) r' s' n = rwRem (tabS w m S) r s n ∧ ∀ i : Int, 12 * (n : Int) ≤ i → c' i = c i) := by
  intro n
  induction n with
  | zero =>
    intro L hh c r s hL hn NN _ _
    obtain ⟨L, rfl⟩ : ∃ L', L = L' + 1 := ⟨L - 1, by omega⟩
    refine Or.inl ⟨rfl, hh, c, ?_, NN, Fq.rf hh⟩
    rw [show ((0 : Nat) : Int) - 1 = -1 by omega]
    simp -implicitDefEqProofs (disch := omega) only [lp_succ, F_b_X12_nextRow_9, zret0, iv_add, iv_sub, iv_mul, iv_neg, iv_zero, iv_ltT, iv_ltF, iv_leT, iv_leF, iv_eqT, iv_eqF, iv_div, rm_iv, tn_iv, ib_iv, some_cb, some_cbv, ↓nm_eq, ↓reduceIte, true_and, and_true, Bool.true_eq_false, Bool.false_eq_true, not_false_eq_true, not_true_eq_false]
  | succ n ih =>
    intro L hh c r s hL hn NN hS hRL
    obtain ⟨L, rfl⟩ : ∃ L', L = L' + 1 := ⟨L - 1, by omega⟩
    have hW := NN.2.1.W
    have hF := NN.2.1.F
    have hR := NN.2.1.R
    obtain ⟨⟨w1, w2⟩, -⟩ := id hW
    obtain ⟨l1, l2⟩ := id hl
    obtain ⟨⟨x0, x1⟩, -⟩ := box_ran hW hl (b := n) (by omega) (by omega)
    obtain ⟨-, -, ⟨b2, b3⟩, -⟩ := hW.mat hl
    obtain ⟨-, -, -, -, -, wo, -⟩ := hW.box hl (b := n) (by omega) (by omega)
    obtain ⟨p, hp⟩ := hRL n (by omega) (by omega)
    obtain ⟨t, l, htl, hth⟩ := tabS_hd (S := S) hW hl (b := n) (by omega) (by omega)
    rw [show ((n + 1 : Nat) : Int) - 1 = n by omega]
    have hSn : RoS w m S c r n := fun b b0 b1 => hS b b0 (by omega)
    have hRn : RoL w m S r s n := fun b b0 b1 => hRL b b0 (by omega)
    -- what comes after the box's table is set anew
    have after : ∀ (h1 : AH) (c1 : Int → Int), s n = [] → NS w A h h1 c1 → (nb w m S n = true → HT c1 (12 * n) t) → RoS w m S c1 r n → (∀ i : Int, 12 * ((n + 1 : Nat) : Int) ≤ i → c1 i = c i) → Fq hh h1 → (lp b_X12_nextRow_9 (fun _ _ _ _ _ => none) (L + 1) 91 (iv m) N (iv n) hh = lp b_X12_nextRow_9 (fun _ _ _ _ _ => none) L 91 (iv m) N (iv ((n : Int) - 1)) h1) → (rwRem (tabS w m S) r s (n + 1) = [] ∧ ∃ (h' : AH) (c' : Int → Int), lp b_X12_nextRow_9 (fun _ _ _ _ _ => none) (L + 1) 91 (iv m) N (iv n) hh = some (iv 0, h') ∧ NS w A h h' c' ∧ Fq hh h') ∨
    (∃ (h' : AH) (c' : Int → Int) (r' : RoT) (s' : Int → List (List TR)), lp b_X12_nextRow_9 (fun _ _ _ _ _ => none) (L + 1) 91 (iv m) N (iv n) hh = some (iv 1, h') ∧ NS w A h h' c' ∧ Fq hh h' ∧ RoS w m S c' r' ((n + 1 : Nat) : Int) ∧ RoL w m S r' s' ((n + 1 : Nat) : Int) ∧ rwCut r' (n + 1) :: rwRem (tabS w m S) r' s' (n + 1) = rwRem (tabS w m S) r s (n + 1) ∧ ∀ i : Int, 12 * ((n + 1 : Nat) : Int) ≤ i → c' i = c i) := by
      intro h1 c1 hs N1 hT1 hS1 hc1 f1 el
      rcases ih L h1 c1 r s (by omega) (by omega) N1 hS1 hRn with ⟨e1, h', c', e2, e3, e4⟩ | ⟨h', c', r', s', e2, e3, e4, e5, e6, e7, e8⟩
      · exact Or.inl ⟨rw_none hs e1, h', c', by rw [el, e2], e3, f1.tr e4⟩
      · refine Or.inr ⟨h', c', rwUp r' n t, slUp s' n l, by rw [el, e2], e3, f1.tr e4, fun b b0 b1 y => ?_, fun b b0 b1 => ?_, rw_carry hs htl e7, fun i hi => by rw [e8 i (by omega), hc1 i hi]⟩
        · by_cases e : b = n
          · subst e
            rw [rwUp_same]
            exact HT_same (tab_len4 hW hl (b := n) (by omega) (by omega) (by rw [htl]; exact List.mem_cons_self)) (fun i i0 i1 => e8 i i0) (hT1 y)
          · rw [rwUp_ne _ _ e]; exact e5 b b0 (by omega) y
        · by_cases e : b = n
          · subst e
            rw [rwUp_same, slUp_same]; exact ⟨[], htl⟩
          · rw [rwUp_ne _ _ e, slUp_ne _ _ e]; exact e6 b b0 (by omega)
    cases nm : nb w m S n with
    | false =>
      have z' : ((N >>> (iv n &&& 31)) &&& iv 1 = iv 1) = False := eq_false (fun y => by rw [← nb_bt hN (b := n) (by omega) (by omega), nm] at y; exact absurd y (by decide))
      have hs : s n = [] := by
        rw [tabS_n nm] at hp
        cases p with
        | nil => rw [List.nil_append] at hp; injection hp with h1 h2; exact h2.symm
        | cons a p => injection hp with h1 h2; exact absurd h2.symm (by simp)
      refine after hh c hs NN (fun y => by rw [nm] at y; exact absurd y (by decide)) hSn (fun _ _ => rfl) (Fq.rf hh) ?_
      rw [show (n : Int) - 1 = (n : Int) + -1 by omega]
      simp -implicitDefEqProofs (disch := omega) only [lp_succ, F_b_X12_nextRow_9, z', iv_add, iv_sub, iv_mul, iv_neg, iv_zero, iv_ltT, iv_ltF, iv_leT, iv_leF, iv_eqT, iv_eqF, iv_div, rm_iv, tn_iv, ib_iv, some_cb, some_cbv, ↓nm_eq, ↓reduceIte, true_and, and_true, Bool.true_eq_false, Bool.false_eq_true, not_false_eq_true, not_true_eq_false]
    | true =>
      have z' : ((N >>> (iv n &&& 31)) &&& iv 1 = iv 1) = True := eq_true ((nb_bt hN (b := n) (by omega) (by omega)).1 nm)
      rcases wo with o | o
      · have hp' := hp
        rw [tabS_t nm o] at hp'
        have hT := bTb_ok w m (12 * m + n) (t := r n) (by rw [hp']; simp)
        have hx := q_nextT NN hl (b := n) (by omega) (by omega) hT (hS n (by omega) (by omega) nm)
        have hCs := (bTb_chain hW hl (b := n) (by omega) (by omega)).1
        rw [hp'] at hCs
        rw [Cs_at _ _ _ _ hCs] at hx
        cases hs : s n with
        | nil =>
          rw [hs] at hx
          obtain ⟨h1, e1, N1, f1⟩ := hx
          have hF1 := N1.2.1.F
          obtain ⟨h2, c2, e2, N2, T2, o2, f2⟩ := q_firstOf N1 hl (b := n) (by omega) (by omega)
          refine after h2 c2 hs N2 (fun y => by rw [hth y]; exact T2) (fun b b0 b1 y => ?_) (fun i hi => o2 i (by omega)) (fun a j ha => by rw [f2 a j ha, f1 a j ha]) ?_
          · obtain ⟨p', hp'⟩ := hRn b b0 b1
            exact HT_same (tab_len4 hW hl b0 (by omega) (by rw [hp']; simp)) (fun i i0 i1 => o2 i (by omega)) (hSn b b0 b1 y)
          · rw [show (n : Int) - 1 = (n : Int) + -1 by omega]
            simp -implicitDefEqProofs (disch := omega) only [lp_succ, F_b_X12_nextRow_9, k_X12_nextRow_9_1, F_f_X12_nextRow_51, k_X12_nextRow_51_1, K91 hF, R91_7 hF, K98 hF, N98 hF, RR_O hR, o, e1, K91 hF1, e2, z', iv_add, iv_sub, iv_mul, iv_neg, iv_zero, iv_ltT, iv_ltF, iv_leT, iv_leF, iv_eqT, iv_eqF, iv_div, rm_iv, tn_iv, ib_iv, some_cb, some_cbv, ↓nm_eq, ↓reduceIte, true_and, and_true, Bool.true_eq_false, Bool.false_eq_true, not_false_eq_true, not_true_eq_false]
        | cons y l' =>
          rw [hs] at hx
          obtain ⟨h1, c1, e1, N1, T1, o1, f1⟩ := hx
          refine Or.inr ⟨h1, c1, rwUp r n y, slUp s n l', ?_, N1, f1, fun b b0 b1 yy => ?_, fun b b0 b1 => ?_, rw_adv hs, fun i hi => o1 i (by omega)⟩
          · simp -implicitDefEqProofs (disch := omega) only [lp_succ, F_b_X12_nextRow_9, k_X12_nextRow_9_1, K91 hF, R91_7 hF, K98 hF, N98 hF, RR_O hR, o, e1, z', zret1, iv_add, iv_sub, iv_mul, iv_neg, iv_zero, iv_ltT, iv_ltF, iv_leT, iv_leF, iv_eqT, iv_eqF, iv_div, rm_iv, tn_iv, ib_iv, some_cb, some_cbv, ↓nm_eq, ↓reduceIte, true_and, and_true, Bool.true_eq_false, Bool.false_eq_true, not_false_eq_true, not_true_eq_false]
          · by_cases e : b = n
            · subst e; rw [rwUp_same]; exact T1
            · rw [rwUp_ne _ _ e]
              obtain ⟨p', hp'⟩ := hRn b b0 (by omega)
              exact HT_same (tab_len4 hW hl b0 (by omega) (by rw [hp']; simp)) (fun i i0 i1 => o1 i (by omega)) (hSn b b0 (by omega) yy)
          · by_cases e : b = n
            · subst e
              rw [rwUp_same, slUp_same]; exact ⟨p ++ [r n], by rw [hp, hs]; simp⟩
            · rw [rwUp_ne _ _ e, slUp_ne _ _ e]; exact hRn b b0 (by omega)
      · have hs : s n = [] := by
          rw [tabS_o nm o] at hp
          cases p with
          | nil => rw [List.nil_append] at hp; injection hp with h1 h2; exact h2.symm
          | cons a p => injection hp with h1 h2; exact absurd h2.symm (by simp)
        obtain ⟨h2, c2, e2, N2, T2, o2, f2⟩ := q_firstOf NN hl (b := n) (by omega) (by omega)
        refine after h2 c2 hs N2 (fun y => by rw [hth y]; exact T2) (fun b b0 b1 y => ?_) (fun i hi => o2 i (by omega)) f2 ?_
        · obtain ⟨p', hp'⟩ := hRn b b0 b1
          exact HT_same (tab_len4 hW hl b0 (by omega) (by rw [hp']; simp)) (fun i i0 i1 => o2 i (by omega)) (hSn b b0 b1 y)
        · rw [show (n : Int) - 1 = (n : Int) + -1 by omega]
          simp -implicitDefEqProofs (disch := omega) only [lp_succ, F_b_X12_nextRow_9, F_f_X12_nextRow_51, k_X12_nextRow_51_1, K91 hF, R91_7 hF, K98 hF, N98 hF, RR_O hR, o, e2, z', iv_add, iv_sub, iv_mul, iv_neg, iv_zero, iv_ltT, iv_ltF, iv_leT, iv_leF, iv_eqT, iv_eqF, iv_div, rm_iv, tn_iv, ib_iv, some_cb, some_cbv, ↓nm_eq, ↓reduceIte, true_and, and_true, Bool.true_eq_false, Bool.false_eq_true, not_false_eq_true, not_true_eq_false]
/-- a row whose tables are the boxes' -/
def RoV (w : WD) (m : Int) (S : Int32) (r : RoT) : Prop := ∀ b : Int, 0 ≤ b → b < wBx w m → r b ∈ tabS w m S b
theorem tab_cell (hW : WI w) (hl : lvM w m) {b : Int} (b0 : 0 ≤ b) (tb : b < wBx w m) {t : List TR} (ht : t ∈ tabS w m S b) (n : nb w m S b = true) {g k : Int} (g0 : 0 ≤ g) (g1 : g < wGr w m) (k0 : 0 ≤ k) (k1 : k < 3) : 0 ≤ tcl t g.toNat k ∧ tcl t g.toNat k ≤ 297 := by
  obtain ⟨⟨gg1, gg2⟩, -⟩ := hW.mat hl
  obtain ⟨-, -, -, -, -, wo, ws, -⟩ := hW.box hl b0 tb
  rcases wo with o | o
  · rw [tabS_t n o] at ht
    have := tcl_rng (bTb_ok w m _ ht) g.toNat k
    obtain ⟨-, -, c0, c1, c2, -⟩ := box_all hW hl b0 tb
    omega
  · rw [tabS_o n o, List.mem_singleton] at ht
    rw [ht, tcl_seT _ g0 (by omega) k0 k1]
    have := ws o (3 * g + k) (by omega) (by omega)
    omega
set_option maxRecDepth 100000 in
theorem q_rcell (NN : NS w A h hh c) (hl : lvM w m) {r : RoT} (hV : RoV w m S r) (hS : RoS w m S c r (wBx w m)) {b x g k : Int} (b0 : 0 ≤ b) (tb : b < wBx w m) (n : nb w m S b = true) (x0 : 0 ≤ x) (hg : x / 10 = g) (hk : x % 10 = k) (g1 : g < wGr w m) (k1 : k < wCh w m) : f_X12_nowAt 91 (iv b) (iv x) hh = some (iv (tcl (r b) g.toNat k), hh) ∧ 0 ≤ tcl (r b) g.toNat k ∧ tcl (r b) g.toNat k ≤ 297 := by
  have hW := NN.2.1.W
  obtain ⟨⟨gg1, gg2⟩, ⟨gc1, gc2⟩, ⟨b2, b3⟩, -⟩ := hW.mat hl
  have hlen := tab_len hW hl b0 tb (hV b b0 tb) n
  have e := HT_cell (r b) (12 * b) g.toNat k (hS b b0 tb n) (by omega) (by omega) (by omega)
  rw [show 12 * b + 3 * (g.toNat : Int) + k = 12 * b + 3 * g + k by omega] at e
  have e2 := q_nowAt NN (b := b) (x := x) b0 (by omega) x0 (by omega) hg hk (by omega) (by omega)
  rw [e] at e2
  exact ⟨e2, tab_cell hW hl b0 tb (hV b b0 tb) n (by omega) g1 (by omega) (by omega)⟩
end Q
