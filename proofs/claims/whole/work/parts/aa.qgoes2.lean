/-! the reference goes through the rows of a set: the loops -/
def acN (lo hi : Int) : Option (Int × Int) → Option (Int × Int)
  | none => some (lo, hi)
  | some q => some (min lo q.1, max hi q.2)
theorem acF_yN {lo hi : RoT → Int} {K : RoT → Prop} {o : Option (Int × Int)} {r : RoT} (y : K r) : acF lo hi K o r = acN (lo r) (hi r) o := by
  rw [acF_y y]
  cases o <;> rfl
section Q
variable {w : WD} {A : Int → Nat} {h hh : AH} {c : Int → Int} {m : Int} {S N : Int32}
def AqQ (h : AH) : Option (Int × Int) → Prop
  | none => gI h 91 33 = iv 0
  | some q => gI h 91 33 = iv 1 ∧ gI h 91 34 = iv q.1 ∧ gI h 91 35 = iv q.2 ∧ (0 ≤ q.1 ∧ q.1 ≤ 10000) ∧ 0 ≤ q.2 ∧ q.2 ≤ 10000
def AcU (h : AH) (a b : Int) : AH := sI (sI (sI h 91 34 (iv a)) 91 35 (iv b)) 91 33 (iv 1)
theorem AqQ.fq {h1 h2 : AH} {o : Option (Int × Int)} (H : AqQ h1 o) (f : Fq h1 h2) : AqQ h2 o := by
  cases o with
  | none => show gI h2 91 33 = _; rw [f 91 33 (by omega)]; exact H
  | some q => obtain ⟨a1, a2, a3, a4⟩ := H; exact ⟨by rw [f 91 33 (by omega)]; exact a1, by rw [f 91 34 (by omega)]; exact a2, by rw [f 91 35 (by omega)]; exact a3, a4⟩
theorem AqQ.up (h : AH) {a b : Int} (ha : 0 ≤ a ∧ a ≤ 10000) (hb : 0 ≤ b ∧ b ≤ 10000) : AqQ (AcU h a b) (some (a, b)) := by
  refine ⟨gI_sIs _ _ _ _, ?_, ?_, ha, hb⟩
  · unfold AcU; rw [gI_sIo _ _ (Or.inr (by omega)), gI_sIo _ _ (Or.inr (by omega)), gI_sIs]
  · unfold AcU; rw [gI_sIo _ _ (Or.inr (by omega)), gI_sIs]
theorem NS.s9k (N : NS w A h hh c) {i : Nat} (v : Int32) (hi : i = 33 ∨ i = 34 ∨ i = 35) : NS w A h (sI hh 91 i v) c := by
  obtain ⟨n1, n2, n3⟩ := N
  have k : ¬ kpI 91 i := by unfold kpI; omega
  exact ⟨n1.sI k, n2.sc ((Sc.rf n2).sI k), fun z z0 => by rw [gI_sIo _ _ (Or.inl (by omega))]; exact n3 z z0⟩
theorem NS.acU (N : NS w A h hh c) (a b : Int) : NS w A h (AcU hh a b) c := ((N.s9k _ (by omega)).s9k _ (by omega)).s9k _ (by omega)
theorem bo1 : (iv 1 = 0 ∨ iv 1 = 1) = True := eq_true (Or.inr rfl)
theorem bo0 : (iv 0 = 0 ∨ iv 0 = 1) = True := eq_true (Or.inl rfl)
set_option maxRecDepth 100000 in
theorem q_upd (hF : Fix hh) (hR : RR w hh) (hW : WI w) (hl : lvM w m) (K : Nat → Int32 → Int32 → Int32 → Int32 → Int32 → Int32 → Int32 → AH → Option (Int32 × AH)) (self : Nat → Int32 → Int32 → Int32 → Int32 → Int32 → Int32 → Int32 → Int32 → AH → Option (Int32 × AH)) {o : Option (Int × Int)} (H : AqQ hh o) {lo hi n : Int} (l0 : 0 ≤ lo ∧ lo ≤ 2000) (h0 : 0 ≤ hi ∧ hi ≤ 2000) (n0 : 0 ≤ n ∧ n ≤ 4000) (cc : Int32) : ∃ a b : Int, acN (lo + n) (hi + n) o = some (a, b) ∧ (0 ≤ a ∧ a ≤ 10000) ∧ (0 ≤ b ∧ b ≤ 10000) ∧ b_X12_goes_133 K self 91 (iv m) S cc N (iv lo) (iv hi) (iv n) (iv (wBx w m)) hh = f_X12_goes_252 K 91 (iv m) S cc N (iv lo) (iv hi) (AcU hh a b) := by
  obtain ⟨⟨w1, w2⟩, -⟩ := id hW
  obtain ⟨l1, l2⟩ := id hl
  obtain ⟨-, -, ⟨b2, b3⟩, -⟩ := hW.mat hl
  have o1 : ∀ (x : Int32), gI (sI hh 91 34 x) 91 33 = gI hh 91 33 := fun x => gI_sIo _ _ (Or.inr (by omega))
  have o2 : ∀ (x : Int32), gI (sI hh 91 34 x) 91 35 = gI hh 91 35 := fun x => gI_sIo _ _ (Or.inr (by omega))
  cases o with
  | none =>
    have H : gI hh 91 33 = iv 0 := H
    refine ⟨lo + n, hi + n, rfl, by omega, by omega, ?_⟩
    simp -implicitDefEqProofs (disch := omega) only [F_b_X12_goes_133, F_f_X12_goes_209, F_f_X12_goes_232, K91 hF, R91_3 hF, K94 hF, N94 hF, RR_Bx hR, H, o1, gK_sI, bo1, iv_add, iv_sub, iv_mul, iv_neg, iv_zero, iv_ltT, iv_ltF, iv_leT, iv_leF, iv_eqT, iv_eqF, iv_div, rm_iv, tn_iv, ib_iv, some_cb, some_cbv, ↓nm_eq, ↓reduceIte, true_and, and_true, Bool.true_eq_false, Bool.false_eq_true, not_false_eq_true, not_true_eq_false]
    rfl
  | some q =>
    obtain ⟨H1, H2, H3, H4, H5⟩ := H
    by_cases z1 : q.1 ≤ lo + n
    · by_cases z2 : hi + n ≤ q.2
      · refine ⟨q.1, q.2, ?_, H4, H5, ?_⟩
        · show some (min _ _, max _ _) = _
          rw [Int.min_eq_right z1, Int.max_eq_right z2]
        · simp -implicitDefEqProofs (disch := omega) only [F_b_X12_goes_133, F_f_X12_goes_209, F_f_X12_goes_232, K91 hF, R91_3 hF, K94 hF, N94 hF, RR_Bx hR, H1, H2, H3, o1, o2, gK_sI, bo1, iv_add, iv_sub, iv_mul, iv_neg, iv_zero, iv_ltT, iv_ltF, iv_leT, iv_leF, iv_eqT, iv_eqF, iv_div, rm_iv, tn_iv, ib_iv, some_cb, some_cbv, ↓nm_eq, ↓reduceIte, true_and, and_true, Bool.true_eq_false, Bool.false_eq_true, not_false_eq_true, not_true_eq_false]
          rfl
      · refine ⟨q.1, hi + n, ?_, H4, by omega, ?_⟩
        · show some (min _ _, max _ _) = _
          rw [Int.min_eq_right z1, Int.max_eq_left (by omega)]
        · simp -implicitDefEqProofs (disch := omega) only [F_b_X12_goes_133, F_f_X12_goes_209, F_f_X12_goes_232, K91 hF, R91_3 hF, K94 hF, N94 hF, RR_Bx hR, H1, H2, H3, o1, o2, gK_sI, bo1, iv_add, iv_sub, iv_mul, iv_neg, iv_zero, iv_ltT, iv_ltF, iv_leT, iv_leF, iv_eqT, iv_eqF, iv_div, rm_iv, tn_iv, ib_iv, some_cb, some_cbv, ↓nm_eq, ↓reduceIte, true_and, and_true, Bool.true_eq_false, Bool.false_eq_true, not_false_eq_true, not_true_eq_false]
          rfl
    · by_cases z2 : hi + n ≤ q.2
      · refine ⟨lo + n, q.2, ?_, by omega, H5, ?_⟩
        · show some (min _ _, max _ _) = _
          rw [Int.min_eq_left (by omega), Int.max_eq_right z2]
        · simp -implicitDefEqProofs (disch := omega) only [F_b_X12_goes_133, F_f_X12_goes_209, F_f_X12_goes_232, K91 hF, R91_3 hF, K94 hF, N94 hF, RR_Bx hR, H1, H2, H3, o1, o2, gK_sI, bo1, iv_add, iv_sub, iv_mul, iv_neg, iv_zero, iv_ltT, iv_ltF, iv_leT, iv_leF, iv_eqT, iv_eqF, iv_div, rm_iv, tn_iv, ib_iv, some_cb, some_cbv, ↓nm_eq, ↓reduceIte, true_and, and_true, Bool.true_eq_false, Bool.false_eq_true, not_false_eq_true, not_true_eq_false]
          rfl
      · refine ⟨lo + n, hi + n, ?_, by omega, by omega, ?_⟩
        · show some (min _ _, max _ _) = _
          rw [Int.min_eq_left (by omega), Int.max_eq_left (by omega)]
        · simp -implicitDefEqProofs (disch := omega) only [F_b_X12_goes_133, F_f_X12_goes_209, F_f_X12_goes_232, K91 hF, R91_3 hF, K94 hF, N94 hF, RR_Bx hR, H1, H2, H3, o1, o2, gK_sI, bo1, iv_add, iv_sub, iv_mul, iv_neg, iv_zero, iv_ltT, iv_ltF, iv_leT, iv_leF, iv_eqT, iv_eqF, iv_div, rm_iv, tn_iv, ib_iv, some_cb, some_cbv, ↓nm_eq, ↓reduceIte, true_and, and_true, Bool.true_eq_false, Bool.false_eq_true, not_false_eq_true, not_true_eq_false]
          rfl
set_option maxRecDepth 100000 in
theorem q_lp133 (NN : NS w A h hh c) (hl : lvM w m) {r : RoT} (hV : RoV w m S r) (hS : RoS w m S c r (wBx w m)) (hN : ∀ b : Int, 0 ≤ b → b ≤ 11 → (bt N b ↔ nmB w m S b)) {cc g k : Int} (c0 : 0 ≤ cc) (eg : cc / 10 = g) (ek : cc % 10 = k) (cg : g < wGr w m) (ck : k < wCh w m) {lo hi : Int} (l0 : 0 ≤ lo ∧ lo ≤ 2000) (h0 : 0 ≤ hi ∧ hi ≤ 2000) {o : Option (Int × Int)} (H : AqQ hh o) (K : Nat → Int32 → Int32 → Int32 → Int32 → Int32 → Int32 → Int32 → AH → Option (Int32 × AH)) : ∀ (n L : Nat) (j : Nat), n < L → ((j + n : Nat) : Int) = wBx w m → ∃ a b : Int, acN (lo + nmS w m S g k r (wBx w m).toNat) (hi + nmS w m S g k r (wBx w m).toNat) o = some (a, b) ∧ (0 ≤ a ∧ a ≤ 10000) ∧ (0 ≤ b ∧ b ≤ 10000) ∧ lp (b_X12_goes_133 K) (fun _ _ _ _ _ _ _ _ _ _ => none) L 91 (iv m) S (iv cc) N (iv lo) (iv hi) (iv (nmS w m S g k r j)) (iv j) hh = f_X12_goes_252 K 91 (iv m) S (iv cc) N (iv lo) (iv hi) (AcU hh a b) := by
  have hW := NN.2.1.W
  have hF := NN.2.1.F
  have hR := NN.2.1.R
  obtain ⟨⟨w1, w2⟩, -⟩ := id hW
  obtain ⟨l1, l2⟩ := id hl
  obtain ⟨-, -, ⟨b2, b3⟩, -⟩ := hW.mat hl
  intro n
  induction n with
  | zero =>
    intro L j hL hj
    obtain ⟨L, rfl⟩ : ∃ L', L = L' + 1 := ⟨L - 1, by omega⟩
    have rn := nm_rng hW hl hV (g := g) (k := k) (by omega) cg (by omega) ck j (by omega)
    obtain ⟨a, b, e1, e2, e3, e4⟩ := q_upd (S := S) (N := N) hF hR hW hl K (lp (b_X12_goes_133 K) (fun _ _ _ _ _ _ _ _ _ _ => none) L) H l0 h0 (n := nmS w m S g k r j) (by omega) (iv cc)
    refine ⟨a, b, ?_, e2, e3, ?_⟩
    · rw [← e1, show (wBx w m).toNat = j by omega]
    · rw [← e4, lp_succ, show (j : Int) = wBx w m by omega]
  | succ n ih =>
    intro L j hL hj
    obtain ⟨L, rfl⟩ : ∃ L', L = L' + 1 := ⟨L - 1, by omega⟩
    have rn := nm_rng hW hl hV (g := g) (k := k) (by omega) cg (by omega) ck j (by omega)
    obtain ⟨a, b, e1, e2, e3, e4⟩ := ih L (j + 1) (by omega) (by omega)
    refine ⟨a, b, e1, e2, e3, ?_⟩
    rw [← e4]
    have hs : nmS w m S g k r (j + 1) = nmS w m S g k r j + if nb w m S j = true then tcl (r j) g.toNat k else 0 := rfl
    rw [hs, show ((j + 1 : Nat) : Int) = (j : Int) + 1 by omega]
    by_cases z : nb w m S j = true
    · have z' : ((N >>> (iv j &&& 31)) &&& iv 1 = iv 1) = True := eq_true ((nb_bt hN (b := j) (by omega) (by omega)).1 z)
      obtain ⟨f1, f2, f3⟩ := q_rcell NN hl hV hS (b := j) (by omega) (by omega) z c0 eg ek cg ck
      rw [if_pos z]
      simp -implicitDefEqProofs (disch := omega) only [lp_succ, F_b_X12_goes_133, k_X12_goes_133_1, K91 hF, R91_3 hF, K94 hF, N94 hF, RR_Bx hR, z', f1, iv_add, iv_sub, iv_mul, iv_neg, iv_zero, iv_ltT, iv_ltF, iv_leT, iv_leF, iv_eqT, iv_eqF, iv_div, rm_iv, tn_iv, ib_iv, some_cb, some_cbv, ↓nm_eq, ↓reduceIte, true_and, and_true, Bool.true_eq_false, Bool.false_eq_true, not_false_eq_true, not_true_eq_false]
    · have z' : ((N >>> (iv j &&& 31)) &&& iv 1 = iv 1) = False := eq_false (fun y => z ((nb_bt hN (b := j) (by omega) (by omega)).2 y))
      rw [if_neg z]
      simp -implicitDefEqProofs (disch := omega) only [lp_succ, F_b_X12_goes_133, k_X12_goes_133_1, K91 hF, R91_3 hF, K94 hF, N94 hF, RR_Bx hR, z', iv_add, iv_sub, iv_mul, iv_neg, iv_zero, iv_ltT, iv_ltF, iv_leT, iv_leF, iv_eqT, iv_eqF, iv_div, rm_iv, tn_iv, ib_iv, some_cb, some_cbv, ↓nm_eq, ↓reduceIte, true_and, and_true, Bool.true_eq_false, Bool.false_eq_true, not_false_eq_true, not_true_eq_false]
theorem rV (hl : lvM w m) {r : RoT} {s : Int → List (List TR)} (hRL : RoL w m S r s (wBx w m)) : RoV w m S (rwCut r (wBx w m).toNat) := fun b b0 b1 => by
  obtain ⟨p, hp⟩ := hRL b b0 b1
  rw [rwCut_at _ b0 (by omega), hp]
  simp
theorem rS {r : RoT} (hS : RoS w m S c r (wBx w m)) : RoS w m S c (rwCut r (wBx w m).toNat) (wBx w m) := fun b b0 b1 y => by
  rw [rwCut_at _ b0 (by omega)]
  exact hS b b0 b1 y
set_option maxRecDepth 100000 in
theorem q_pre (NN : NS w A h hh c) (hl : lvM w m) (hN : ∀ b : Int, 0 ≤ b → b ≤ 11 → (bt N b ↔ nmB w m S b)) {cc g k : Int} (c0 : 0 ≤ cc) (eg : cc / 10 = g) (ek : cc % 10 = k) (cg : g < wGr w m) (ck : k < wCh w m) {r : RoT} {s : Int → List (List TR)} {o : Option (Int × Int)} (hS : RoS w m S c r (wBx w m)) (hRL : RoL w m S r s (wBx w m)) (H : AqQ hh o) (L : Nat) : ∃ h1 : AH, lp b_X12_goes_113 (fun _ _ _ _ _ _ _ _ _ => none) (L + 1) 91 (iv m) S (iv cc) N (iv (loU w m S g k (wBx w m).toNat)) (iv (hiU w m S g k (wBx w m).toNat)) (iv 1) hh = f_X12_goes_252 (lp b_X12_goes_113 (fun _ _ _ _ _ _ _ _ _ => none) L) 91 (iv m) S (iv cc) N (iv (loU w m S g k (wBx w m).toNat)) (iv (hiU w m S g k (wBx w m).toNat)) h1 ∧ NS w A h h1 c ∧ AqQ h1 (acF (loR w m S g k) (hiR w m S g k) (kep w m S) o (rwCut r (wBx w m).toNat)) := by
  have hW := NN.2.1.W
  have hF := NN.2.1.F
  obtain ⟨-, -, ⟨b2, b3⟩, -⟩ := hW.mat hl
  have hV := rV hl hRL
  have hS' := rS hS
  obtain ⟨q1, q2⟩ := q_areHeld NN hl hV hS'
  obtain ⟨⟨u1, u2⟩, u3, u4⟩ := un_rng (S := S) hW hl (g := g) (k := k) (by omega) cg (by omega) ck (wBx w m).toNat (by omega)
  by_cases z : kep w m S (rwCut r (wBx w m).toNat)
  · obtain ⟨a, b, e1, e2, e3, e4⟩ := q_lp133 NN hl hV hS' hN c0 eg ek cg ck (lo := loU w m S g k (wBx w m).toNat) (hi := hiU w m S g k (wBx w m).toNat) (by omega) (by omega) H (lp b_X12_goes_113 (fun _ _ _ _ _ _ _ _ _ => none) L) (wBx w m).toNat FU 0 (FU_gt (by omega)) (by omega)
    have q1 := q1 z
    refine ⟨AcU hh a b, ?_, NN.acU a b, ?_⟩
    · rw [← e4]
      simp -implicitDefEqProofs (disch := omega) only [lp_succ, F_b_X12_goes_113, k_X12_goes_113_1, f_X12_goes_133, K91 hF, q1, iv_add, iv_sub, iv_mul, iv_neg, iv_zero, iv_ltT, iv_ltF, iv_leT, iv_leF, iv_eqT, iv_eqF, iv_div, rm_iv, tn_iv, ib_iv, some_cb, some_cbv, ↓nm_eq, ↓reduceIte, true_and, and_true, Bool.true_eq_false, Bool.false_eq_true, not_false_eq_true, not_true_eq_false]
      rfl
    · rw [acF_yN z]
      have : acN (loR w m S g k (rwCut r (wBx w m).toNat)) (hiR w m S g k (rwCut r (wBx w m).toNat)) o = some (a, b) := e1
      rw [this]
      exact AqQ.up hh e2 e3
  · have q2 := q2 z
    refine ⟨hh, ?_, NN, ?_⟩
    · simp -implicitDefEqProofs (disch := omega) only [lp_succ, F_b_X12_goes_113, k_X12_goes_113_1, f_X12_goes_133, K91 hF, q2, iv_add, iv_sub, iv_mul, iv_neg, iv_zero, iv_ltT, iv_ltF, iv_leT, iv_leF, iv_eqT, iv_eqF, iv_div, rm_iv, tn_iv, ib_iv, some_cb, some_cbv, ↓nm_eq, ↓reduceIte, true_and, and_true, Bool.true_eq_false, Bool.false_eq_true, not_false_eq_true, not_true_eq_false]
    · rw [acF_n z]; exact H
set_option maxRecDepth 100000 in
theorem q_lp113 (hl : lvM w m) (hN : ∀ b : Int, 0 ≤ b → b ≤ 11 → (bt N b ↔ nmB w m S b)) {cc g k : Int} (c0 : 0 ≤ cc) (eg : cc / 10 = g) (ek : cc % 10 = k) (cg : g < wGr w m) (ck : k < wCh w m) : ∀ (R : List RoT) (L : Nat) (hh : AH) (c : Int → Int) (r : RoT) (s : Int → List (List TR)) (o : Option (Int × Int)), R.length + 1 < L → rwRem (tabS w m S) r s (wBx w m).toNat = R → NS w A h hh c → RoS w m S c r (wBx w m) → RoL w m S r s (wBx w m) → AqQ hh o → ∃ (h' : AH) (c' : Int → Int), lp b_X12_goes_113 (fun _ _ _ _ _ _ _ _ _ => none) L 91 (iv m) S (iv cc) N (iv (loU w m S g k (wBx w m).toNat)) (iv (hiU w m S g k (wBx w m).toNat)) (iv 1) hh = some (iv 1, h') ∧ NS w A h h' c' ∧ AqQ h' ((rwCut r (wBx w m).toNat :: R).foldl (acF (loR w m S g k) (hiR w m S g k) (kep w m S)) o) := by
  intro R
  induction R with
  | nil =>
    intro L hh c r s o hL hR NN hS hRL H
    obtain ⟨L, rfl⟩ : ∃ L', L = L' + 1 + 1 := ⟨L - 2, by simp at hL; omega⟩
    obtain ⟨h1, e1, N1, H1⟩ := q_pre NN hl hN c0 eg ek cg ck hS hRL H (L + 1)
    have hF1 := N1.2.1.F
    have hR1 := N1.2.1.R
    have hW := NN.2.1.W
    obtain ⟨⟨w1, w2⟩, -⟩ := id hW
    obtain ⟨l1, l2⟩ := id hl
    obtain ⟨-, -, ⟨b2, b3⟩, -⟩ := hW.mat hl
    have eB : (((wBx w m).toNat : Nat) : Int) = wBx w m := by omega
    rcases q_nr9 hl hN (wBx w m).toNat FU h1 c r s (FU_gt (by omega)) (by omega) N1 (by rw [eB]; exact hS) (by rw [eB]; exact hRL) with ⟨-, h2, c2, e2, N2, f2⟩ | ⟨h2, c2, r2, s2, -, -, -, -, -, e7, -⟩
    · rw [eB] at e2
      refine ⟨h2, c2, ?_, N2, H1.fq f2⟩
      rw [e1]
      simp -implicitDefEqProofs (disch := omega) only [F_f_X12_goes_252, k_X12_goes_252_1, F_f_X12_nextRow, f_X12_nextRow_9, K91 hF1, R91_3 hF1, K94 hF1, N94 hF1, RR_Bx hR1, e2, lp_succ, F_b_X12_goes_113, zret1, iv_add, iv_sub, iv_mul, iv_neg, iv_zero, iv_ltT, iv_ltF, iv_leT, iv_leF, iv_eqT, iv_eqF, iv_div, rm_iv, tn_iv, ib_iv, some_cb, some_cbv, ↓nm_eq, ↓reduceIte, true_and, and_true, Bool.true_eq_false, Bool.false_eq_true, not_false_eq_true, not_true_eq_false]
    · rw [hR] at e7; exact absurd e7 (by simp)
  | cons r1 R ih =>
    intro L hh c r s o hL hR NN hS hRL H
    rw [List.length_cons] at hL
    obtain ⟨L, rfl⟩ : ∃ L', L = L' + 1 := ⟨L - 1, by omega⟩
    obtain ⟨h1, e1, N1, H1⟩ := q_pre NN hl hN c0 eg ek cg ck hS hRL H L
    have hF1 := N1.2.1.F
    have hR1 := N1.2.1.R
    have hW := NN.2.1.W
    obtain ⟨⟨w1, w2⟩, -⟩ := id hW
    obtain ⟨l1, l2⟩ := id hl
    obtain ⟨-, -, ⟨b2, b3⟩, -⟩ := hW.mat hl
    have eB : (((wBx w m).toNat : Nat) : Int) = wBx w m := by omega
    rcases q_nr9 hl hN (wBx w m).toNat FU h1 c r s (FU_gt (by omega)) (by omega) N1 (by rw [eB]; exact hS) (by rw [eB]; exact hRL) with ⟨e7, -⟩ | ⟨h2, c2, r2, s2, e2, N2, f2, e5, e6, e7, -⟩
    · rw [hR] at e7; exact absurd e7 (by simp)
    · rw [eB] at e2 e5 e6
      rw [hR] at e7
      injection e7 with e8 e9
      obtain ⟨h', c', g1, g2, g3⟩ := ih L h2 c2 r2 s2 _ (by omega) e9 N2 e5 e6 (H1.fq f2)
      rw [e8] at g3
      refine ⟨h', c', ?_, g2, g3⟩
      rw [e1, ← g1]
      simp -implicitDefEqProofs (disch := omega) only [F_f_X12_goes_252, k_X12_goes_252_1, F_f_X12_nextRow, f_X12_nextRow_9, K91 hF1, R91_3 hF1, K94 hF1, N94 hF1, RR_Bx hR1, e2, iv_add, iv_sub, iv_mul, iv_neg, iv_zero, iv_ltT, iv_ltF, iv_leT, iv_leF, iv_eqT, iv_eqF, iv_div, rm_iv, tn_iv, ib_iv, some_cb, some_cbv, ↓nm_eq, ↓reduceIte, true_and, and_true, Bool.true_eq_false, Bool.false_eq_true, not_false_eq_true, not_true_eq_false]
/-- the rows that come first -/
noncomputable def rw0 (w : WD) (m : Int) (S : Int32) : RoT := fun b => (tabS w m S b).headD []
noncomputable def sl0 (w : WD) (m : Int) (S : Int32) : Int → List (List TR) := fun b => (tabS w m S b).tail
theorem rw0_ok (hW : WI w) (hl : lvM w m) {b : Int} (b0 : 0 ≤ b) (tb : b < wBx w m) : tabS w m S b = rw0 w m S b :: sl0 w m S b ∧ (nb w m S b = true → rw0 w m S b = hdT w m b) := by
  obtain ⟨t, l, e1, e2⟩ := tabS_hd (S := S) hW hl b0 tb
  unfold rw0 sl0
  rw [e1]
  exact ⟨rfl, e2⟩
set_option maxRecDepth 100000 in
theorem q_lp29 (hl : lvM w m) (hN : ∀ b : Int, 0 ≤ b → b ≤ 11 → (bt N b ↔ nmB w m S b)) {cc g k : Int} (c0 : 0 ≤ cc) (eg : cc / 10 = g) (ek : cc % 10 = k) (cg : g < wGr w m) (ck : k < wCh w m) (hbig : bigN w m S (wBx w m).toNat ≤ 20000) : ∀ (n L : Nat) (j : Nat) (hh : AH) (c : Int → Int), n < L → ((j + n : Nat) : Int) = wBx w m → NS w A h hh c → RoS w m S c (rw0 w m S) j → ∃ (h' : AH) (c' : Int → Int), lp b_X12_goes_29 (fun _ _ _ _ _ _ _ _ _ => none) L 91 (iv m) S (iv cc) N (iv (loU w m S g k j)) (iv (hiU w m S g k j)) (iv j) hh = some (iv 1, h') ∧ NS w A h h' c' ∧ AqQ h' (resS w m S g k) := by
  intro n
  induction n with
  | zero =>
    intro L j hh c hL hj NN hS
    obtain ⟨L, rfl⟩ : ∃ L', L = L' + 1 := ⟨L - 1, by omega⟩
    have hW := NN.2.1.W
    have hF := NN.2.1.F
    have hR := NN.2.1.R
    obtain ⟨⟨w1, w2⟩, -⟩ := id hW
    obtain ⟨l1, l2⟩ := id hl
    obtain ⟨-, -, ⟨b2, b3⟩, -⟩ := hW.mat hl
    have ej : (wBx w m).toNat = j := by omega
    have eB : (j : Int) = wBx w m := by omega
    have hst := rw_start (tb := tabS w m S) (r := rw0 w m S) (s := sl0 w m S) (wBx w m).toNat (fun b b0 b1 => (rw0_ok hW hl b0 (by omega)).1)
    have hlen := prd_len (S := S) hW hl (wBx w m).toNat (by omega)
    rw [hst, List.length_cons] at hlen
    obtain ⟨h', c', g1, g2, g3⟩ := q_lp113 (A := A) (h := h) hl hN c0 eg ek cg ck _ FU (sI hh 91 33 (iv 0)) c (rw0 w m S) (sl0 w m S) none (FU_gt (by omega)) rfl (NN.s9k (iv 0) (by omega)) (by rw [← eB]; exact hS) (fun b b0 b1 => ⟨[], (rw0_ok hW hl b0 b1).1⟩) (gI_sIs _ _ _ _)
    refine ⟨h', c', ?_, g2, ?_⟩
    · rw [← g1, ej, eB]
      simp -implicitDefEqProofs (disch := omega) only [lp_succ, F_b_X12_goes_29, f_X12_goes_113, K91 hF, R91_3 hF, K94 hF, N94 hF, RR_Bx hR, true_or, bo0, iv_add, iv_sub, iv_mul, iv_neg, iv_zero, iv_ltT, iv_ltF, iv_leT, iv_leF, iv_eqT, iv_eqF, iv_div, rm_iv, tn_iv, ib_iv, some_cb, some_cbv, ↓nm_eq, ↓reduceIte, true_and, and_true, Bool.true_eq_false, Bool.false_eq_true, not_false_eq_true, not_true_eq_false]
    · unfold resS rowsS
      rw [hst]; exact g3
  | succ n ih =>
    intro L j hh c hL hj NN hS
    obtain ⟨L, rfl⟩ : ∃ L', L = L' + 1 := ⟨L - 1, by omega⟩
    have hW := NN.2.1.W
    have hF := NN.2.1.F
    have hR := NN.2.1.R
    obtain ⟨⟨w1, w2⟩, -⟩ := id hW
    obtain ⟨l1, l2⟩ := id hl
    obtain ⟨⟨gg1, gg2⟩, ⟨gc1, gc2⟩, ⟨b2, b3⟩, -⟩ := hW.mat hl
    have s1 : loU w m S g k (j + 1) = loU w m S g k j + if nb w m S j = true then 0 else wLe w m (12 * m + j) g k := rfl
    have s2 : hiU w m S g k (j + 1) = hiU w m S g k j + if nb w m S j = true then 0 else wMo w m (12 * m + j) g k := rfl
    by_cases z : nb w m S j = true
    · have z' : ((N >>> (iv j &&& 31)) &&& iv 1 = iv 1) = True := eq_true ((nb_bt hN (b := j) (by omega) (by omega)).1 z)
      obtain ⟨h2, c2, e2, N2, T2, o2, f2⟩ := q_firstOf NN hl (b := j) (by omega) (by omega)
      obtain ⟨h', c', g1, g2, g3⟩ := ih L (j + 1) h2 c2 (by omega) (by omega) N2 (fun b b0 b1 y => by
        obtain ⟨r1, r2⟩ := rw0_ok (S := S) hW hl b0 (by omega)
        by_cases e : b = j
        · subst e; rw [r2 y]; exact T2
        · exact HT_same (tab_len4 hW hl b0 (by omega) (by rw [r1]; exact List.mem_cons_self)) (fun i i0 i1 => o2 i (by omega)) (hS b b0 (by omega) y))
      refine ⟨h', c', ?_, g2, g3⟩
      rw [← g1, s1, s2, if_pos z, if_pos z, Int.add_zero, Int.add_zero, show ((j + 1 : Nat) : Int) = (j : Int) + 1 by omega]
      simp -implicitDefEqProofs (disch := omega) only [lp_succ, F_b_X12_goes_29, k_X12_goes_29_1, k_X12_goes_29_2, k_X12_goes_29_3, K91 hF, R91_3 hF, K94 hF, N94 hF, RR_Bx hR, z', e2, iv_add, iv_sub, iv_mul, iv_neg, iv_zero, iv_ltT, iv_ltF, iv_leT, iv_leF, iv_eqT, iv_eqF, iv_div, rm_iv, tn_iv, ib_iv, some_cb, some_cbv, ↓nm_eq, ↓reduceIte, true_and, and_true, Bool.true_eq_false, Bool.false_eq_true, not_false_eq_true, not_true_eq_false]
    · have z' : ((N >>> (iv j &&& 31)) &&& iv 1 = iv 1) = False := eq_false (fun y => z ((nb_bt hN (b := j) (by omega) (by omega)).2 y))
      have f1 := q_least NN.2.1.Q hl (b := j) (by omega) (by omega) (c := cc) (by omega) c0 eg ek cg ck
      have f2 := q_most NN.2.1.Q hl (b := j) (by omega) (by omega) (c := cc) (by omega) c0 eg ek cg ck
      obtain ⟨h', c', g1, g2, g3⟩ := ih L (j + 1) hh c (by omega) (by omega) NN (fun b b0 b1 y => by
        by_cases e : b = j
        · subst e; exact absurd y z
        · exact hS b b0 (by omega) y)
      refine ⟨h', c', ?_, g2, g3⟩
      rw [← g1, s1, s2, if_neg z, if_neg z, show ((j + 1 : Nat) : Int) = (j : Int) + 1 by omega]
      simp -implicitDefEqProofs (disch := omega) only [lp_succ, F_b_X12_goes_29, k_X12_goes_29_1, k_X12_goes_29_2, k_X12_goes_29_3, K91 hF, R91_3 hF, K94 hF, N94 hF, RR_Bx hR, z', f1, f2, iv_add, iv_sub, iv_mul, iv_neg, iv_zero, iv_ltT, iv_ltF, iv_leT, iv_leF, iv_eqT, iv_eqF, iv_div, rm_iv, tn_iv, ib_iv, some_cb, some_cbv, ↓nm_eq, ↓reduceIte, true_and, and_true, Bool.true_eq_false, Bool.false_eq_true, not_false_eq_true, not_true_eq_false]
theorem bigR_01 (w : WD) (m : Int) (S : Int32) : (bigR w m S = 0 ∧ bigN w m S (wBx w m).toNat ≤ 20000) ∨ (bigR w m S = 1 ∧ 20000 < bigN w m S (wBx w m).toNat) := by
  unfold bigR
  by_cases z : 20000 < bigN w m S (wBx w m).toNat
  · rw [if_pos z]; exact Or.inr ⟨rfl, z⟩
  · rw [if_neg z]; exact Or.inl ⟨rfl, by omega⟩
set_option maxRecDepth 100000 in
theorem q_goes (hS : Sim w A h) (hl : lvM w m) (S : Int32) {cc g k : Int} (c0 : 0 ≤ cc) (eg : cc / 10 = g) (ek : cc % 10 = k) (cg : g < wGr w m) (ck : k < wCh w m) : (bigR w m S = 1 → f_X12_goes 91 (iv m) S (iv cc) h = some (iv 0, h)) ∧ (bigR w m S = 0 → ∃ h' : AH, f_X12_goes 91 (iv m) S (iv cc) h = some (iv 1, h') ∧ Sc w A h h' ∧ AqQ h' (resS w m S g k)) := by
  have hF := hS.F
  obtain ⟨N, e1, hN⟩ := q_namedBy hS.Q hl S
  have e2 := q_isBig hS.Q hl hN
  refine ⟨fun z => ?_, fun z => ?_⟩
  · rw [z] at e2
    simp -implicitDefEqProofs (disch := omega) only [F_f_X12_goes, k_X12_goes_1, k_X12_goes_2, K91 hF, e1, e2, zret0, iv_add, iv_sub, iv_mul, iv_neg, iv_zero, iv_ltT, iv_ltF, iv_leT, iv_leF, iv_eqT, iv_eqF, iv_div, rm_iv, tn_iv, ib_iv, some_cb, some_cbv, ↓nm_eq, ↓reduceIte, true_and, and_true, Bool.true_eq_false, Bool.false_eq_true, not_false_eq_true, not_true_eq_false]
  · have hb : bigN w m S (wBx w m).toNat ≤ 20000 := by rcases bigR_01 w m S with y | y <;> omega
    obtain ⟨-, -, ⟨b2, b3⟩, -⟩ := hS.W.mat hl
    obtain ⟨h', c', g1, g2, g3⟩ := q_lp29 (A := A) (h := h) hl hN c0 eg ek cg ck hb (wBx w m).toNat FU 0 h _ (FU_gt (by omega)) (by omega) (NS.start hS) (fun b b0 b1 => by omega)
    rw [z] at e2
    refine ⟨h', ?_, g2.1, g3⟩
    rw [← g1]
    simp -implicitDefEqProofs (disch := omega) only [F_f_X12_goes, k_X12_goes_1, k_X12_goes_2, f_X12_goes_29, K91 hF, e1, e2, zret0, iv_add, iv_sub, iv_mul, iv_neg, iv_zero, iv_ltT, iv_ltF, iv_leT, iv_leF, iv_eqT, iv_eqF, iv_div, rm_iv, tn_iv, ib_iv, some_cb, some_cbv, ↓nm_eq, ↓reduceIte, true_and, and_true, Bool.true_eq_false, Bool.false_eq_true, not_false_eq_true, not_true_eq_false]
    rfl
end Q
