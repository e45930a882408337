/-! boxes from a row: box by box, and both -/
section Q
variable {w w' : WD} {A A' : Int → Nat} {h h' h1 hf hq : AH} {m s i x : Int}
/-- the reference's rows alone have changed -/
def FQ (hf hq : AH) : Prop := (∀ a, gK hq a = gK hf a) ∧ (∀ a, gN hq a = gN hf a) ∧ (∀ a i, gR hq a i = gR hf a i) ∧ (∀ a i, gJ hq a i = gJ hf a i) ∧ gC hq = gC hf ∧ gS hq = gS hf ∧ ∀ a i, (a < 92 ∨ 115 < a) → gI hq a i = gI hf a i
theorem FQ.fix (H : FQ hf hq) (F : Fix hf) : Fix hq := F.fr (fun a _ => H.1 a) (fun a _ => H.2.1 a) (fun a j _ _ _ _ => H.2.2.1 a j)
/-- the world of one box more -/
def adW (w : WD) (m b : Int) (G C : Nat) (u : Nat → Int) : WD := wZ (beW (cmW w (12 * m + b) G u (G + C)) (12 * m + b) (suU u G)) 94 m (b + 1)
theorem adW_new {b : Int} {G C : Nat} {u : Nat → Int} (m0 : 0 ≤ m) (g4 : G ≤ 4) (c2 : 2 ≤ C) (c3 : C ≤ 3) (eb : wBx w m = b) (b0 : 0 ≤ b) : NewW w (adW w m b G C u) m G C u := by
  subst eb
  obtain ⟨o1, o2⟩ := cmW_o (w := w) (x := 12 * m + wBx w m) (G := G) (u := u) (G + C) (n := G + C) ⟨g4, by omega⟩ (Nat.le_refl _)
  obtain ⟨v1, v2, v3⟩ := cmW_v (w := w) (x := 12 * m + wBx w m) (G := G) (u := u) (G + C)
  refine ⟨fun a z y1 y2 y3 y4 => ?_, o1, wZ_at _ _ _ _, fun g hg => ?_, fun k hk => ?_, ?_, ?_, ?_⟩
  · unfold adW beW
    rw [wZ_o _ y1, wZ_o _ (by omega), wZ_o _ (by omega), wZ_o _ (by omega), o2 a z (by omega) (by omega)]
  · show (adW w m (wBx w m) G C u).1 95 (4 * (12 * m + wBx w m) + g) = _
    unfold adW beW
    rw [wZ_o _ (by omega), wZ_o _ (by omega), wZ_o _ (by omega), wZ_o _ (by omega), v1 g (by omega) hg]
  · show (adW w m (wBx w m) G C u).1 96 (3 * (12 * m + wBx w m) + k) = _
    unfold adW beW
    rw [wZ_o _ (by omega), wZ_o _ (by omega), wZ_o _ (by omega), wZ_o _ (by omega)]
    by_cases q : k < C
    · rw [if_pos q, v2 k (by omega)]
    · rw [if_neg q, show ((k : Nat) : Int) = 2 by omega, v3 (by omega)]
  · show (adW w m (wBx w m) G C u).1 97 (12 * m + wBx w m) = _
    unfold adW beW
    rw [wZ_o _ (by omega), wZ_o _ (by omega), wZ_o _ (by omega), wZ_at]
  · show (adW w m (wBx w m) G C u).1 98 (12 * m + wBx w m) = _
    unfold adW beW
    rw [wZ_o _ (by omega), wZ_o _ (by omega), wZ_at]
  · show (adW w m (wBx w m) G C u).1 100 (12 * m + wBx w m) = _
    unfold adW beW
    rw [wZ_o _ (by omega), wZ_at]
/-- one box comes on both sides: c the one side's heap, q the reference's -/
theorem Sim.both1 {hc q1 : AH} {b : Int} {G C B : Nat} {u : Nat → Int} (hS : Sim w A (mixH hc hq)) (hl : lvM w m) (hG : (G : Int) = wGr w m) (hC : (C : Int) = wCh w m) (eb : wBx w m = b) (hB : (B : Int) = b) (b12 : b < 12) (ok : AdOK G C u) (k1 : ∀ a, gK q1 a = gK hq a) (n1 : ∀ a, gN q1 a = gN hq a) (r1 : ∀ a j, gR q1 a j = gR hq a j) (R1 : RR (adW w m b G C u) q1) : Sim (adW w m b G C u) (aU A (10 + (12 * m + wBx w m)) (gC hc)) (mixH (abC hc (A m) B G C u) q1) := by
  have am := hS.aM hl
  have tm := hS.tM hl
  rw [gC_mix] at tm
  have hg := hS.gc
  rw [gC_mix] at hg
  obtain ⟨⟨gg1, gg2⟩, ⟨gc1, gc2⟩, ⟨bb1, bb2⟩, -⟩ := hS.W.mat hl
  have nw := adW_new (u := u) hl.1 (by omega) (by omega) (by omega) eb (by omega) (w := w) (G := G) (C := C)
  have bt : (wBx w m).toNat = B := by omega
  have F1 : Fix (mixH (abC hc (A m) B G C u) q1) := by
    refine hS.F.fr (fun a ha => ?_) (fun a ha => ?_) (fun a j ha _ _ _ => ?_)
    · by_cases z : 91 ≤ a ∧ a ≤ 115
      · rw [(mixQ z).1, (mixQ z).1, k1]
      · rw [(mixC (by omega)).1, (mixC (by omega)).1, (abC_low tm a (by omega)).1]
    · by_cases z : 91 ≤ a ∧ a ≤ 115
      · rw [(mixQ z).2.1, (mixQ z).2.1, n1]
      · rw [(mixC (by omega)).2.1, (mixC (by omega)).2.1, (abC_low tm a (by omega)).2.1]
    · by_cases z : 91 ≤ a ∧ a ≤ 115
      · rw [(mixQ z).2.2.2.2, (mixQ z).2.2.2.2, r1]
      · rw [(mixC (by omega)).2.2.2.2, (mixC (by omega)).2.2.2.2, (abC_low tm a (by omega)).2.2.2.2 _ (by omega)]
  have key := hS.add hl (by omega) hG hC ok nw F1 (R1.mix _) (fun a ha z => ?_) ?_ ?_ ?_ ?_
  · rw [gC_mix] at key
    exact key
  · rw [gC_mix] at ha
    obtain ⟨c1, c2, c3, c4, c5⟩ := mixC (hc := abC hc (A m) B G C u) (hq := q1) z
    obtain ⟨d1, d2, d3, d4, d5⟩ := mixC (hc := hc) (hq := hq) z
    obtain ⟨l1, l2, l3, l4, l5⟩ := abC_low (h := hc) (M := A m) (b := B) (G := G) (C := C) (u := u) tm a ha
    exact ⟨by rw [c1, d1, l1], by rw [c2, d2, l2], fun j y => by rw [c3, d3, l3 j y], fun j => by rw [c4, d4, l4], fun j y => by rw [c5, d5, l5 j (by omega)]⟩
  · rw [(mixC (by omega)).2.2.1, abC_5 tm, eb, hB]
  · rw [(mixC (by omega)).2.2.2.2, gC_mix, bt, abC_b]
  · rw [gC_mix]
    have z0 := mixC (hc := abC hc (A m) B G C u) (hq := q1) (a := gC hc) (by omega)
    have z1 := mixC (hc := abC hc (A m) B G C u) (hq := q1) (a := gC hc + 1) (by omega)
    have z2 := mixC (hc := abC hc (A m) B G C u) (hq := q1) (a := gC hc + 2) (by omega)
    have z3 := mixC (hc := abC hc (A m) B G C u) (hq := q1) (a := gC hc + 3) (by omega)
    have z4 := mixC (hc := abC hc (A m) B G C u) (hq := q1) (a := gC hc + 4) (by omega)
    obtain ⟨p1, p2, p3, p4, p5, p6, ⟨p7, p8⟩, ⟨p9, p10⟩, ⟨p11, p12⟩, ⟨p13, p14⟩, p15, p16, p17, p18, p19, p20, p21, p22⟩ := abC_new (h := hc) (M := A m) (b := B) (G := G) (C := C) (u := u) tm
    exact ⟨by rw [z0.1, p1], by rw [z0.2.2.2.2, p2], by rw [z0.2.2.2.2, p3], by rw [z0.2.2.2.2, p4], by rw [z0.2.2.2.2, p5], by rw [z0.2.2.2.2, p6], ⟨by rw [z1.1, p7], by rw [z1.2.1, p8]⟩, ⟨by rw [z2.1, p9], by rw [z2.2.1, p10]⟩, ⟨by rw [z3.1, p11], by rw [z3.2.1, p12]⟩, ⟨by rw [z4.1, p13], by rw [z4.2.1, p14]⟩, fun j => by rw [z1.2.2.1, p15], fun j => by rw [z2.2.2.1, p16], fun j => by rw [z3.2.2.1, p17], fun j => by rw [z4.2.2.1, p18], by rw [z0.2.2.1, p19], by rw [z0.2.2.1, p20], by rw [z0.2.2.1, p21], by rw [z0.2.2.2.1, p22]⟩
  · rw [gC_mix, gC_mix, abC_C]
set_option maxRecDepth 100000 in
theorem q_boxloop (hS : Sim w A h) (hl : lvM w m) {G C B n K : Nat} (hG : (G : Int) = wGr w m) (hC : (C : Int) = wCh w m) (hB : (B : Int) = wBx w m) (s0 : 0 ≤ s) (s1 : s < 6) (so : sSo w s = 1) (i0 : 0 ≤ i) (i1 : i ≤ 2147483647) (n12 : n ≤ 12) (Kn : K ≤ n) (good : ∀ j, j < K → boG w m s i G C j) (bad : K < n → ¬ boG w m s i G C K) (Ff : Fix hf) (r : Nat) : ∀ (N j : Nat) (hq : AH) (wj : WD) (Aj : Int → Nat), r < N → j + r = n → j ≤ K → FQ hf hq → Sim wj Aj (mixH (boH h (A m) B G C (boU w s i (G + C)) j) hq) → (lvM wj m ∧ wGr wj m = wGr w m ∧ wCh wj m = wCh w m ∧ wBx wj m = (B : Int) + j ∧ wj.2 = w.2 ∧ sSz wj s = sSz w s) → Aj m = A m → ∃ (hq' : AH) (w' : WD) (A' : Int → Nat), lp b_X12_boxes_86 (fun _ _ _ _ _ _ _ _ _ => none) N 91 (iv m) (iv s) (iv i) (iv n) (iv j) (iv 1) (iv j) hq = some (iv K, hq') ∧ FQ hf hq' ∧ Sim w' A' (mixH (boH h (A m) B G C (boU w s i (G + C)) K) hq') := by
  obtain ⟨⟨gg1, gg2⟩, ⟨gc1, gc2⟩, ⟨bb1, bb2⟩, -⟩ := hS.W.mat hl
  obtain ⟨-, -, ⟨y5, y6⟩, -⟩ := hS.W.sh s0 s1
  have l0 := hl.1
  have l4 : m < 4 := by have := hl.2; have := hS.W.1.2; omega
  induction r with
  | zero =>
    intro N j hq wj Aj hN hj jK fq sim inv eA
    obtain ⟨N, rfl⟩ : ∃ N', N = N' + 1 := ⟨N - 1, by omega⟩
    obtain rfl : j = n := by omega
    obtain rfl : K = j := by omega
    exact ⟨hq, wj, Aj, by simp -implicitDefEqProofs (disch := omega) only [lp_succ, F_b_X12_boxes_86, iv_add, iv_sub, iv_mul, iv_neg, iv_zero, iv_ltT, iv_ltF, iv_leT, iv_leF, iv_eqT, iv_eqF, iv_div, rm_iv, tn_iv, ib_iv, some_cb, some_cbv, ↓nm_eq, ↓reduceIte, true_and, and_true, Bool.true_eq_false, Bool.false_eq_true, not_false_eq_true, not_true_eq_false], fq, sim⟩
  | succ r ih =>
    intro N j hq wj Aj hN hj jK fq sim inv eA
    obtain ⟨N, rfl⟩ : ∃ N', N = N' + 1 := ⟨N - 1, by omega⟩
    obtain ⟨lj, eGr, eCh, eBx, e2, eSz⟩ := inv
    have hFq := fq.fix Ff
    have hRq : RR wj hq := sim.R.fr (fun a z y => ((mixQ (by omega)).2.2.1 z).symm) (fun z => ((mixQ (by omega)).2.2.2.1 z).symm)
    have jw : (j : Int) * (wGr w m + wCh w m) = ((j * (G + C) : Nat) : Int) := by rw [← hG, ← hC]; push_cast; rfl
    have jb : j * (G + C) ≤ 12 * 7 := Nat.mul_le_mul (by omega) (by omega)
    have i60 : j = 0 ∧ j * (G + C) = 0 ∨ i + ((j * (G + C) : Nat) : Int) ≤ 60 := by
      by_cases z : j = 0
      · exact Or.inl ⟨z, by rw [z, Nat.zero_mul]⟩
      · obtain ⟨⟨-, q1⟩, -⟩ := good (j - 1) (by omega)
        have : j * (G + C) = (j - 1) * (G + C) + (G + C) := by rw [← Nat.succ_mul]; congr 1; omega
        exact Or.inr (by rw [this]; omega)
    have H : ComQ wj hq m s (i + ((j * (G + C) : Nat) : Int)) ((B : Int) + j) G C := by
      refine ⟨hFq, hRq, ⟨l0, l4⟩, ⟨s0, s1⟩, ⟨by rw [eGr]; exact hG, by rw [eCh]; exact hC, by omega, by omega, by omega, by omega⟩, ⟨eBx, by omega, ?_⟩, ⟨by omega, by omega⟩, by rw [eSz]; exact ⟨y5, y6⟩, fun z z0 z1 => ?_⟩
      · have := (sim.W.mat lj).2.2.1
        omega
      · unfold sEl
        rw [e2]
        exact ((hS.S s0 s1).2.2.2 z z0 z1).2.1 so
    have hu : ∀ k : Nat, k < G + C → boU w s i (G + C) j k = (sEl wj (60 * s + (i + ((j * (G + C) : Nat) : Int)) + (k : Int))).toInt := fun k hk => by
      unfold boU sEl
      rw [e2]
      exact congrArg (fun z => (w.2 z).toInt) (by rw [Int.natCast_add]; omega)
    by_cases gj : boG w m s i G C j
    · have jK' : j < K := by
        by_cases z : j = K
        · subst z; exact absurd gj (bad (by omega))
        · omega
      obtain ⟨⟨-, g1⟩, g2, g3⟩ := id gj
      have cy := q_comesY H (by rw [eSz]; omega) (by omega) hu g3
      have R1 : RR (adW wj m ((B : Int) + j) G C (boU w s i (G + C) j)) (sI (beQ (cmQ hq (12 * m + ((B : Int) + j)) G (boU w s i (G + C) j) (G + C)) (12 * m + ((B : Int) + j)) (suU (boU w s i (G + C) j) G)) 94 m.toNat (iv ((B : Int) + j + 1))) := RR_wZ (beQ_RR (cmQ_RR hRq (by omega) (G + C)) (by omega)) (by omega) (by omega) l0
      obtain ⟨f1, f2, f3, f4, f5, f6, f7⟩ := cmQ_f (h := hq) (x := 12 * m + ((B : Int) + j)) (G := G) (u := boU w s i (G + C) j) (G + C)
      have s78 : Sim wj Aj (mixH (fiC (boH h (A m) B G C (boU w s i (G + C)) j) 78 (boU w s i (G + C) j) (G + C)) hq) := by
        refine sim.r78 (fun a => ?_) (fun a => ?_) (fun a z => ?_) (fun a z => ?_) (fun a z y => ?_) ?_
        · by_cases z : 91 ≤ a ∧ a ≤ 115
          · rw [(mixQ z).1, (mixQ z).1]
          · rw [(mixC (by omega)).1, (mixC (by omega)).1, fiC_K]
        · by_cases z : 91 ≤ a ∧ a ≤ 115
          · rw [(mixQ z).2.1, (mixQ z).2.1]
          · rw [(mixC (by omega)).2.1, (mixC (by omega)).2.1, fiC_N]
        · by_cases z : 91 ≤ a ∧ a ≤ 115
          · rw [(mixQ z).2.2.2.2, (mixQ z).2.2.2.2]
          · rw [(mixC (by omega)).2.2.2.2, (mixC (by omega)).2.2.2.2, fiC_R]
        · by_cases z : 91 ≤ a ∧ a ≤ 115
          · rw [(mixQ z).2.2.2.1, (mixQ z).2.2.2.1]
          · rw [(mixC (by omega)).2.2.2.1, (mixC (by omega)).2.2.2.1, fiC_J]
        · by_cases z : 91 ≤ a ∧ a ≤ 115
          · rw [(mixQ z).2.2.1, (mixQ z).2.2.1]
          · rw [(mixC (by omega)).2.2.1, (mixC (by omega)).2.2.1, fiC_I _ y]
        · rw [gC_mix, gC_mix, fiC_C]
      have sim1 := Sim.both1 (q1 := sI (beQ (cmQ hq (12 * m + ((B : Int) + j)) G (boU w s i (G + C) j) (G + C)) (12 * m + ((B : Int) + j)) (suU (boU w s i (G + C) j) G)) 94 m.toNat (iv ((B : Int) + j + 1))) (B := B + j) (u := boU w s i (G + C) j) s78 lj (by rw [eGr]; exact hG) (by rw [eCh]; exact hC) eBx (by push_cast; rfl) (by omega) g3 f1 f2 f3 R1
      rw [eA] at sim1
      have nw := adW_new (w := wj) (u := boU w s i (G + C) j) (G := G) (C := C) l0 (by omega) (by omega) (by omega) eBx (by omega)
      obtain ⟨hq', w', A', q1, q2, q3⟩ := ih N (j + 1) (sI (beQ (cmQ hq (12 * m + ((B : Int) + j)) G (boU w s i (G + C) j) (G + C)) (12 * m + ((B : Int) + j)) (suU (boU w s i (G + C) j) G)) 94 m.toNat (iv ((B : Int) + j + 1))) _ _ (by omega) (by omega) (by omega) (show FQ hf _ from ⟨fun a => (f1 a).trans (fq.1 a), fun a => (f2 a).trans (fq.2.1 a), fun a z => (f3 a z).trans (fq.2.2.1 a z), fun a z => (f4 a z).trans (fq.2.2.2.1 a z), f5.trans fq.2.2.2.2.1, f6.trans fq.2.2.2.2.2.1, fun a z y => by
        unfold beQ
        rw [gI_sIo _ _ (by omega), gI_sIo _ _ (by omega), gI_sIo _ _ (by omega), gI_sIo _ _ (by omega), f7 _ _ (by omega) (by omega), fq.2.2.2.2.2.2 a z y]⟩) sim1 ⟨by
          unfold lvM wM
          rw [nw.1 91 0 (by omega) (by omega) (by omega) (by omega)]
          exact lj, by rw [← eGr]; exact nw.1 92 m (by omega) (by omega) (by omega) (by omega), by rw [← eCh]; exact nw.1 93 m (by omega) (by omega) (by omega) (by omega), by rw [nw.2.2.1, eBx]; push_cast; omega, nw.2.1.trans e2, by rw [← eSz]; exact nw.1 114 s (by omega) (by omega) (by omega) (by omega)⟩ (by rw [aU_o _ _ (by omega)]; exact eA)
      refine ⟨hq', w', A', ?_, q2, q3⟩
      rw [← q1, show ((j + 1 : Nat) : Int) = (j : Int) + 1 by omega]
      clear q1 q2 q3 sim1 ih
      have eGC : wGr wj m + wCh wj m = wGr w m + wCh w m := by rw [eGr, eCh]
      have gcj : 4 ≤ wGr wj m + wCh wj m ∧ wGr wj m + wCh wj m ≤ 7 := by omega
      simp -implicitDefEqProofs (disch := omega) only [lp_succ, F_b_X12_boxes_86, k_X12_boxes_86_1, K91 hFq, R91_1 hFq, R91_2 hFq, K92 hFq, N92 hFq, K93 hFq, N93 hFq, RR_Gr hRq, RR_Ch hRq, eGC, jw, cy, iv_add, iv_sub, iv_mul, iv_neg, iv_zero, iv_ltT, iv_ltF, iv_leT, iv_leF, iv_eqT, iv_eqF, iv_div, rm_iv, tn_iv, ib_iv, some_cb, some_cbv, ↓nm_eq, ↓reduceIte, true_and, and_true, Bool.true_eq_false, Bool.false_eq_true, not_false_eq_true, not_true_eq_false]
    · have jK' : j = K := by
        by_cases z : j = K
        · exact z
        · exact absurd (good j (by omega)) gj
      subst jK'
      obtain ⟨h2, cn, hh⟩ := q_comesN H (fun _ => hu) (fun y => gj ⟨⟨i0, by have := y.1; rw [eSz] at this; omega⟩, by omega, y.2.2⟩)
      have eGC : wGr wj m + wCh wj m = wGr w m + wCh w m := by rw [eGr, eCh]
      obtain ⟨N, rfl⟩ : ∃ N', N = N' + 1 := ⟨N - 1, by omega⟩
      have run : lp b_X12_boxes_86 (fun _ _ _ _ _ _ _ _ _ => none) (N + 1 + 1) 91 (iv m) (iv s) (iv i) (iv n) (iv j) (iv 1) (iv j) hq = some (iv j, h2) := by
        have nx : lp b_X12_boxes_86 (fun _ _ _ _ _ _ _ _ _ => none) (N + 1) 91 (iv m) (iv s) (iv i) (iv n) (iv j) (iv 0) (iv ((j : Int) + 1)) h2 = some (iv j, h2) := by
          by_cases z : n ≤ j + 1
          · simp -implicitDefEqProofs (disch := omega) only [lp_succ, F_b_X12_boxes_86, iv_add, iv_sub, iv_mul, iv_neg, iv_zero, iv_ltT, iv_ltF, iv_leT, iv_leF, iv_eqT, iv_eqF, iv_div, rm_iv, tn_iv, ib_iv, some_cb, some_cbv, ↓nm_eq, ↓reduceIte, true_and, and_true, Bool.true_eq_false, Bool.false_eq_true, not_false_eq_true, not_true_eq_false]
          · simp -implicitDefEqProofs (disch := omega) only [lp_succ, F_b_X12_boxes_86, iv_add, iv_sub, iv_mul, iv_neg, iv_zero, iv_ltT, iv_ltF, iv_leT, iv_leF, iv_eqT, iv_eqF, iv_div, rm_iv, tn_iv, ib_iv, some_cb, some_cbv, ↓nm_eq, ↓reduceIte, true_and, and_true, Bool.true_eq_false, Bool.false_eq_true, not_false_eq_true, not_true_eq_false]
        rw [lp_succ]
        generalize lp b_X12_boxes_86 (fun _ _ _ _ _ _ _ _ _ => none) (N + 1) = self at *
        simp -implicitDefEqProofs (disch := omega) only [F_b_X12_boxes_86, k_X12_boxes_86_1, K91 hFq, R91_1 hFq, R91_2 hFq, K92 hFq, N92 hFq, K93 hFq, N93 hFq, RR_Gr hRq, RR_Ch hRq, eGC, jw, cn, Int.add_zero, nx, iv_add, iv_sub, iv_mul, iv_neg, iv_zero, iv_ltT, iv_ltF, iv_leT, iv_leF, iv_eqT, iv_eqF, iv_div, rm_iv, tn_iv, ib_iv, some_cb, some_cbv, ↓nm_eq, ↓reduceIte, true_and, and_true, Bool.true_eq_false, Bool.false_eq_true, not_false_eq_true, not_true_eq_false]
      rcases hh with rfl | ⟨b12, k1, hk1, rfl⟩
      · exact ⟨h2, wj, Aj, run, fq, sim⟩
      · obtain ⟨f1, f2, f3, f4, f5, f6, f7⟩ := cmQ_f (h := hq) (x := 12 * m + ((B : Int) + j)) (G := G) (u := boU w s i (G + C) j) k1
        obtain ⟨o1, o2⟩ := cmW_o (w := wj) (x := 12 * m + ((B : Int) + j)) (G := G) (u := boU w s i (G + C) j) k1 (n := G + C) ⟨by omega, by omega⟩ hk1
        have R2 := cmQ_RR (G := G) (u := boU w s i (G + C) j) hRq (x := 12 * m + ((B : Int) + j)) (by omega) k1
        refine ⟨_, cmW wj (12 * m + ((B : Int) + j)) G (boU w s i (G + C) j) k1, Aj, run, ⟨fun a => (f1 a).trans (fq.1 a), fun a => (f2 a).trans (fq.2.1 a), fun a z => (f3 a z).trans (fq.2.2.1 a z), fun a z => (f4 a z).trans (fq.2.2.2.1 a z), f5.trans fq.2.2.2.2.1, f6.trans fq.2.2.2.2.2.1, fun a z y => by rw [f7 _ _ (by omega) (by omega), fq.2.2.2.2.2.2 a z y]⟩, ?_⟩
        have ol : ∀ m' b' : Int, lvM wj m' → 0 ≤ b' → b' < wBx wj m' → 12 * m' + b' ≠ 12 * m + ((B : Int) + j) := fun m' b' hm y0 y1 => by
          have := (sim.W.mat hm).2.2.1
          have := hm.1
          by_cases z : m' = m
          · subst z; omega
          · omega
        obtain ⟨a1, a2, a3, a4, a5, a6, a7, a8, a9⟩ := sim.W
        have e91 : ∀ z, (cmW wj (12 * m + ((B : Int) + j)) G (boU w s i (G + C) j) k1).1 91 z = wj.1 91 z := fun z => o2 91 z (by omega) (by omega)
        have blk : ∀ c n : Nat, (c + n ≤ 91 ∨ 115 < c) → Blk (mixH (boH h (A m) B G C (boU w s i (G + C)) j) hq) (mixH (boH h (A m) B G C (boU w s i (G + C)) j) (cmQ hq (12 * m + ((B : Int) + j)) G (boU w s i (G + C) j) k1)) c n := fun c n z a y1 y2 => by
          obtain ⟨c1, c2, c3, c4, c5⟩ := mixC (hc := boH h (A m) B G C (boU w s i (G + C)) j) (hq := hq) (a := a) (by omega)
          obtain ⟨d1, d2, d3, d4, d5⟩ := mixC (hc := boH h (A m) B G C (boU w s i (G + C)) j) (hq := cmQ hq (12 * m + ((B : Int) + j)) G (boU w s i (G + C) j) k1) (a := a) (by omega)
          exact ⟨by rw [c1, d1], by rw [c2, d2], fun q => by rw [c3, d3], fun q => by rw [c4, d4], fun q => by rw [c5, d5]⟩
        refine sim.dead ⟨⟨e91 0, e91 20⟩, fun a z y => o2 a z (by omega) (by omega), fun m' hm a y1 y2 => o2 a m' (by omega) (by omega), fun m' b' hm y0 y1 => ?_⟩ ?_ (R2.mix _) (by rw [show wT (cmW wj (12 * m + ((B : Int) + j)) G (boU w s i (G + C) j) k1) = wT wj from e91 19]; exact a2) (fun z z0 z1 => by rw [show wTa (cmW wj (12 * m + ((B : Int) + j)) G (boU w s i (G + C) j) k1) z = wTa wj z from o2 109 z (by omega) (by omega)]; exact a4 z z0 z1) (fun t t0 t1 => ?_) (by rw [show wBo (cmW wj (12 * m + ((B : Int) + j)) G (boU w s i (G + C) j) k1) = wBo wj from e91 23]; exact a9) ?_ (fun t t0 t1 => ?_) (fun c n y1 y2 => blk c n (by omega)) ?_
        · have ne := ol m' b' hm y0 y1
          exact ⟨fun g g0 g1 => o2 95 _ (by omega) (by omega), fun k k0 k1 => o2 96 _ (by omega) (by omega), fun a y => o2 a _ (by omega) (by omega)⟩
        · refine sim.F.fr (fun a ha => ?_) (fun a ha => ?_) (fun a z ha _ _ _ => ?_)
          · by_cases z : 91 ≤ a ∧ a ≤ 115
            · rw [(mixQ z).1, (mixQ z).1, f1]
            · exact (blk a 1 (by omega) a (Nat.le_refl _) (by omega)).1
          · by_cases z : 91 ≤ a ∧ a ≤ 115
            · rw [(mixQ z).2.1, (mixQ z).2.1, f2]
            · exact (blk a 1 (by omega) a (Nat.le_refl _) (by omega)).2.1
          · by_cases y : 91 ≤ a ∧ a ≤ 115
            · rw [(mixQ y).2.2.2.2, (mixQ y).2.2.2.2, f3]
            · exact (blk a 1 (by omega) a (Nat.le_refl _) (by omega)).2.2.2.2 z
        · have := a8 t t0 t1
          unfold shOK at this ⊢
          rw [show wK (cmW wj (12 * m + ((B : Int) + j)) G (boU w s i (G + C) j) k1) = wK wj from e91 20, show sIs (cmW wj (12 * m + ((B : Int) + j)) G (boU w s i (G + C) j) k1) t = sIs wj t from o2 112 t (by omega) (by omega), show sSo (cmW wj (12 * m + ((B : Int) + j)) G (boU w s i (G + C) j) k1) t = sSo wj t from o2 113 t (by omega) (by omega), show sSz (cmW wj (12 * m + ((B : Int) + j)) G (boU w s i (G + C) j) k1) t = sSz wj t from o2 114 t (by omega) (by omega)]
          exact this
        · exact sim.C.kp (blk _ _ (by omega)) (e91 0) (e91 20) (e91 19) (fun z _ _ => o2 109 z (by omega) (by omega)) (fun z _ _ => o2 111 z (by omega) (by omega)) (e91 23) (fun _ _ => rfl) (fun _ _ _ => rfl)
        · exact (sim.S t0 t1).kp (blk _ _ (by omega)) (o2 113 t (by omega) (by omega)) (o2 114 t (by omega) (by omega)) (o2 112 t (by omega) (by omega)) (fun _ => rfl) (fun z _ _ => by unfold sEl; rw [o1])
        · rw [gC_mix, gC_mix]; exact Nat.le_refl _
end Q
