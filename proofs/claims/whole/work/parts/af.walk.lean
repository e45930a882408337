/-! the class walks the rows -/
section Q
variable {w : WD} {A : Int → Nat} {h hh h' : AH} {m g k : Int} {S : Int32}
theorem rows_mem (hW : WI w) (hl : lvM w m) {s : RoT} : s ∈ rowsS w m S ↔ RoV w m S s ∧ ∀ c : Int, (c < 0 ∨ wBx w m ≤ c) → s c = [] := by
  obtain ⟨-, -, ⟨b2, b3⟩, -⟩ := hW.mat hl
  unfold rowsS
  rw [rw_mem, show (((wBx w m).toNat : Nat) : Int) = wBx w m by omega]
  rfl
theorem KS.fw {l : Nat} (H : KS w A m S g k hh) (f : FW l hh h') : KS w A m S g k h' := by
  obtain ⟨s1, s2, s3, s4, s5, s6, s7⟩ := H
  obtain ⟨f1, f2⟩ := f
  refine ⟨by rw [f2, s1], by rw [f1 _ _ (by omega) (by omega), s2], by rw [f1 _ _ (by omega) (by omega), s3], fun b b0 b1 => by rw [f1 _ _ (by omega) (by omega), s4 b b0 b1], fun d r b e => by rw [f2, s5 d r b e], fun d r e => ?_, fun l l0 => ?_⟩
  · rw [f1 _ _ (by omega) (by omega), f1 _ _ (by omega) (by omega)]; exact s6 d r e
  · rw [f1 _ _ (by omega) (by omega)]; exact s7 l l0
theorem CT.fw {t : Nat} {T : List TR} (H : CT w A h hh t m T) (sc : Sc w A h h') (sim : Sim w A h') (f : ∀ a i : Nat, t ≤ a → a ≤ t + 3 → gI h' a i = gI hh a i) : CT w A h h' t m T := by
  obtain ⟨c, gl, cl, ⟨t1, t2, t3, t4, t5, t6⟩, r⟩ := H
  exact ⟨c, gl, cl, ⟨sc, sim, by rw [f _ _ (by omega) (by omega), t3], fun z z0 z1 => by rw [f _ _ (by omega) (by omega), t4 z z0 z1], fun z z0 z1 => by rw [f _ _ (by omega) (by omega), t5 z z0 z1], fun z z0 z1 => by rw [f _ _ (by omega) (by omega), t6 z z0 z1]⟩, r⟩
theorem CTs.fw {d : List Int} {r : RoT} (H : CTs w A h hh m r d) (sc : Sc w A h h') (sim : Sim w A h') (f : FW d.length hh h') : CTs w A h h' m r d := fun d1 d2 b e => by
  refine (H d1 d2 b e).fw sc sim (fun a i a0 a1 => f.1 a i ?_ ?_)
  · omega
  · rw [e, List.length_append, List.length_cons]; omega
/-- rows alike in the boxes of the first levels -/
def Ag (d : List Int) (r s : RoT) : Prop := ∀ b ∈ d, s b = r b
theorem held_alike (hW : WI w) (hl : lvM w m) {d rest : List Int} (hd : lvs w m S = d ++ rest) {r s : RoT} (hr : RoV w m S r) (hs : RoV w m S s) (ha : Ag d r s) {j : Int} (j0 : 0 ≤ j) (j1 : j < wH w m) (hb : bt S j) (hdue : dueN w m S j + 1 ≤ d.length) : hld w (12 * m + j) s ↔ hld w (12 * m + j) r := by
  obtain ⟨-, -, ⟨b2, b3⟩, ⟨hh1, hh2⟩, -, hH⟩ := hW.mat hl
  obtain ⟨-, -, ⟨bb0, bb1⟩, ⟨o0, o1⟩, -, ot⟩ := hH j j0 j1
  obtain ⟨n1, n2⟩ := nmB_of hl hW j0 j1 hb
  have one : ∀ b : Int, 0 ≤ b → b < wBx w m → nb w m S b = true → lvB w m S b < d.length → s b = r b := fun b b0 b1 n hlv => by
    by_cases y : gz w m S b = true
    · exact ha b (lvB_done b0 (n := (wBx w m).toNat) (by omega) hd hlv y)
    · have o : wO w (12 * m + b) = 1 := by
        obtain ⟨-, -, -, -, -, wo, -⟩ := hW.box hl b0 b1
        rcases wo with o | o
        · exact absurd (gz_iff.2 ⟨n, o⟩) y
        · exact o
      have e1 := hr b b0 b1
      have e2 := hs b b0 b1
      rw [tabS_o n o, List.mem_singleton] at e1 e2
      rw [e1, e2]
  unfold dueN at hdue
  refine hld_congr (one _ bb0 bb1 n1 ?_) (fun z => one _ o0 (ot z).1 (n2 z) ?_)
  · by_cases z : 2 ≤ hSo w (12 * m + j)
    · rw [if_pos z] at hdue; omega
    · rw [if_neg z] at hdue; omega
  · rw [if_pos z] at hdue; omega
theorem row_only (hW : WI w) (hl : lvM w m) {r s : RoT} (hr : RoV w m S r) (hs : s ∈ rowsS w m S) (ha : Ag (lvs w m S) r s) : s = rwCut r (wBx w m).toNat := by
  obtain ⟨-, -, ⟨b2, b3⟩, -⟩ := hW.mat hl
  obtain ⟨h1, h2⟩ := (rows_mem hW hl).1 hs
  funext b
  by_cases z : 0 ≤ b ∧ b < wBx w m
  · rw [rwCut_at _ z.1 (by omega)]
    by_cases y : gz w m S b = true
    · exact ha b ((gzL_mem _ _).2 ⟨z.1, by omega, y⟩)
    · have e1 := hr b z.1 z.2
      have e2 := h1 b z.1 z.2
      cases n : nb w m S b with
      | false => rw [tabS_n n, List.mem_singleton] at e1 e2; rw [e1, e2]
      | true =>
        have o : wO w (12 * m + b) = 1 := by
          obtain ⟨-, -, -, -, -, wo, -⟩ := hW.box hl z.1 z.2
          rcases wo with o | o
          · exact absurd (gz_iff.2 ⟨n, o⟩) y
          · exact o
        rw [tabS_o n o, List.mem_singleton] at e1 e2
        rw [e1, e2]
  · rw [rwCut_out _ (by omega), h2 b (by omega)]
theorem dueN_rng (hW : WI w) (hl : lvM w m) {j : Int} (j0 : 0 ≤ j) (j1 : j < wH w m) : dueN w m S j + 1 ≤ (lvs w m S).length := by
  obtain ⟨-, -, ⟨b2, b3⟩, -, -, hH⟩ := hW.mat hl
  obtain ⟨-, -, ⟨bb0, bb1⟩, ⟨o0, o1⟩, -, ot⟩ := hH j j0 j1
  have h1 := lvB_rng (S := S) (m := m) (w := w) (n := (wBx w m).toNat) bb0 (by omega)
  unfold dueN
  by_cases z : 2 ≤ hSo w (12 * m + j)
  · have h2 := lvB_rng (S := S) (m := m) (w := w) (n := (wBx w m).toNat) o0 (by have := ot z; omega)
    rw [if_pos z]
    unfold lvs; omega
  · rw [if_neg z]
    unfold lvs; omega
theorem row_ends (hW : WI w) (hl : lvM w m) (g0 : 0 ≤ g) (g1 : g < wGr w m) (k0 : 0 ≤ k) (k1 : k < wCh w m) {s : RoT} (hs : RoV w m S s) : loR w m S g k s = uLe w m S g k (wBx w m).toNat + sCe g k s (lvs w m S) ∧ hiR w m S g k s = uMo w m S g k (wBx w m).toNat + sCe g k s (lvs w m S) ∧ (0 ≤ loR w m S g k s ∧ loR w m S g k s ≤ 10000) ∧ (0 ≤ hiR w m S g k s ∧ hiR w m S g k s ≤ 10000) := by
  obtain ⟨-, -, ⟨b2, b3⟩, -⟩ := hW.mat hl
  obtain ⟨e1, e2⟩ := low_eq hW hl hs g0 g1 k0 k1 (wBx w m).toNat (by omega)
  have r1 := un_rng (S := S) hW hl g0 g1 k0 k1 (wBx w m).toNat (by omega)
  have r2 := nm_rng hW hl hs g0 g1 k0 k1 (wBx w m).toNat (by omega)
  unfold loR hiR lvs
  omega
theorem lvs_lt {d rest : List Int} {b : Int} (hd : lvs w m S = d ++ b :: rest) : ∀ x ∈ d, x ≠ b := fun x hx e => by
  have h1 := gzL_split _ _ _ _ hd
  rw [h1, e] at hx
  have := (gzL_mem _ _).1 hx
  omega
set_option maxRecDepth 100000 in
theorem c_walk (hS : Sim w A h) (hl : lvM w m) (g0 : 0 ≤ g) (g1 : g < wGr w m) (k0 : 0 ≤ k) (k1 : k < wCh w m) (hbig : bigN w m S (wBx w m).toNat ≤ 20000) {md : Option Int} (hm : mdOK md) : ∀ (rest d : List Int) (F : Nat) (r : RoT) (P : RoT → Prop) (hh : AH), lvs w m S = d ++ rest → rest.length < F → Sc w A h hh → KS w A m S g k hh → CTs w A h hh m r d → RoV w m S r → (∀ j : Int, 0 ≤ j → j < wH w m → bt S j → dueN w m S j + 1 < d.length → hld w (12 * m + j) r) → KI (loR w m S g k) (hiR w m S g k) hh P md → ∃ h' : AH, lp b_X3_walk (fun _ _ _ _ => none) F 16 (iv d.length) (iv (sCe g k r d)) hh = some h' ∧ Sc w A h h' ∧ FW d.length hh h' ∧ KI (loR w m S g k) (hiR w m S g k) h' (fun s => P s ∨ (s ∈ rowsS w m S ∧ kep w m S s ∧ Ag d r s)) md := by
  have hW := hS.W
  obtain ⟨⟨gg1, gg2⟩, ⟨gc1, gc2⟩, ⟨b2, b3⟩, ⟨hh1, hh2⟩, -⟩ := hW.mat hl
  have hL := lvs_len (S := S) hW hl
  have hU := uRng (S := S) hW hl g0 g1 k0 k1 (wBx w m).toNat (by omega)
  intro rest
  induction rest with
  | nil =>
    intro d F r P hh hd hF sc hK hC hV hdue hI
    obtain ⟨F, rfl⟩ : ∃ F', F = F' + 1 := ⟨F - 1, by omega⟩
    have sim := hS.sc sc
    have hFx := sim.F
    obtain ⟨q1, q2⟩ := c_allKept sim hl hK hV hd hC
    rw [List.append_nil] at hd
    have hdl : d.length ≤ 12 := by rw [← hd]; exact hL
    by_cases z : ∀ j : Int, 0 ≤ j → j < wH w m → bt S j → dueN w m S j + 1 = d.length → hld w (12 * m + j) r
    · have q1 := q1 z
      obtain ⟨s1, s2, s3, s4, s5, s6, s7⟩ := id hK
      obtain ⟨l20, l21⟩ := s6 d [] (by rw [List.append_nil]; exact hd)
      have e0 : sLe w m g k [] = 0 := rfl
      have e0' : sMo w m g k [] = 0 := rfl
      rw [e0, Int.add_zero] at l20
      rw [e0', Int.add_zero] at l21
      have hcut : RoV w m S (rwCut r (wBx w m).toNat) := fun b y0 y1 => by rw [rwCut_at _ y0 (by omega)]; exact hV b y0 y1
      have hrow : rwCut r (wBx w m).toNat ∈ rowsS w m S := (rows_mem hW hl).2 ⟨hcut, fun c hc => rwCut_out _ (by omega)⟩
      have hag : Ag (lvs w m S) r (rwCut r (wBx w m).toNat) := fun b hb => by
        obtain ⟨y0, y1, -⟩ := lvs_mem hb
        rw [rwCut_at _ y0 (by omega)]
      have hkep : kep w m S (rwCut r (wBx w m).toNat) := fun j j0 j1 jb => by
        have hjd := dueN_rng (S := S) hW hl j0 j1
        rw [held_alike hW hl (d := d) (rest := []) (by rw [List.append_nil]; exact hd) hV hcut (by rw [← hd]; exact hag) j0 j1 jb (by rw [← hd]; exact hjd)]
        by_cases e : dueN w m S j + 1 = d.length
        · exact z j j0 j1 jb e
        · exact hdue j j0 j1 jb (by rw [hd] at hjd; omega)
      obtain ⟨x1, x2, x3, x4⟩ := row_ends (S := S) hW hl g0 g1 k0 k1 hcut
      have hsc : sCe g k (rwCut r (wBx w m).toNat) (lvs w m S) = sCe g k r d := by rw [hd]; exact sCe_congr _ _ _ (by rw [← hd]; exact hag)
      rw [hsc] at x1 x2
      obtain ⟨h1, n1, n2, n3, n4⟩ := c_note sim hm hI (rwCut r (wBx w m).toNat) (a := sCe g k r d + uLe w m S g k (wBx w m).toNat) (b := sCe g k r d + uMo w m S g k (wBx w m).toNat) (by omega) (by omega) (by omega) (by omega)
      refine ⟨h1, ?_, sc.tr n2, n3.fw _, n4.congr fun s => ?_⟩
      · rw [hd] at s3
        simp -implicitDefEqProofs (disch := omega) only [lp_succ, F_b_X3_walk, k_X3_walk_1, k_X3_walk_2, k_X3_walk_3, K16 hFx, q1, s3, R16_6 hFx, K20 hFx, N20 hFx, R16_7 hFx, K21 hFx, N21 hFx, Int.toNat_natCast, l20, l21, n1, iv_add, iv_sub, iv_mul, iv_neg, iv_zero, iv_ltT, iv_ltF, iv_leT, iv_leF, iv_eqT, iv_eqF, iv_div, rm_iv, tn_iv, ib_iv, some_cb, some_cbv, ↓nm_eq, ↓reduceIte, true_and, and_true, Bool.true_eq_false, Bool.false_eq_true, not_false_eq_true, not_true_eq_false]
      · constructor
        · rintro (y | rfl)
          · exact Or.inl y
          · exact Or.inr ⟨hrow, hkep, by rw [← hd]; exact hag⟩
        · rintro (y | ⟨y1, y2, y3⟩)
          · exact Or.inl y
          · exact Or.inr (row_only hW hl hV y1 (by rw [hd]; exact y3))
    · have q2 := q2 z
      refine ⟨hh, ?_, sc, FW.rf _ _, hI.congr fun s => ⟨Or.inl, ?_⟩⟩
      · simp -implicitDefEqProofs (disch := omega) only [lp_succ, F_b_X3_walk, k_X3_walk_1, k_X3_walk_2, k_X3_walk_3, K16 hFx, q2, iv_add, iv_sub, iv_mul, iv_neg, iv_zero, iv_ltT, iv_ltF, iv_leT, iv_leF, iv_eqT, iv_eqF, iv_div, rm_iv, tn_iv, ib_iv, some_cb, some_cbv, ↓nm_eq, ↓reduceIte, true_and, and_true, Bool.true_eq_false, Bool.false_eq_true, not_false_eq_true, not_true_eq_false]
      · rintro (y | ⟨y1, y2, y3⟩)
        · exact y
        · exact absurd (fun j j0 j1 jb je => (held_alike hW hl (d := d) (rest := []) (by rw [List.append_nil]; exact hd) hV ((rows_mem hW hl).1 y1).1 y3 j0 j1 jb (by omega)).1 (y2 j j0 j1 jb)) z
  | cons b rest ih =>
    intro d F r P hh hd hF sc hK hC hV hdue hI
    rw [List.length_cons] at hF
    obtain ⟨F, rfl⟩ : ∃ F', F = F' + 1 := ⟨F - 1, by omega⟩
    have sim := hS.sc sc
    have hFx := sim.F
    obtain ⟨q1, q2⟩ := c_allKept sim hl hK hV hd hC
    have hlen : (lvs w m S).length = d.length + (rest.length + 1) := by rw [hd, List.length_append, List.length_cons]
    obtain ⟨bb0, bb1, bg⟩ := lvs_mem (w := w) (m := m) (S := S) (b := b) (by rw [hd]; simp)
    obtain ⟨bn, bo⟩ := gz_iff.1 bg
    have hne := lvs_lt hd
    by_cases z : ∀ j : Int, 0 ≤ j → j < wH w m → bt S j → dueN w m S j + 1 = d.length → hld w (12 * m + j) r
    · have q1 := q1 z
      have ht : Tt (24 + 4 * d.length) := Or.inr (Or.inr ⟨d.length, by omega, rfl⟩)
      have hsum : ∀ s : RoT, Ag d r s → sCe g k s d = sCe g k r d := fun s hs => sCe_congr _ _ _ hs
      have hd' : lvs w m S = (d ++ [b]) ++ rest := by rw [hd, List.append_assoc]; rfl
      have hbd : ∀ T : List TR, Ag d r (rwUp r b T) := fun T x hx => rwUp_ne _ _ (hne x hx)
      have hR := sRng hW hl g0 g1 k0 k1 (b :: rest) (fun x hx => by
        obtain ⟨y0, y1, -⟩ := lvs_mem (w := w) (m := m) (S := S) (b := x) (by rw [hd]; exact List.mem_append_right _ hx)
        exact ⟨y0, y1⟩)
      have hlr : (b :: rest).length ≤ 12 := by rw [List.length_cons]; omega
      have hSd : 0 ≤ sCe g k r d ∧ sCe g k r d ≤ 297 * 12 := by
        have : ∀ l : List Int, (∀ x ∈ l, 0 ≤ x ∧ x < wBx w m ∧ gz w m S x = true) → 0 ≤ sCe g k r l ∧ sCe g k r l ≤ 297 * l.length := by
          intro l
          induction l with
          | nil => intro _; unfold sCe; simp
          | cons x l ihx =>
            intro hx
            have i1 := ihx (fun y hy => hx y (List.mem_cons_of_mem _ hy))
            obtain ⟨x0, x1, x2⟩ := hx x List.mem_cons_self
            have i2 := tab_cell hW hl x0 x1 (hV x x0 x1) (gz_iff.1 x2).1 g0 g1 k0 (by omega)
            unfold sCe
            rw [List.length_cons]
            omega
        have := this d (fun x hx => lvs_mem (w := w) (m := m) (S := S) (by rw [hd]; exact List.mem_append_left _ hx))
        omega
      -- one table of the box
      have step : ∀ (T : List TR) (N : Nat) (p : List (List TR)) (P : RoT → Prop) (hh : AH), T ∈ bTb w m (12 * m + b) → p.length < 20000 → Sc w A h hh → KS w A m S g k hh → CTs w A h hh m r d → CT w A h hh (24 + 4 * d.length) m T → KI (loR w m S g k) (hiR w m S g k) hh P md → (lp (b_X3_walk_67 (lp b_X3_walk (fun _ _ _ _ => none) F)) (fun _ _ _ _ _ _ _ => none) (N + 1) 16 (iv d.length) (iv (sCe g k r d)) (24 + 4 * d.length) (iv 1) (iv p.length) hh = some hh ∧ ∀ Q : RoT → Prop, (∀ s, Q s → s ∈ rowsS w m S ∧ Ag d r s) → KI (loR w m S g k) (hiR w m S g k) hh (fun s => P s ∨ Q s) md) ∨ ∃ h1 : AH, lp (b_X3_walk_67 (lp b_X3_walk (fun _ _ _ _ => none) F)) (fun _ _ _ _ _ _ _ => none) (N + 1) 16 (iv d.length) (iv (sCe g k r d)) (24 + 4 * d.length) (iv 1) (iv p.length) hh = cb (f_X8_advance (24 + 4 * d.length) h1) (k_X3_walk_67_1 (lp (b_X3_walk_67 (lp b_X3_walk (fun _ _ _ _ => none) F)) (fun _ _ _ _ _ _ _ => none) N) 16 (iv d.length) (iv (sCe g k r d)) (24 + 4 * d.length) (iv p.length)) ∧ Sc w A h h1 ∧ FW d.length hh h1 ∧ CT w A h h1 (24 + 4 * d.length) m T ∧ KI (loR w m S g k) (hiR w m S g k) h1 (fun s => P s ∨ (s ∈ rowsS w m S ∧ kep w m S s ∧ Ag d r s ∧ s b = T)) md := by
        intro T N p P hh hT hp sc hK hC hCT hI
        have sim := hS.sc sc
        have hFx := sim.F
        obtain ⟨t, t01, e1, e2⟩ := c_canTell sim hl hK hm hI (d := d) (rest := b :: rest) hd (sum := sCe g k r d) rfl rfl (by omega) (by omega)
        rcases t01 with t0 | t1
        · subst t0
          refine Or.inl ⟨?_, fun Q hQ => e2 rfl Q (fun s hs => ?_)⟩
          · simp -implicitDefEqProofs (disch := omega) only [lp_succ, F_b_X3_walk_67, k_X3_walk_67_1, k_X3_walk_67_2, k_X3_walk_67_3, K16 hFx, e1, iv_add, iv_sub, iv_mul, iv_neg, iv_zero, iv_ltT, iv_ltF, iv_leT, iv_leF, iv_eqT, iv_eqF, iv_div, rm_iv, tn_iv, ib_iv, some_cb, some_cbv, ↓nm_eq, ↓reduceIte, true_and, and_true, Bool.true_eq_false, Bool.false_eq_true, not_false_eq_true, not_true_eq_false]
          · obtain ⟨hs1, hs2⟩ := hQ s hs
            have hsV := ((rows_mem hW hl).1 hs1).1
            obtain ⟨x1, x2, -⟩ := row_ends (S := S) hW hl g0 g1 k0 k1 hsV
            have x3 := sEnds hW hl g0 g1 k0 k1 hsV (b :: rest) (fun x hx => lvs_mem (w := w) (m := m) (S := S) (by rw [hd]; exact List.mem_append_right _ hx))
            rw [hd, sCe_app, hsum s hs2] at x1 x2
            omega
        · subst t1
          have hTs : T ∈ tabS w m S b := by rw [tabS_t bn bo]; exact hT
          have hTl := tab_len hW hl bb0 bb1 hTs bn
          have hTc := tab_cell hW hl bb0 bb1 hTs bn g0 g1 k0 (by omega)
          obtain ⟨c1, c2, c3, c4, c5⟩ := ct_cell hCT ht (g := g) (k := k) (z := 3 * g + k) g0 (by omega) k0 (by omega) rfl (by omega)
          have s2 := hK.2.1
          have hV' : RoV w m S (rwUp r b T) := fun x x0 x1 => by
            by_cases e : x = b
            · subst e; rw [rwUp_same]; exact hTs
            · rw [rwUp_ne _ _ e]; exact hV x x0 x1
          have hC' : CTs w A h hh m (rwUp r b T) (d ++ [b]) := fun d1 d2 x e => by
            rcases List.eq_nil_or_concat d2 with q | ⟨d3, y, q⟩
            · subst q
              obtain ⟨y1, y2⟩ := List.append_inj' e rfl
              injection y2 with y3 _
              rw [← y1, ← y3, rwUp_same]; exact hCT
            · subst q
              have e' : d ++ [b] = (d1 ++ x :: d3) ++ [y] := by rw [e]; simp
              obtain ⟨y1, y2⟩ := List.append_inj' e' rfl
              rw [rwUp_ne _ _ (hne x (by rw [y1]; simp))]
              exact hC d1 d3 x y1
          have hdue' : ∀ j : Int, 0 ≤ j → j < wH w m → bt S j → dueN w m S j + 1 < (d ++ [b]).length → hld w (12 * m + j) (rwUp r b T) := fun j j0 j1 jb je => by
            rw [List.length_append, List.length_singleton] at je
            rw [held_alike hW hl hd hV hV' (hbd T) j0 j1 jb (by omega)]
            by_cases e : dueN w m S j + 1 = d.length
            · exact z j j0 j1 jb e
            · exact hdue j j0 j1 jb (by omega)
          obtain ⟨h1, r1, r2, r3, r4⟩ := ih (d ++ [b]) F (rwUp r b T) P hh hd' (by omega) sc hK hC' hV' hdue' hI
          have hls : (d ++ [b]).length = d.length + 1 := by rw [List.length_append]; rfl
          have hsc : sCe g k (rwUp r b T) (d ++ [b]) = sCe g k r d + tcl T g.toNat k := by
            rw [sCe_app, hsum _ (hbd T)]
            show _ + (tcl (rwUp r b T b) g.toNat k + 0) = _
            rw [rwUp_same, Int.add_zero]
          rw [hls] at r3
          rw [hls, hsc, show ((d.length + 1 : Nat) : Int) = (d.length : Int) + 1 by omega] at r1
          have sim1 := hS.sc r2
          have k1' := (ht.ok sim1.F).1
          refine Or.inr ⟨h1, ?_, r2, r3.up, hCT.fw r2 sim1 (fun a i a0 a1 => r3.1 a i (by omega) (by omega)), r4.congr fun s => ?_⟩
          · simp -implicitDefEqProofs (disch := omega) only [lp_succ, F_b_X3_walk_67, k_X3_walk_67_2, k_X3_walk_67_3, K16 hFx, e1, c1, c2, c3, c4, c5, s2, r1, k1', iv_add, iv_sub, iv_mul, iv_neg, iv_zero, iv_ltT, iv_ltF, iv_leT, iv_leF, iv_eqT, iv_eqF, iv_div, rm_iv, tn_iv, ib_iv, some_cb, some_cbv, ↓nm_eq, ↓reduceIte, true_and, and_true, Bool.true_eq_false, Bool.false_eq_true, not_false_eq_true, not_true_eq_false]
          · constructor
            · rintro (y | ⟨y1, y2, y3⟩)
              · exact Or.inl y
              · refine Or.inr ⟨y1, y2, fun x hx => ?_, ?_⟩
                · rw [y3 x (List.mem_append_left _ hx), rwUp_ne _ _ (hne x hx)]
                · rw [y3 b (by simp), rwUp_same]
            · rintro (y | ⟨y1, y2, y3, y4⟩)
              · exact Or.inl y
              · refine Or.inr ⟨y1, y2, fun x hx => ?_⟩
                rcases List.mem_append.mp hx with hx | hx
                · rw [y3 x hx, rwUp_ne _ _ (hne x hx)]
                · rw [List.mem_singleton] at hx
                  rw [hx, y4, rwUp_same]
      have hcnt : (bTb w m (12 * m + b)).length ≤ 20000 := by
        obtain ⟨-, -, -, -, -, -, hn⟩ := box_all hW hl bb0 bb1
        have eF : bigF w m S b = cnX w m (12 * m + b) := bigF_y ⟨nb_t.1 bn, by omega⟩
        by_cases q : 20000 < bigF w m S b
        · have e : ((b.toNat : Nat) : Int) = b := by omega
          have u1 := bigN_big (S := S) hW hl (j := b.toNat) (by omega) (by rw [e]; exact q)
          have u2 := bigN_up (S := S) hW hl (b.toNat + 1) ((wBx w m).toNat - (b.toNat + 1)) (by omega)
          rw [show b.toNat + 1 + ((wBx w m).toNat - (b.toNat + 1)) = (wBx w m).toNat by omega] at u2
          omega
        · omega
      -- the loop over the box's tables
      have loop : ∀ (l : List (List TR)) (T : List TR) (N : Nat) (p : List (List TR)) (P : RoT → Prop) (hh : AH), bTb w m (12 * m + b) = p ++ T :: l → l.length + 1 < N → Sc w A h hh → KS w A m S g k hh → CTs w A h hh m r d → CT w A h hh (24 + 4 * d.length) m T → KI (loR w m S g k) (hiR w m S g k) hh P md → ∃ h' : AH, lp (b_X3_walk_67 (lp b_X3_walk (fun _ _ _ _ => none) F)) (fun _ _ _ _ _ _ _ => none) N 16 (iv d.length) (iv (sCe g k r d)) (24 + 4 * d.length) (iv 1) (iv p.length) hh = some h' ∧ Sc w A h h' ∧ FW d.length hh h' ∧ KI (loR w m S g k) (hiR w m S g k) h' (fun s => P s ∨ (s ∈ rowsS w m S ∧ kep w m S s ∧ Ag d r s ∧ s b ∈ T :: l)) md := by
        intro l
        induction l with
        | nil =>
          intro T N p P hh hb hN sc hK hC hCT hI
          obtain ⟨N, rfl⟩ : ∃ N', N = N' + 1 + 1 := ⟨N - 2, by simp at hN; omega⟩
          have hT : T ∈ bTb w m (12 * m + b) := by rw [hb]; simp
          have hpl : p.length < 20000 := by rw [hb, List.length_append, List.length_cons] at hcnt; omega
          rcases step T (N + 1) p P hh hT hpl sc hK hC hCT hI with ⟨e1, e2⟩ | ⟨h1, e1, sc1, f1, ct1, i1⟩
          · exact ⟨hh, e1, sc, FW.rf _ _, e2 _ (fun s hs => ⟨hs.1, hs.2.2.1⟩)⟩
          · have adv := c_advance hW ht hl bb0 bb1 ct1 (bTb_ok w m _ hT)
            have hCs := (bTb_chain hW hl bb0 bb1).1
            rw [hb] at hCs
            rw [Cs_at _ _ _ _ hCs] at adv
            obtain ⟨h2, a1, a2, a3⟩ := adv
            refine ⟨h2, ?_, a2, f1.tr (a3.fw (by omega)), (i1.fr (fun i => a3.1 16 i (by omega))).congr fun s => ?_⟩
            · rw [e1]
              by_cases y : 20000 ≤ (p.length : Int) + 1
              · simp -implicitDefEqProofs (disch := omega) only [k_X3_walk_67_1, a1, lp_succ, F_b_X3_walk_67, iv_add, iv_sub, iv_mul, iv_neg, iv_zero, iv_ltT, iv_ltF, iv_leT, iv_leF, iv_eqT, iv_eqF, iv_div, rm_iv, tn_iv, ib_iv, some_cb, some_cbv, ↓nm_eq, ↓reduceIte, true_and, and_true, Bool.true_eq_false, Bool.false_eq_true, not_false_eq_true, not_true_eq_false]
              · simp -implicitDefEqProofs (disch := omega) only [k_X3_walk_67_1, a1, lp_succ, F_b_X3_walk_67, iv_add, iv_sub, iv_mul, iv_neg, iv_zero, iv_ltT, iv_ltF, iv_leT, iv_leF, iv_eqT, iv_eqF, iv_div, rm_iv, tn_iv, ib_iv, some_cb, some_cbv, ↓nm_eq, ↓reduceIte, true_and, and_true, Bool.true_eq_false, Bool.false_eq_true, not_false_eq_true, not_true_eq_false]
            · rw [List.mem_singleton]
        | cons T2 l ihl =>
          intro T N p P hh hb hN sc hK hC hCT hI
          rw [List.length_cons] at hN
          obtain ⟨N, rfl⟩ : ∃ N', N = N' + 1 := ⟨N - 1, by omega⟩
          have hT : T ∈ bTb w m (12 * m + b) := by rw [hb]; simp
          have hpl : p.length < 20000 := by rw [hb, List.length_append, List.length_cons] at hcnt; omega
          rcases step T N p P hh hT hpl sc hK hC hCT hI with ⟨e1, e2⟩ | ⟨h1, e1, sc1, f1, ct1, i1⟩
          · exact ⟨hh, e1, sc, FW.rf _ _, e2 _ (fun s hs => ⟨hs.1, hs.2.2.1⟩)⟩
          · have adv := c_advance hW ht hl bb0 bb1 ct1 (bTb_ok w m _ hT)
            have hCs := (bTb_chain hW hl bb0 bb1).1
            rw [hb] at hCs
            rw [Cs_at _ _ _ _ hCs] at adv
            obtain ⟨h2, a1, a2, a3⟩ := adv
            have sc2 : Sc w A h h2 := by obtain ⟨c, gl, cl, t1, -⟩ := a2; exact t1.1
            have f2 := f1.tr (a3.fw (l := d.length) (by omega))
            have sim2 := hS.sc sc2
            obtain ⟨h', b1, b2, b3, b4⟩ := ihl T2 N (p ++ [T]) _ h2 (by rw [hb, List.append_assoc]; rfl) (by omega) sc2 (hK.fw f2) (hC.fw sc2 sim2 f2) a2 (i1.fr (fun i => a3.1 16 i (by omega)))
            refine ⟨h', ?_, b2, f2.tr b3, b4.congr fun s => ?_⟩
            · rw [e1, ← b1, List.length_append, List.length_singleton, show ((p.length + 1 : Nat) : Int) = (p.length : Int) + 1 by omega]
              simp -implicitDefEqProofs (disch := omega) only [k_X3_walk_67_1, a1, iv_add, iv_sub, iv_mul, iv_neg, iv_zero, iv_ltT, iv_ltF, iv_leT, iv_leF, iv_eqT, iv_eqF, iv_div, rm_iv, tn_iv, ib_iv, some_cb, some_cbv, ↓nm_eq, ↓reduceIte, true_and, and_true, Bool.true_eq_false, Bool.false_eq_true, not_false_eq_true, not_true_eq_false]
            · rw [List.mem_cons (a := s b) (b := T)]
              constructor
              · rintro ((y | ⟨y1, y2, y3, y4⟩) | ⟨y1, y2, y3, y4⟩)
                · exact Or.inl y
                · exact Or.inr ⟨y1, y2, y3, Or.inl y4⟩
                · exact Or.inr ⟨y1, y2, y3, Or.inr y4⟩
              · rintro (y | ⟨y1, y2, y3, y4 | y4⟩)
                · exact Or.inl (Or.inl y)
                · exact Or.inl (Or.inr ⟨y1, y2, y3, y4⟩)
                · exact Or.inr ⟨y1, y2, y3, y4⟩
      obtain ⟨h1, a1, a2, a3⟩ := c_start hS sc ht hl bb0 bb1
      have sc1 : Sc w A h h1 := by obtain ⟨c, gl, cl, t1, -⟩ := a2; exact t1.1
      have f1 := a3.fw (l := d.length) (by omega)
      have sim1 := hS.sc sc1
      obtain ⟨-, hh0⟩ := bTb_chain hW hl bb0 bb1
      cases eb : bTb w m (12 * m + b) with
      | nil => rw [eb] at hh0; exact absurd hh0 (by simp)
      | cons T0 l0 =>
        rw [eb, List.head?_cons] at hh0
        rw [← Option.some.inj hh0] at a2
        rw [eb, List.length_cons] at hcnt
        obtain ⟨h', b1, b2', b3', b4⟩ := loop l0 T0 FU [] P h1 (by rw [eb]; rfl) (FU_gt (by omega)) sc1 (hK.fw f1) (hC.fw sc1 sim1 f1) a2 (hI.fr (fun i => a3.1 16 i (by omega)))
        refine ⟨h', ?_, b2', f1.tr b3', b4.congr fun s => ?_⟩
        · obtain ⟨s1, s2, s3, s4, s5, s6, s7⟩ := id hK
          have s5 := s5 d rest b hd
          rw [hlen] at s3
          have h17 : gR hh 17 d.length = 24 + 4 * d.length := (hFx.2.2.2.2.1 d.length (by omega)).1
          have kt := (ht.ok hFx).1
          change lp (b_X3_walk_67 (lp b_X3_walk (fun _ _ _ _ => none) F)) (fun _ _ _ _ _ _ _ => none) FU 16 (iv d.length) (iv (sCe g k r d)) (24 + 4 * d.length) (iv 1) (iv 0) h1 = some h' at b1
          rw [show ((d.length + (rest.length + 1) : Nat) : Int) = (d.length : Int) + ((rest.length : Int) + 1) by omega] at s3
          simp -implicitDefEqProofs (disch := omega) only [lp_succ, F_b_X3_walk, k_X3_walk_1, k_X3_walk_2, k_X3_walk_3, f_X3_walk_67, K16 hFx, q1, s3, R16_3 hFx, K17 hFx, N17 hFx, R16_4 hFx, K18 hFx, N18 hFx, Int.toNat_natCast, h17, kt, s5, a1, b1, iv_add, iv_sub, iv_mul, iv_neg, iv_zero, iv_ltT, iv_ltF, iv_leT, iv_leF, iv_eqT, iv_eqF, iv_div, rm_iv, tn_iv, ib_iv, some_cb, some_cbv, ↓nm_eq, ↓reduceIte, true_and, and_true, Bool.true_eq_false, Bool.false_eq_true, not_false_eq_true, not_true_eq_false]
        · constructor
          · rintro (y | ⟨y1, y2, y3, -⟩)
            · exact Or.inl y
            · exact Or.inr ⟨y1, y2, y3⟩
          · rintro (y | ⟨y1, y2, y3⟩)
            · exact Or.inl y
            · refine Or.inr ⟨y1, y2, y3, ?_⟩
              have := ((rows_mem hW hl).1 y1).1 b bb0 bb1
              rw [tabS_t bn bo, eb] at this
              exact this
    · have q2 := q2 z
      refine ⟨hh, ?_, sc, FW.rf _ _, hI.congr fun s => ⟨Or.inl, ?_⟩⟩
      · simp -implicitDefEqProofs (disch := omega) only [lp_succ, F_b_X3_walk, k_X3_walk_1, k_X3_walk_2, k_X3_walk_3, K16 hFx, q2, iv_add, iv_sub, iv_mul, iv_neg, iv_zero, iv_ltT, iv_ltF, iv_leT, iv_leF, iv_eqT, iv_eqF, iv_div, rm_iv, tn_iv, ib_iv, some_cb, some_cbv, ↓nm_eq, ↓reduceIte, true_and, and_true, Bool.true_eq_false, Bool.false_eq_true, not_false_eq_true, not_true_eq_false]
      · rintro (y | ⟨y1, y2, y3⟩)
        · exact y
        · exact absurd (fun j j0 j1 jb je => (held_alike hW hl hd hV ((rows_mem hW hl).1 y1).1 y3 j0 j1 jb (by omega)).1 (y2 j j0 j1 jb)) z
end Q
