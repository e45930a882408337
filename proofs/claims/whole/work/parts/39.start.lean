def R_law : String := "VotedForLaw"
def lw_P (b : Addr) (xs : List Int32) (args : Array Value) (s : State) : Prop := args = #[.ref b] ∧ s.IntsAt b xs ∧ xs.length ≤ 3072 ∧ (Jvm.Cond.and given_1 narrow_1).before args s = true
def lw_Q (_ : Array Value) (s : State) (o : Outcome) (t : State) : Prop := o = .returned (some (.int 1)) ∧ Framed s o t [] 600000 7302250
def lw_Z (below : List Frame) (a : Array Value) (s : State) : State → Prop := fun t => ∃ o, t.status = .running ∧ Ended t below o ∧ lw_Q a s o t
/-- the law's own end, with 1 on the stack, nothing written that was there before, its room as the claim has it -/
theorem lw_ret {p : Program} {l : Launch} {e : Env} {s : State} {m : MethodId} {below : List Frame} {meth : Method} {c : Code} {b : Nat} (hx : p.tables.exec = Jvm.exec) (hb : c.code = code) (hr : meth.sig.returnType = ret) (hlocks : meth.locks = false) {pc : Nat} {H : Heap} {ls : Array Slot} (hdg : decode code pc = .ok (.ireturn, 1)) : W p l e room_1 s m #[Value.ref b] below meth c H [] 600000 7302250 (lw_Z below #[Value.ref b] s) (F0 m pc ls [.int 1]) := by
  intro T hT X
  obtain ⟨fs, hret, hrun, hended, hW, hframe⟩ := X.leave (v := some (.int 1)) (hlocks := hlocks) (fun h => by rw [hr] at h; cases h)
  have hmeth' : T.vm.method? m = some meth := X.method'
  refine ⟨T.setFrames fs, ?_, .returned (some (.int 1)), hrun, hended, rfl, ⟨_, rfl⟩, hW, hframe⟩
  jvm_step X.here [X.here.top, hx, hb, hdg, hmeth', hr, ret, narrow_b1]
  (try refine ⟨rfl, ?_⟩); (try refine ⟨rfl, ?_⟩)
  first | (intro acts; rw [hret _ acts rfl rfl rfl]) | rw [hret _ _ rfl rfl rfl]
  exact Steps.refl _
/-- what holds at the law's entry: the machine, the code, the tables' words (any of lw_tbl by 'hts w (by decide +kernel)'), the script of L ints xs at the cell b, what the Statement gives of the start (any of its parts by flat_of_before) -/
def lw_At (p : Program) (s : State) (m : MethodId) (meth : Method) (c : Code) (b L : Nat) (xs : Nat → Int32) : Prop :=
  p.tables.exec = Jvm.exec ∧ c.code = code ∧ meth.sig.returnType = ret ∧ c.maxLocals = 4 ∧ s.vm.findClass R_law = some m.cls ∧ (∀ w ∈ lw_tbl, w.before #[Value.ref b] s = true) ∧ va_X b L xs s s.heap ∧ b < s.heap.size ∧ meth.locks = false ∧ (Jvm.Cond.and given_1 narrow_1).before #[Value.ref b] s = true
/-! from the law to its start -/
theorem inst_ok {c : Nat} {r : vw_C} (h : cls[c]? = some r) : ∃ n, Cond.instantiable r.1 n ∈ gtb := by
  match c, h with
  | 0, h => cases h; exact ⟨9, tb2 107 rfl rfl⟩
  | 1, h => cases h; exact ⟨5, tb3 116 rfl rfl⟩
  | 2, h => cases h; exact ⟨3, tb4 174 rfl rfl⟩
  | 3, h => cases h; exact ⟨16, tb1 100 rfl rfl⟩
  | 4, h => cases h; exact ⟨5, tb1 163 rfl rfl⟩
  | 5, h => cases h; exact ⟨5, tb4 39 rfl rfl⟩
  | 6, h => cases h; exact ⟨7, tb2 54 rfl rfl⟩
  | 7, h => cases h; exact ⟨4, tb1 190 rfl rfl⟩
  | 8, h => cases h; exact ⟨4, tb1 78 rfl rfl⟩
  | 9, h => cases h; exact ⟨7, tb1 26 rfl rfl⟩
  | 10, h => cases h; exact ⟨2, tb1 63 rfl rfl⟩
  | 11, h => cases h; exact ⟨11, tb1 18 rfl rfl⟩
  | 12, h => cases h; exact ⟨45, tb5 63 rfl rfl⟩
  | c + 13, h => simp [cls] at h
theorem tl1 {w : Cond} (i : Nat) (h : tables_1_1[i]? = some w) : w ∈ lw_tbl := List.mem_append_right _ (show w ∈ tables_1 from List.mem_append_left _ (List.mem_of_getElem? h))
theorem tl2 {w : Cond} (i : Nat) (h : tables_1_2[i]? = some w) : w ∈ lw_tbl := List.mem_append_right _ (show w ∈ tables_1 from List.mem_append_right _ (List.mem_append_left _ (List.mem_of_getElem? h)))
theorem tl3 {w : Cond} (i : Nat) (h : tables_1_3[i]? = some w) : w ∈ lw_tbl := List.mem_append_right _ (show w ∈ tables_1 from List.mem_append_right _ (List.mem_append_right _ (List.mem_append_left _ (List.mem_of_getElem? h))))
theorem tl4 {w : Cond} (i : Nat) (h : tables_1_4[i]? = some w) : w ∈ lw_tbl := List.mem_append_right _ (show w ∈ tables_1 from List.mem_append_right _ (List.mem_append_right _ (List.mem_append_right _ (List.mem_append_left _ (List.mem_of_getElem? h)))))
theorem tl5 {w : Cond} (i : Nat) (h : tables_1_5[i]? = some w) : w ∈ lw_tbl := List.mem_append_right _ (show w ∈ tables_1 from List.mem_append_right _ (List.mem_append_right _ (List.mem_append_right _ (List.mem_append_right _ (List.mem_append_left _ (List.mem_of_getElem? h))))))
theorem tl6 {w : Cond} (i : Nat) (h : tables_1_6[i]? = some w) : w ∈ lw_tbl := List.mem_append_right _ (show w ∈ tables_1 from List.mem_append_right _ (List.mem_append_right _ (List.mem_append_right _ (List.mem_append_right _ (List.mem_append_right _ (List.mem_append_left _ (List.mem_of_getElem? h)))))))
theorem tl7 {w : Cond} (i : Nat) (h : tables_1_7[i]? = some w) : w ∈ lw_tbl := List.mem_append_right _ (show w ∈ tables_1 from List.mem_append_right _ (List.mem_append_right _ (List.mem_append_right _ (List.mem_append_right _ (List.mem_append_right _ (List.mem_append_right _ (List.mem_of_getElem? h)))))))
theorem nst_in : ∀ t ∈ nst, Cond.methodLinkNest t.1 t.2.1 t.2.2.1 t.2.2.2 ∈ lw_tbl := List.forall_mem_cons.mpr ⟨tl1 27 rfl, List.forall_mem_cons.mpr ⟨tl1 64 rfl, List.forall_mem_cons.mpr ⟨tl1 79 rfl, List.forall_mem_cons.mpr ⟨tl1 109 rfl, List.forall_mem_cons.mpr ⟨tl1 164 rfl, List.forall_mem_cons.mpr ⟨tl1 169 rfl, List.forall_mem_cons.mpr ⟨tl1 191 rfl, List.forall_mem_cons.mpr ⟨tl3 53 rfl, List.forall_mem_cons.mpr ⟨tl4 198 rfl, List.forall_mem_cons.mpr ⟨tl4 212 rfl, List.forall_mem_cons.mpr ⟨tl4 217 rfl, List.forall_mem_cons.mpr ⟨tl4 222 rfl, fun _ h => absurd h List.not_mem_nil⟩⟩⟩⟩⟩⟩⟩⟩⟩⟩⟩⟩
theorem aov_in : ∀ C ∈ aov, Cond.arrayOver (.object C) ∈ lw_tbl := List.forall_mem_cons.mpr ⟨tl1 108 rfl, List.forall_mem_cons.mpr ⟨tl2 61 rfl, List.forall_mem_cons.mpr ⟨tl1 59 rfl, List.forall_mem_cons.mpr ⟨tl1 57 rfl, List.forall_mem_cons.mpr ⟨tl1 61 rfl, List.forall_mem_cons.mpr ⟨tl1 106 rfl, fun _ h => absurd h List.not_mem_nil⟩⟩⟩⟩⟩⟩
def h0 (L : Nat) (xs : Nat → Int32) : AH := (fun _ => 0, fun a => if a = 2 then L else 0, fun a j => if a = 2 then xs j else 0, fun _ _ => 0, fun _ _ => 0, 3, 0)
theorem fr_narrow {s t : State} {o : Outcome} {L : List Loc} {k n k' n' : Nat} (h : FrameEnd s o t L k n) (hL : ∀ q ∈ L, s.heap.size ≤ q.base) (hk : k ≤ k') (hn : n ≤ n') : Framed s o t [] k' n' := by
  obtain ⟨hv, hw, h1, h2, h3, h4, h5, h6⟩ := h
  refine ⟨hv, hw, h1, h2, by omega, h4, by omega, fun a c hc => ?_⟩
  obtain ⟨c', e1, e2, e3, e4⟩ := h6 a c hc
  refine ⟨c', e1, e2, e3, fun i _ => e4 i (fun hm => ?_)⟩
  have hq : s.heap.size ≤ a := hL _ hm
  exact absurd (Nat.lt_of_lt_of_le (Array.getElem?_eq_some_iff.mp hc).1 hq) (Nat.lt_irrefl _)
theorem arr_pr {s : State} {args : Array Value} {ty : FieldType} (h : (Cond.arrayClass ty).before args s = true) (hr : refKind ty = false) : ∃ cA : ClassId, ArrOfT s cA ty ∧ s.vm.findClass ("[" ++ ty.toString) = some cA := by
  obtain ⟨cA, kA, comp, h1, h2, h3⟩ := Cond.arrayClass_spec h
  refine ⟨cA, fun n z => ⟨fun k h => ?_, kA, h2, comp, h3⟩, h1⟩
  cases h
theorem arr_ob {s : State} {args : Array Value} {C : String} (h : (Cond.arrayOver (.object C)).before args s = true) : ∃ cA : ClassId, ArrOfT s cA (.object C) ∧ va_RA s cA (.object C) := by
  obtain ⟨comp, cA, kA, h1, -, h2, h3, h4⟩ := Cond.arrayOver_spec h
  exact ⟨cA, fun n z => ⟨fun k h => (by cases h), kA, h2, comp, h3⟩, kA, comp, h2, h3, h1, h4⟩
theorem tyl_ok {s : State} {y1 y2 y3 y10 y11 y12 y16 y17 y18 : ClassId} (z1 : ArrOfT s y1 (.int)) (w1 : va_RA s y1 (.int)) (z2 : ArrOfT s y2 (.long)) (w2 : va_RA s y2 (.long)) (z3 : ArrOfT s y3 (.boolean)) (w3 : va_RA s y3 (.boolean)) (z10 : ArrOfT s y10 (.object RX0)) (w10 : va_RA s y10 (.object RX0)) (z11 : ArrOfT s y11 (.object RX1)) (w11 : va_RA s y11 (.object RX1)) (z12 : ArrOfT s y12 (.object RX2)) (w12 : va_RA s y12 (.object RX2)) (z16 : ArrOfT s y16 (.object RX6)) (w16 : va_RA s y16 (.object RX6)) (z17 : ArrOfT s y17 (.object RX7)) (w17 : va_RA s y17 (.object RX7)) (z18 : ArrOfT s y18 (.object RX8)) (w18 : va_RA s y18 (.object RX8)) : ∀ (k : Nat) (q : ClassId × FieldType), [(y1, .int), (y2, .long), (y3, .boolean), (y10, .object RX0), (y11, .object RX1), (y12, .object RX2), (y16, .object RX6), (y17, .object RX7), (y18, .object RX8)][k]? = some q → ArrOfT s q.1 q.2 ∧ va_RA s q.1 q.2 := by
  intro k q hq
  match k, hq with
  | 0, hq => cases hq; exact ⟨z1, w1⟩
  | 1, hq => cases hq; exact ⟨z2, w2⟩
  | 2, hq => cases hq; exact ⟨z3, w3⟩
  | 3, hq => cases hq; exact ⟨z10, w10⟩
  | 4, hq => cases hq; exact ⟨z11, w11⟩
  | 5, hq => cases hq; exact ⟨z12, w12⟩
  | 6, hq => cases hq; exact ⟨z16, w16⟩
  | 7, hq => cases hq; exact ⟨z17, w17⟩
  | 8, hq => cases hq; exact ⟨z18, w18⟩
  | k + 9, hq => simp at hq
set_option maxHeartbeats 4000000 in
set_option maxRecDepth 100000 in
theorem start_of {p : Program} {e : Env} {s : State} {m : MethodId} {below : List Frame} {meth : Method} {c : Code} (l : Launch) {b L : Nat} {xs : Nat → Int32} (C0 : lw_At p s m meth c b L xs) {h1 : AH} (hf : f_L_law 2 (h0 L xs) = some (1, h1)) (hC : gC h1 ≤ 600003) (hSl : gS h1 ≤ 7302250) : W p l e room_1 s m #[Value.ref b] below meth c s.heap [] 0 0 (lw_Z below #[Value.ref b] s) (entryFrame m ([Value.ref b] : List Value).toArray 4) := by
  obtain ⟨hx, hb, hr, hml, hown, hts, hX, hbl, hlocks, hgv⟩ := id C0
  have htg : ∀ w ∈ gtb, w.before #[Value.ref b] s = true := fun w hw => hts w (List.mem_filter.mp hw).1
  have hfl := flat_of_before _ hgv
  have hA : ∀ a : Nat, a < s.heap.size → ¬ (fun q : Nat => s.heap.size ≤ q) a := fun a ha => Nat.not_le.mpr ha
  have hk : ∀ k : Nat, ∃ q : ClassId × (Nat → Nat), ∀ r : vw_C, cls[k]? = some r → u_Kn s r.1 r.2.1 r.2.2 q.1 q.2 := by
    intro k
    cases hr : cls[k]? with
    | none => exact ⟨(0, fun _ => 0), fun r h => by cases h⟩
    | some r =>
      obtain ⟨n, hn⟩ := inst_ok hr
      obtain ⟨cC, iS, h⟩ := u_known htg (cls_ok hr).1 (htg _ hn)
      exact ⟨(cC, iS), fun r' h' => by cases h'; exact h⟩
  obtain ⟨D, hD⟩ : ∃ D : Nat → ClassId × (Nat → Nat), ∀ (k : Nat) (r : vw_C), cls[k]? = some r → u_Kn s r.1 r.2.1 r.2.2 (D k).1 (D k).2 := ⟨fun k => Classical.choose (hk k), fun k => Classical.choose_spec (hk k)⟩
  obtain ⟨y1, z1, w1⟩ := arr_pr (hts (.arrayClass .int) (tl1 55 rfl)) rfl
  obtain ⟨y2, z2, w2⟩ := arr_pr (hts (.arrayClass .long) (tl1 211 rfl)) rfl
  obtain ⟨y3, z3, w3⟩ := arr_pr (hts (.arrayClass .boolean) (tl5 204 rfl)) rfl
  obtain ⟨y10, z10, w10⟩ := arr_ob (C := RX0) (hts _ (aov_in _ (by simp [aov])))
  obtain ⟨y11, z11, w11⟩ := arr_ob (C := RX1) (hts _ (aov_in _ (by simp [aov])))
  obtain ⟨y12, z12, w12⟩ := arr_ob (C := RX2) (hts _ (aov_in _ (by simp [aov])))
  obtain ⟨y16, z16, w16⟩ := arr_ob (C := RX6) (hts _ (aov_in _ (by simp [aov])))
  obtain ⟨y17, z17, w17⟩ := arr_ob (C := RX7) (hts _ (aov_in _ (by simp [aov])))
  obtain ⟨y18, z18, w18⟩ := arr_ob (C := RX8) (hts _ (aov_in _ (by simp [aov])))
  obtain ⟨t, ht, hT⟩ := va_Tof (tm := .static "VotedFor$Knowing" "ABOVE" "[I") (ty := .int) (N := 7) (f := fun j => .int (abv j)) (A := fun q : Nat => s.heap.size ≤ q) (by decide) (hfl _ (by decide +kernel)) (va_eqt (hfl _ (by decide +kernel))) (by
    intro j hj
    rcases (show j = 0 ∨ j = 1 ∨ j = 2 ∨ j = 3 ∨ j = 4 ∨ j = 5 ∨ j = 6 by omega) with rfl | rfl | rfl | rfl | rfl | rfl | rfl
    · exact va_eqt (hfl _ (show Cond.eq (.elem (.static "VotedFor$Knowing" "ABOVE" "[I") (.int 0)) (.int (-1)) ∈ _ by decide +kernel))
    · exact va_eqt (hfl _ (show Cond.eq (.elem (.static "VotedFor$Knowing" "ABOVE" "[I") (.int 1)) (.int 0) ∈ _ by decide +kernel))
    · exact va_eqt (hfl _ (show Cond.eq (.elem (.static "VotedFor$Knowing" "ABOVE" "[I") (.int 2)) (.int 1) ∈ _ by decide +kernel))
    · exact va_eqt (hfl _ (show Cond.eq (.elem (.static "VotedFor$Knowing" "ABOVE" "[I") (.int 3)) (.int 2) ∈ _ by decide +kernel))
    · exact va_eqt (hfl _ (show Cond.eq (.elem (.static "VotedFor$Knowing" "ABOVE" "[I") (.int 4)) (.int 1) ∈ _ by decide +kernel))
    · exact va_eqt (hfl _ (show Cond.eq (.elem (.static "VotedFor$Knowing" "ABOVE" "[I") (.int 5)) (.int 1) ∈ _ by decide +kernel))
    · exact va_eqt (hfl _ (show Cond.eq (.elem (.static "VotedFor$Knowing" "ABOVE" "[I") (.int 6)) (.int 0) ∈ _ by decide +kernel))) hA
  have hZ := va_Zof (C := "VotedFor$Knowing") (n := "ABOVE") (d := "[I") (A := fun q : Nat => s.heap.size ≤ q) (hts _ (tl4 211 rfl)) (hts _ (tl1 16 rfl)) ht hA
  let Y : Nat → ClassId := fun k => if k = 1 then y1 else if k = 2 then y2 else if k = 3 then y3 else if k = 10 then y10 else if k = 11 then y11 else if k = 12 then y12 else if k = 16 then y16 else if k = 17 then y17 else y18
  let G : AG := (s.heap.size, t, b, (fun k => (D k).1, fun k => (D k).2), Y, L, xs)
  have hSx : Sx G s := by
    exact ⟨⟨hD, tyl_ok z1 w1 z2 w2 z3 w3 z10 w10 z11 w11 z12 w12 z16 w16 z17 w17 z18 w18⟩, fun t ht => va_Nw.of rfl (hts _ (nst_in t ht)), fun C hC => va_AO.of (hts _ (aov_in C hC)), hZ, hT, hX, hbl, Nat.not_le.mpr hbl⟩
  have hHp : Hp G (h0 L xs) s.heap := ⟨Nat.le_refl _, rfl, fun a ha => absurd rfl ha, rfl, rfl⟩
  have hl := lv_entry (gs G [vR 2]) (n := 4) (Nat.le_of_ble_eq_true rfl)
  have k := e_L_law hf
  show W p l e room_1 s m #[Value.ref b] below meth c s.heap [] 0 0 (lw_Z below #[Value.ref b] s) (entryFrame m (gs G [vR 2]).toArray 4)
  rw [lg_entry_eq]
  intro T hT X
  obtain ⟨t', st, o, q1, q2, ⟨⟨q3, -⟩, -⟩, L', q4, q5⟩ := k.2.2 G p l e room_1 s m #[Value.ref b] below meth c s.heap [] 0 0 (0 + (gC h1 - gC (h0 L xs))) (0 + (gS h1 - gS (h0 L xs))) _ ⟨hx, hb, hml, hown, htg, hr, hlocks, fun h => absurd h (by decide), Nat.le_of_ble_eq_true rfl, Nat.le_of_ble_eq_true rfl, hSx, Nat.le_refl _⟩ hHp va_S.rf rfl (by show 0 + (gC h1 - 3) ≤ 600000; omega) rfl (by show 0 + (gS h1 - 0) ≤ 7302250; omega) hl T hT X
  exact ⟨t', st, o, q1, q2, q3, fr_narrow q4 q5 (by show 0 + (gC h1 - 3) ≤ 600000; omega) (by show 0 + (gS h1 - 0) ≤ 7302250; omega)⟩
