/-! methods: from the entry, and called -/
def Mok (mi : MI) (n : Nat) : Prop := Cond.code mi.1 mi.2.1 mi.2.2.1 mi.2.2.2 ∈ gtb ∧ Cond.initialized mi.1.cls ∈ gtb ∧ (mi.1.cls ≠ "java/lang/invoke/MethodHandle" ∧ mi.1.cls ≠ "java/lang/invoke/VarHandle" ∧ (parseMethodDescriptor mi.1.desc).map (fun d => d.parameters.length) = some n) ∧ mi.2.2.1 ≤ 45 ∧ plainFor mi.1 = true
def amA : Nat → List AV → List (Nat × AV)
  | _, [] => []
  | i, v :: vs => (i, v) :: amA (if acat v = 2 then i + 2 else i + 1) vs
theorem amA_ok (G : AG) : ∀ (i : Nat) (vs : List AV), lv_args i (gs G vs) = gl G (amA i vs)
  | _, [] => rfl
  | i, v :: vs => by
    have ih := amA_ok G (if acat v = 2 then i + 2 else i + 1) vs
    show (i, gv G v) :: lv_args (if (gv G v).category = 2 then i + 2 else i + 1) (gs G vs) = (i, gv G v) :: gl G (amA _ vs)
    rw [acat_ok, ih]
theorem lg_len (G : AG) : ∀ vs : List AV, (lg_sl (gs G vs)).length = scat vs
  | [] => rfl
  | v :: vs => by
    have ih := lg_len G vs
    have e1 : lg_sl (gs G (v :: vs)) = (if (gv G v).category = 2 then [.val (gv G v), .second] else [.val (gv G v)]) ++ lg_sl (gs G vs) := rfl
    have e2 : scat (v :: vs) = acat v + scat vs := by unfold scat; simp
    rw [e1, List.length_append, ih, e2, acat_ok]
    have e3 : acat v = 1 ∨ acat v = 2 := by unfold acat; split <;> simp
    rcases e3 with e3 | e3 <;> simp [e3]
theorem Met.ofWF {l : Launch} {y : MethodName} {ws ws' : List Cond} {rm : Room} {Pc : Array Value → State → Prop} {Qc : Array Value → State → Outcome → State → Prop} {mc ms : Nat} {free : Addr → Prop} {cc : ByteArray} {maxL : Nat} {ret : Option FieldType}
    (hy : plainFor y = true) (hw : ws = Cond.code y cc maxL ret :: ws')
    (body : ∀ p e s m args below meth c s₁, BodyLoose p l y (headSpec ws rm) cc maxL ret e s m args below meth c s₁ → c.maxLocals = maxL → Pc args s →
      W p l e (headSpec ws rm).room s m args below meth c s.heap [] 0 0 (MQ below Qc args s mc ms free) (entryFrame m args maxL)) : Met l y ws rm Pc Qc mc ms free := by
  refine MetFree.of_bodySF (code := cc) (maxLocals := maxL) (ret := ret) hy ?_ ?_
  · intro args s m h hn
    obtain ⟨meth, c, h1, h2, h3, h4, h5, h6, -, -⟩ := Cond.code_spec hn (atoms_spec (ws := ws) h _ (by rw [hw]; exact List.mem_cons_self))
    exact ⟨meth, c, h1, h2, h3, h4, h5, h6⟩
  · intro p e s m args below meth c s₁ B hml hP _
    have hh0 : s₁.heap = s.heap := by rw [B.state]; rfl
    obtain ⟨t, a1, o, b1, b2, b3⟩ := body p e s m args below meth c s₁ B hml hP s₁ hh0 (Stand.of_body B)
    exact ⟨t, o, a1, b1, b2, ⟨b3.1, b3.2⟩⟩
theorem MetA.intro {mi : MI} {d n : Nat} {as : List AV} {h : AH} {res : Option AV × AH} (hok : Mok mi n) (hn : scat as ≤ mi.2.2.1) (k : WA mi d 0 (amA 0 as) [] h res) : MetA mi d as h res := by
  refine ⟨k.1, k.2.1, fun G l => Met.ofWF (cc := mi.2.1) (maxL := mi.2.2.1) (ret := mi.2.2.2) hok.2.2.2.2 rfl ?_⟩
  intro p e s m args below meth c s₁ B hml hv
  obtain ⟨rfl, hH, hX, hB⟩ := hv
  have hts := atoms_spec (ws := mws mi) B.pre
  rw [lg_entry_eq]
  have hl := lv_entry (gs G as) (n := mi.2.2.1) (by rw [lg_len]; exact hn)
  rw [amA_ok] at hl
  exact k.2.2 G p l e _ s m _ below meth c s.heap [] 0 0 _ _ _ ⟨B.exec, B.bytes, hml, findClass_of_methodNamed B.named, fun w hw => hts w (List.mem_cons_of_mem _ hw), B.returns, B.notSynchronized, fun hi => (name_of_methodNamed B.named B.method).1.trans hi, Nat.le_refl _, Nat.le_refl _, hX, hB⟩ hH va_S.rf (Nat.zero_add _) (Nat.le_refl _) (Nat.zero_add _) (Nat.le_refl _) hl
theorem Sx.same {G : AG} {U V : State} (hv : U.vm = V.vm) (hh : U.heap = V.heap) (h : Sx G U) : Sx G V := by
  obtain ⟨h1, h2, h3, h4, h5, h6, h7, h8⟩ := h
  have ha : U.vm.Alike V.vm := by rw [hv]; exact Vm.Alike.refl _
  refine ⟨h1.moved ha, fun t ht => va_Nw.same rfl hv (h2 t ht), fun C hC => (h3 C hC).moved ha, ?_, ?_, ?_, by rw [← hh]; exact h7, h8⟩
  · have := h4.moved ha; rw [hh] at this; exact this
  · have := h5.moved ha; rw [hh] at this; exact this
  · have := h6.moved ha; rw [hh] at this; exact this
def PcA (G : AG) (as : List AV) (h : AH) : Array Value → State → Prop := fun a U => a = (gs G as).toArray ∧ Hp G h U.heap ∧ Sx G U ∧ gB G ≤ U.heap.size
theorem PcA.blind {G : AG} {as : List AV} {h : AH} : FrameBlind (PcA G as h) := fun a U g mk q => ⟨q.1, q.2.1, Sx.same (U := U) (V := U.calling g mk a) rfl rfl q.2.2.1, q.2.2.2⟩
section HM
variable {mi mi' : MI} {d d' pc tgt n : Nat} {ls ls' : List (Nat × AV)} {st st0 as : List AV} {h : AH} {res r0 : Option AV × AH} {ρ α : Type} {E1 E2 : Option ρ} {q : ρ}
theorem gtb_good {w : Cond} (hw : w ∈ gtb) : w ∈ gtb ∧ ((w.onTables && w.keeps) = true ∨ ∃ ty, w = .arrayClass ty) := ⟨hw, good_of_word (List.mem_filter.mp hw).2⟩
theorem mws_good (hok : Mok mi' n) : GoodIn gtb (mws mi') := by
  intro w hw
  rcases List.mem_cons.mp hw with rfl | hw
  · exact gtb_good hok.1
  · exact gtb_good hw
/-- what a callee's start asks -/
theorem PcA.of {G : AG} {p : Program} {R : Room} {s : State} {m : MethodId} {args : Array Value} {meth : Method} {c : Code} {H : Heap} {locs : List Loc} (C : Cx mi d G p R s m args meth c) (hH : Hp G h H) (hS : va_S (gA G) s.heap H locs) (U : State) (hU : U.heap = H) (hW : s.WarmedH U.vm) : PcA G as h (gs G as).toArray U :=
  ⟨rfl, by rw [hU]; exact hH, C.2.2.2.2.2.2.2.2.2.2.1.moved hW hU hS, by rw [hU]; exact Nat.le_trans C.2.2.2.2.2.2.2.2.2.2.2 hS.1⟩
theorem WA.call (hm : MetA mi' d' as h r0)
    (f : ∀ (G : AG) (p : Program) (l : Launch) (e : Env) (R : Room) (s : State) (m : MethodId) (args : Array Value) (below : List Frame) (meth : Method) (c : Code) (H : Heap) (locs : List Loc) (cells slots : Nat) (la : Array Slot), Cx mi d G p R s m args meth c → Hp G h H → va_S (gA G) s.heap H locs → lv_has la mi.2.2.1 (gl G ls) → cells + (gC r0.2 - gC h) ≤ R.cells → slots + (gS r0.2 - gS h) ≤ R.slots →
      Met l mi'.1 (mws mi') (rmA d' (gC r0.2 - gC h) (gS r0.2 - gS h)) (PcA G as h) (Qr G r0) (gC r0.2 - gC h) (gS r0.2 - gS h) (gA G) →
      va_Run p l e R s m args below meth c H locs cells slots (gC r0.2 - gC h) (gS r0.2 - gS h) (F0 m pc la (gs G st0)) (gs G st) (Qr G r0 (gs G as).toArray) (gA G))
    (k : WA mi d (pc + 3) ls (r0.1.toList ++ st) r0.2 res) : WA mi d pc ls st0 h res := by
  have b1 := hm.1
  have b2 := hm.2.1
  have b3 := k.1
  have b4 := k.2.1
  refine ⟨by omega, by omega, fun G p l e R s m args below meth c H locs cells slots K N la C hH hS e1 e2 e3 e4 hl => ?_⟩
  intro T hT X
  obtain ⟨v, st₀, t, T', L, h0, X', hL, g1, g2, ⟨⟨hv, hHp⟩, hF1, hF2⟩, stp⟩ := f G p l e R s m args below meth c H locs cells slots la C hH hS hl (by omega) (by omega) (hm.2.2 G l) T hT X
  cases hv
  rw [h0] at hF1 hF2
  obtain ⟨t2, a1, a2⟩ := k.2.2 G p l e R s m args below meth c T'.heap (locs ++ L) (cells + (gC r0.2 - gC h)) (slots + (gS r0.2 - gS h)) K N la C (by rw [g1]; exact hHp)
    ⟨Nat.le_trans hS.1 (by rw [g1]; exact hF1), fun x h1 h2 => by rw [g1, hF2 x (Nat.lt_of_lt_of_le h1 hS.1) h2]; exact hS.2.1 x h1 h2, fun x hx => by
      rcases List.mem_append.mp hx with h | h
      · exact hS.2.2 x h
      · exact hL x h⟩ (by omega) e2 (by omega) e4 hl T' rfl X'
  refine ⟨t2, stp t2 ?_, a2⟩
  have e9 : ∀ o : Option AV, (o.map (gv G)).toList ++ gs G st = gs G (o.toList ++ st) := fun o => by cases o <;> rfl
  have e10 := e9 r0.1
  show Steps p.tables e below (T'.setTop (F0 m (pc + 3) la ((r0.1.map (gv G)).toList ++ gs G st))) t2
  rw [e10]
  exact a1
theorem callB_mi {G : AG} {p : Program} {R : Room} {s : State} {m : MethodId} {args : Array Value} {meth : Method} {c : Code} {idx mc ms : Nat} (C : Cx mi d G p R s m args meth c) (hok : Mok mi' n) (hd : d' + 1 ≤ d) (hl : Cond.methodLink mi.1.cls idx mi'.1 ∈ gtb) : CallB R s args mi.1.cls idx mi'.1 mi'.2.1 mi'.2.2.1 mi'.2.2.2 (mws mi') (rmA d' mc ms) mc ms n := by
  have hd2 := C.2.2.2.2.2.2.2.2.1
  have hd3 := C.2.2.2.2.2.2.2.2.2.1
  have h45 := hok.2.2.2.1
  exact callB_of n C.2.2.2.2.1 (mws_good hok) rfl rfl rfl (C.2.2.2.2.1 _ hok.2.1) (C.2.2.2.2.1 _ hl) hok.2.2.1 ⟨by show d' + 1 ≤ _; omega, by show 8 + (mi'.2.2.1 + 11) + 64 * d' ≤ _; omega⟩
theorem callN_mi {G : AG} {p : Program} {R : Room} {s : State} {m : MethodId} {args : Array Value} {meth : Method} {c : Code} {idx mc ms : Nat} {host : String} (C : Cx mi d G p R s m args meth c) (hok : Mok mi' n) (hd : d' + 1 ≤ d) (hl : (mi.1.cls, idx, mi'.1, host) ∈ nst) : va_CN R s args mi.1.cls idx mi'.1 host mi'.2.1 mi'.2.2.1 mi'.2.2.2 (mws mi') (rmA d' mc ms) mc ms n := by
  have hd2 := C.2.2.2.2.2.2.2.2.1
  have hd3 := C.2.2.2.2.2.2.2.2.2.1
  have h45 := hok.2.2.2.1
  exact va_cnB n C.2.2.2.2.1 (mws_good hok) rfl rfl rfl (C.2.2.2.2.2.2.2.2.2.2.1.2.1 _ hl) (C.2.2.2.2.1 _ hok.2.1) hok.2.2.1 ⟨by show d' + 1 ≤ _; omega, by show 8 + (mi'.2.2.1 + 11) + 64 * d' ≤ _; omega⟩
/-- a call's fixed facts: of an instance's method, of a static one, of a constructor; of a nest mate's private one -/
def CV (mi : MI) (idx : Nat) (mi' : MI) (n c0 : Nat) : Prop := Mok mi' n ∧ Cond.methodLink mi.1.cls idx mi'.1 ∈ gtb ∧ Cond.instanceMethod mi'.1 ∈ gtb ∧ Cond.selects mi'.1.cls mi'.1 mi'.1 ∈ gtb ∧ ∃ r : vw_C, cls[c0]? = some r ∧ r.1 = mi'.1.cls
def CS (mi : MI) (idx : Nat) (mi' : MI) (n : Nat) : Prop := Mok mi' n ∧ Cond.methodLink mi.1.cls idx mi'.1 ∈ gtb ∧ Cond.static mi'.1 ∈ gtb
def CI (mi : MI) (idx : Nat) (mi' : MI) (n : Nat) : Prop := Mok mi' n ∧ Cond.methodLink mi.1.cls idx mi'.1 ∈ gtb ∧ Cond.instanceMethod mi'.1 ∈ gtb ∧ mi'.1.name = "<init>" ∧ mi'.2.2.2 = none
def CVN (mi : MI) (idx : Nat) (mi' : MI) (n c0 : Nat) (host : String) : Prop := Mok mi' n ∧ (mi.1.cls, idx, mi'.1, host) ∈ nst ∧ Cond.instanceMethod mi'.1 ∈ gtb ∧ Cond.selects mi'.1.cls mi'.1 mi'.1 ∈ gtb ∧ ∃ r : vw_C, cls[c0]? = some r ∧ r.1 = mi'.1.cls
def CSN (mi : MI) (idx : Nat) (mi' : MI) (n : Nat) (host : String) : Prop := Mok mi' n ∧ (mi.1.cls, idx, mi'.1, host) ∈ nst ∧ Cond.static mi'.1 ∈ gtb
def CIN (mi : MI) (idx : Nat) (mi' : MI) (n : Nat) (host : String) : Prop := Mok mi' n ∧ (mi.1.cls, idx, mi'.1, host) ∈ nst ∧ Cond.instanceMethod mi'.1 ∈ gtb ∧ mi'.1.name = "<init>" ∧ mi'.2.2.2 = none
theorem gs_app (G : AG) (a b : List AV) : gs G (a ++ b) = gs G a ++ gs G b := by unfold gs; exact List.map_append
theorem gs_rev (G : AG) (a : List AV) : gs G a.reverse = (gs G a).reverse := by unfold gs; exact List.map_reverse
theorem recv {G : AG} {s : State} {H : Heap} {a c0 : Nat} {r : vw_C} (hX : Sx G s) (hH : Hp G h H) (hy : gK h a = 100 + c0) (hc : cls[c0]? = some r) : 3 ≤ a ∧ ∃ cell : Cell, H[gad G a]? = some cell ∧ cell.vm.isStatics = false ∧ s.vm.findClass r.1 = some cell.cls := by
  obtain ⟨ha, -, hP, -⟩ := hH.at (a := a) (by omega)
  rw [ent_obj hy] at hP
  exact ⟨ha, va_recv hX.1 hP (q0 := 0) hc rfl⟩
theorem WA.callV {idx c0 a : Nat} (hd : de mi pc (.invokevirtual idx) 3) (hc : CV mi idx mi' n c0) (hdd : d' + 1 ≤ d) (hy : gK h a = 100 + c0) (hn : as.length = n) (h0 : st0 = as.reverse ++ vR a :: st) (hst : scat st ≤ 8) (hm : MetA mi' d' (vR a :: as) h r0) (k : WA mi d (pc + 3) ls (r0.1.toList ++ st) r0.2 res) : WA mi d pc ls st0 h res := by
  refine WA.call hm (fun G p l e R s m args below meth c H locs cells slots la C hH hS hl z1 z2 hM => ?_) k
  obtain ⟨hok, w1, w2, w3, r, hr, hrc⟩ := hc
  have hX := C.2.2.2.2.2.2.2.2.2.2.1
  have hts := C.2.2.2.2.1
  obtain ⟨ha, hcell⟩ := recv hX hH hy hr
  rw [hrc] at hcell
  have e1 : gs G (vR a :: as) = .ref (gad G a) :: gs G as := gs_ref ha
  subst h0
  have e2 : gs G (as.reverse ++ vR a :: st) = (gs G as).reverse ++ .ref (gad G a) :: gs G st := by rw [gs_app, gs_rev, gs_ref ha]
  rw [e2, e1]
  exact va_runV (As := gs G as) (rest := gs G st) (C := mi'.1.cls) ⟨C.1, C.2.1, C.2.2.1, C.2.2.2.1, hts⟩ hM ⟨callB_mi C hok hdd w1, hts _ w2, hts _ w3⟩ ⟨PcA.blind, hcell, fun U hU hW => by rw [← e1]; exact PcA.of C hH hS U hU hW⟩ rfl (by unfold gs; rw [List.length_map]; exact hn) hl.1 rfl (lv_room (by rw [scat_ok]; exact hst)) hd ⟨z1, z2⟩
theorem WA.callVN {idx c0 a : Nat} {host : String} (hd : de mi pc (.invokevirtual idx) 3) (hc : CVN mi idx mi' n c0 host) (hdd : d' + 1 ≤ d) (hy : gK h a = 100 + c0) (hn : as.length = n) (h0 : st0 = as.reverse ++ vR a :: st) (hst : scat st ≤ 8) (hm : MetA mi' d' (vR a :: as) h r0) (k : WA mi d (pc + 3) ls (r0.1.toList ++ st) r0.2 res) : WA mi d pc ls st0 h res := by
  refine WA.call hm (fun G p l e R s m args below meth c H locs cells slots la C hH hS hl z1 z2 hM => ?_) k
  obtain ⟨hok, w1, w2, w3, r, hr, hrc⟩ := hc
  have hX := C.2.2.2.2.2.2.2.2.2.2.1
  have hts := C.2.2.2.2.1
  obtain ⟨ha, hcell⟩ := recv hX hH hy hr
  rw [hrc] at hcell
  have e1 : gs G (vR a :: as) = .ref (gad G a) :: gs G as := gs_ref ha
  subst h0
  have e2 : gs G (as.reverse ++ vR a :: st) = (gs G as).reverse ++ .ref (gad G a) :: gs G st := by rw [gs_app, gs_rev, gs_ref ha]
  rw [e2, e1]
  exact va_runVN (As := gs G as) (rest := gs G st) (C := mi'.1.cls) ⟨C.1, C.2.1, C.2.2.1, C.2.2.2.1, hts⟩ hM ⟨callN_mi C hok hdd w1, hts _ w2, hts _ w3⟩ ⟨PcA.blind, hcell, fun U hU hW => by rw [← e1]; exact PcA.of C hH hS U hU hW⟩ rfl (by unfold gs; rw [List.length_map]; exact hn) hl.1 rfl (lv_room (by rw [scat_ok]; exact hst)) hd ⟨z1, z2⟩
theorem WA.callS {idx : Nat} (hd : de mi pc (.invokestatic idx) 3) (hc : CS mi idx mi' n) (hdd : d' + 1 ≤ d) (hn : as.length = n) (h0 : st0 = as.reverse ++ st) (hst : scat st ≤ 8) (hm : MetA mi' d' as h r0) (k : WA mi d (pc + 3) ls (r0.1.toList ++ st) r0.2 res) : WA mi d pc ls st0 h res := by
  refine WA.call hm (fun G p l e R s m args below meth c H locs cells slots la C hH hS hl z1 z2 hM => ?_) k
  obtain ⟨hok, w1, w2⟩ := hc
  have hts := C.2.2.2.2.1
  subst h0
  rw [gs_app, gs_rev]
  exact va_runS (As := gs G as) (rest := gs G st) ⟨C.1, C.2.1, C.2.2.1, C.2.2.2.1, hts⟩ hM ⟨callB_mi C hok hdd w1, hts _ w2⟩ ⟨PcA.blind, fun U hU hW => PcA.of C hH hS U hU hW⟩ rfl (by unfold gs; rw [List.length_map]; exact hn) hl.1 rfl (lv_room (by rw [scat_ok]; exact hst)) hd ⟨z1, z2⟩
theorem WA.callSN {idx : Nat} {host : String} (hd : de mi pc (.invokestatic idx) 3) (hc : CSN mi idx mi' n host) (hdd : d' + 1 ≤ d) (hn : as.length = n) (h0 : st0 = as.reverse ++ st) (hst : scat st ≤ 8) (hm : MetA mi' d' as h r0) (k : WA mi d (pc + 3) ls (r0.1.toList ++ st) r0.2 res) : WA mi d pc ls st0 h res := by
  refine WA.call hm (fun G p l e R s m args below meth c H locs cells slots la C hH hS hl z1 z2 hM => ?_) k
  obtain ⟨hok, w1, w2⟩ := hc
  have hts := C.2.2.2.2.1
  subst h0
  rw [gs_app, gs_rev]
  exact va_runSN (As := gs G as) (rest := gs G st) ⟨C.1, C.2.1, C.2.2.1, C.2.2.2.1, hts⟩ hM ⟨callN_mi C hok hdd w1, hts _ w2, trivial⟩ ⟨PcA.blind, fun U hU hW => PcA.of C hH hS U hU hW⟩ rfl (by unfold gs; rw [List.length_map]; exact hn) hl.1 rfl (lv_room (by rw [scat_ok]; exact hst)) hd ⟨z1, z2⟩
theorem WA.callI {idx a : Nat} (hd : de mi pc (.invokespecial idx) 3) (hc : CI mi idx mi' n) (hdd : d' + 1 ≤ d) (hy : gK h a ≠ 0) (hn : as.length = n) (h0 : st0 = as.reverse ++ vR a :: st) (hst : scat st ≤ 8) (hm : MetA mi' d' (vR a :: as) h r0) (k : WA mi d (pc + 3) ls (r0.1.toList ++ st) r0.2 res) : WA mi d pc ls st0 h res := by
  refine WA.call hm (fun G p l e R s m args below meth c H locs cells slots la C hH hS hl z1 z2 hM => ?_) k
  obtain ⟨hok, w1, w2, w3, w4⟩ := hc
  have hts := C.2.2.2.2.1
  have ha := (hH.2.2.1 a hy).1
  have e1 : gs G (vR a :: as) = .ref (gad G a) :: gs G as := gs_ref ha
  subst h0
  have e2 : gs G (as.reverse ++ vR a :: st) = (gs G as).reverse ++ .ref (gad G a) :: gs G st := by rw [gs_app, gs_rev, gs_ref ha]
  rw [e2, e1]
  have cb := callB_mi (mc := gC r0.2 - gC h) (ms := gS r0.2 - gS h) C hok hdd w1
  rw [w4] at cb
  exact va_runI (As := gs G as) (rest := gs G st) ⟨C.1, C.2.1, C.2.2.1, C.2.2.2.1, hts⟩ hM ⟨cb, w3, hts _ w2⟩ ⟨PcA.blind, fun U hU hW => by rw [← e1]; exact PcA.of C hH hS U hU hW⟩ rfl (by unfold gs; rw [List.length_map]; exact hn) hl.1 rfl (lv_room (by rw [scat_ok]; exact hst)) hd ⟨z1, z2⟩
theorem WA.callIN {idx a : Nat} {host : String} (hd : de mi pc (.invokespecial idx) 3) (hc : CIN mi idx mi' n host) (hdd : d' + 1 ≤ d) (hy : gK h a ≠ 0) (hn : as.length = n) (h0 : st0 = as.reverse ++ vR a :: st) (hst : scat st ≤ 8) (hm : MetA mi' d' (vR a :: as) h r0) (k : WA mi d (pc + 3) ls (r0.1.toList ++ st) r0.2 res) : WA mi d pc ls st0 h res := by
  refine WA.call hm (fun G p l e R s m args below meth c H locs cells slots la C hH hS hl z1 z2 hM => ?_) k
  obtain ⟨hok, w1, w2, w3, w4⟩ := hc
  have hts := C.2.2.2.2.1
  have ha := (hH.2.2.1 a hy).1
  have e1 : gs G (vR a :: as) = .ref (gad G a) :: gs G as := gs_ref ha
  subst h0
  have e2 : gs G (as.reverse ++ vR a :: st) = (gs G as).reverse ++ .ref (gad G a) :: gs G st := by rw [gs_app, gs_rev, gs_ref ha]
  rw [e2, e1]
  have cb := callN_mi (mc := gC r0.2 - gC h) (ms := gS r0.2 - gS h) C hok hdd w1
  rw [w4] at cb
  exact va_runIN (As := gs G as) (rest := gs G st) ⟨C.1, C.2.1, C.2.2.1, C.2.2.2.1, hts⟩ hM ⟨cb, w3, hts _ w2⟩ ⟨PcA.blind, fun U hU hW => by rw [← e1]; exact PcA.of C hH hS U hU hW⟩ rfl (by unfold gs; rw [List.length_map]; exact hn) hl.1 rfl (lv_room (by rw [scat_ok]; exact hst)) hd ⟨z1, z2⟩
/-- Object's own constructor -/
theorem r_objInit {idx a : Nat} (hd : de mi pc (.invokespecial idx) 3) (hd1 : 1 ≤ d) (hl : Cond.methodLink mi.1.cls idx Lib.objectInit ∈ gtb) (hi : Cond.instanceMethod Lib.objectInit ∈ gtb) (hcd : Cond.code Lib.objectInit ⟨#[0xb1]⟩ 1 none ∈ gtb) (hst : scat st ≤ 8) (hf : (if gK h a = 0 then none else E1) = some q) (k : E1 = some q → WA mi d (pc + 3) ls st h res) : WA mi d pc ls (vR a :: st) h res := by
  by_cases hy : gK h a = 0
  · rw [if_pos hy] at hf; cases hf
  · rw [if_neg hy] at hf
    refine WA.pure (fun G p l e R s m args below meth c H locs cells slots Q la C hH hS hv kk => ?_) (k hf)
    rw [gs_ref (hH.2.2.1 a hy).1]
    have hts := C.2.2.2.2.1
    have hd2 := C.2.2.2.2.2.2.2.2.1
    have hd3 := C.2.2.2.2.2.2.2.2.2.1
    exact W.objInit C.1 C.2.1 C.2.2.2.1 (hts _ hl) (hts _ hi) (hts _ hcd) rfl (by show la.size = c.maxLocals; rw [hv.1, C.2.2.1]) rfl hd (by omega) (by show 2 * 0 + _ + 12 ≤ _; rw [scat_ok]; omega) (kk la hv)
/-- a callee's answer, or its new heap alone -/
def cb {α β γ : Type} (f : Option (α × γ)) (E : α → γ → Option β) : Option β := match f with
  | none => none
  | some p => E p.1 p.2
def cbv {β γ : Type} (f : Option γ) (E : γ → Option β) : Option β := match f with
  | none => none
  | some p => E p
theorem cb_some {α β γ : Type} {f : Option (α × γ)} {E : α → γ → Option β} {b : β} (h : cb f E = some b) : ∃ x y, f = some (x, y) ∧ E x y = some b := by
  cases f with
  | none => cases h
  | some p => exact ⟨p.1, p.2, rfl, h⟩
theorem cbv_some {β γ : Type} {f : Option γ} {E : γ → Option β} {b : β} (h : cbv f E = some b) : ∃ y, f = some y ∧ E y = some b := by
  cases f with
  | none => cases h
  | some p => exact ⟨p, rfl, h⟩
theorem r_cV {idx c0 a K : Nat} {f : Option (α × AH)} {E : α → AH → Option ρ} (j : α → AV) (hd : de mi pc (.invokevirtual idx) 3) (hc : CV mi idx mi' n c0) (hdd : d' + 1 ≤ d) (hK : K = 100 + c0) (hn : as.length = n) (h0 : st0 = as.reverse ++ vR a :: st) (hst : scat st ≤ 8) (hf : (if gK h a = K then cb f E else none) = some q) (hm : ∀ (r : α) (h1 : AH), f = some (r, h1) → MetA mi' d' (vR a :: as) h (some (j r), h1)) (k : ∀ (r : α) (h1 : AH), E r h1 = some q → WA mi d (pc + 3) ls (j r :: st) h1 res) : WA mi d pc ls st0 h res := by
  by_cases hy : gK h a = K
  · rw [if_pos hy] at hf
    obtain ⟨r, h1, e1, e2⟩ := cb_some hf
    exact WA.callV hd hc hdd (hy.trans hK) hn h0 hst (hm r h1 e1) (k r h1 e2)
  · rw [if_neg hy] at hf; cases hf
theorem r_cVv {idx c0 a K : Nat} {f : Option AH} {E : AH → Option ρ} (hd : de mi pc (.invokevirtual idx) 3) (hc : CV mi idx mi' n c0) (hdd : d' + 1 ≤ d) (hK : K = 100 + c0) (hn : as.length = n) (h0 : st0 = as.reverse ++ vR a :: st) (hst : scat st ≤ 8) (hf : (if gK h a = K then cbv f E else none) = some q) (hm : ∀ (h1 : AH), f = some h1 → MetA mi' d' (vR a :: as) h (none, h1)) (k : ∀ (h1 : AH), E h1 = some q → WA mi d (pc + 3) ls st h1 res) : WA mi d pc ls st0 h res := by
  by_cases hy : gK h a = K
  · rw [if_pos hy] at hf
    obtain ⟨h1, e1, e2⟩ := cbv_some hf
    exact WA.callV hd hc hdd (hy.trans hK) hn h0 hst (hm h1 e1) (k h1 e2)
  · rw [if_neg hy] at hf; cases hf
theorem r_cVN {idx c0 a K : Nat} {host : String} {f : Option (α × AH)} {E : α → AH → Option ρ} (j : α → AV) (hd : de mi pc (.invokevirtual idx) 3) (hc : CVN mi idx mi' n c0 host) (hdd : d' + 1 ≤ d) (hK : K = 100 + c0) (hn : as.length = n) (h0 : st0 = as.reverse ++ vR a :: st) (hst : scat st ≤ 8) (hf : (if gK h a = K then cb f E else none) = some q) (hm : ∀ (r : α) (h1 : AH), f = some (r, h1) → MetA mi' d' (vR a :: as) h (some (j r), h1)) (k : ∀ (r : α) (h1 : AH), E r h1 = some q → WA mi d (pc + 3) ls (j r :: st) h1 res) : WA mi d pc ls st0 h res := by
  by_cases hy : gK h a = K
  · rw [if_pos hy] at hf
    obtain ⟨r, h1, e1, e2⟩ := cb_some hf
    exact WA.callVN hd hc hdd (hy.trans hK) hn h0 hst (hm r h1 e1) (k r h1 e2)
  · rw [if_neg hy] at hf; cases hf
theorem r_cS {idx : Nat} {f : Option (α × AH)} {E : α → AH → Option ρ} (j : α → AV) (hd : de mi pc (.invokestatic idx) 3) (hc : CS mi idx mi' n) (hdd : d' + 1 ≤ d) (hn : as.length = n) (h0 : st0 = as.reverse ++ st) (hst : scat st ≤ 8) (hf : cb f E = some q) (hm : ∀ (r : α) (h1 : AH), f = some (r, h1) → MetA mi' d' as h (some (j r), h1)) (k : ∀ (r : α) (h1 : AH), E r h1 = some q → WA mi d (pc + 3) ls (j r :: st) h1 res) : WA mi d pc ls st0 h res := by
  obtain ⟨r, h1, e1, e2⟩ := cb_some hf
  exact WA.callS hd hc hdd hn h0 hst (hm r h1 e1) (k r h1 e2)
theorem r_cSN {idx : Nat} {host : String} {f : Option (α × AH)} {E : α → AH → Option ρ} (j : α → AV) (hd : de mi pc (.invokestatic idx) 3) (hc : CSN mi idx mi' n host) (hdd : d' + 1 ≤ d) (hn : as.length = n) (h0 : st0 = as.reverse ++ st) (hst : scat st ≤ 8) (hf : cb f E = some q) (hm : ∀ (r : α) (h1 : AH), f = some (r, h1) → MetA mi' d' as h (some (j r), h1)) (k : ∀ (r : α) (h1 : AH), E r h1 = some q → WA mi d (pc + 3) ls (j r :: st) h1 res) : WA mi d pc ls st0 h res := by
  obtain ⟨r, h1, e1, e2⟩ := cb_some hf
  exact WA.callSN hd hc hdd hn h0 hst (hm r h1 e1) (k r h1 e2)
theorem r_cI {idx a : Nat} {f : Option AH} {E : AH → Option ρ} (hd : de mi pc (.invokespecial idx) 3) (hc : CI mi idx mi' n) (hdd : d' + 1 ≤ d) (hn : as.length = n) (h0 : st0 = as.reverse ++ vR a :: st) (hst : scat st ≤ 8) (hf : (if gK h a = 0 then none else cbv f E) = some q) (hm : ∀ (h1 : AH), f = some h1 → MetA mi' d' (vR a :: as) h (none, h1)) (k : ∀ (h1 : AH), E h1 = some q → WA mi d (pc + 3) ls st h1 res) : WA mi d pc ls st0 h res := by
  by_cases hy : gK h a = 0
  · rw [if_pos hy] at hf; cases hf
  · rw [if_neg hy] at hf
    obtain ⟨h1, e1, e2⟩ := cbv_some hf
    exact WA.callI hd hc hdd hy hn h0 hst (hm h1 e1) (k h1 e2)
theorem r_cIN {idx a : Nat} {host : String} {f : Option AH} {E : AH → Option ρ} (hd : de mi pc (.invokespecial idx) 3) (hc : CIN mi idx mi' n host) (hdd : d' + 1 ≤ d) (hn : as.length = n) (h0 : st0 = as.reverse ++ vR a :: st) (hst : scat st ≤ 8) (hf : (if gK h a = 0 then none else cbv f E) = some q) (hm : ∀ (h1 : AH), f = some h1 → MetA mi' d' (vR a :: as) h (none, h1)) (k : ∀ (h1 : AH), E h1 = some q → WA mi d (pc + 3) ls st h1 res) : WA mi d pc ls st0 h res := by
  by_cases hy : gK h a = 0
  · rw [if_pos hy] at hf; cases hf
  · rw [if_neg hy] at hf
    obtain ⟨h1, e1, e2⟩ := cbv_some hf
    exact WA.callIN hd hc hdd hy hn h0 hst (hm h1 e1) (k h1 e2)
/-- a loop: its body is given what the next turn is -/
def lp {β : Type} (body : β → β) (bot : β) : Nat → β
  | 0 => bot
  | n + 1 => body (lp body bot n)
end HM
/-! the script -/
section SCR
variable {mi : MI} {d pc tgt : Nat} {ls ls' : List (Nat × AV)} {st : List AV} {h : AH} {res : Option AV × AH} {ρ : Type} {E E1 E2 : Option ρ} {q : ρ}
theorem gs_two {G : AG} {st : List AV} : gs G (vR 2 :: st) = .ref (gX G) :: gs G st := rfl
theorem r_sload {a : Nat} {i : Int32} (hd : de mi pc .iaload 1) (hf : (if a = 2 ∧ ib i (gN h 2) = true then E else none) = some q) (k : E = some q → WA mi d (pc + 1) ls (vI (gI h 2 i.toNatClampNeg) :: st) h res) : WA mi d pc ls (vI i :: vR a :: st) h res := by
  by_cases hy : a = 2 ∧ ib i (gN h 2) = true
  · rw [if_pos hy] at hf
    obtain ⟨rfl, hy⟩ := hy
    refine WA.pure (fun G p l e R s m args below meth c' H locs cells slots Q la C hH hS hl kk => ?_) (k hf)
    have hx := C.2.2.2.2.2.2.2.2.2.2.1.2.2.2.2.2
    show W p l e R s m args below meth c' H locs cells slots Q (F0 m pc la (.int i :: .ref (gX G) :: gs G st))
    refine va_sld C.1 C.2.1 hx.1 hx.2.1 hx.2.2 hS (by rw [← hH.2.2.2.1]; exact ib_in hy) hd ?_
    rw [← hH.2.2.2.2]
    exact kk la hl
  · rw [if_neg hy] at hf; cases hf
theorem r_slen {a : Nat} (hd : de mi pc .arraylength 1) (hf : (if a = 2 then E else none) = some q) (k : E = some q → WA mi d (pc + 1) ls (vI (Int32.ofNat (gN h 2)) :: st) h res) : WA mi d pc ls (vR a :: st) h res := by
  by_cases hy : a = 2
  · rw [if_pos hy] at hf
    subst hy
    refine WA.pure (fun G p l e R s m args below meth c' H locs cells slots Q la C hH hS hl kk => ?_) (k hf)
    have hx := C.2.2.2.2.2.2.2.2.2.2.1.2.2.2.2.2
    show W p l e R s m args below meth c' H locs cells slots Q (F0 m pc la (.ref (gX G) :: gs G st))
    refine va_slen C.1 C.2.1 hx.1 hx.2.1 hx.2.2 hS hd ?_
    rw [← hH.2.2.2.1]
    exact kk la hl
  · rw [if_neg hy] at hf; cases hf
end SCR
