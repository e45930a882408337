/-! THE ABSTRACT HEAP: kind, length, ints, longs, references by address and place; the next address; slots made. References: 0 null, 1 the static ABOVE, 2 the script, 3 on the cells made -/
abbrev AH : Type := (Nat → Nat) × (Nat → Nat) × (Nat → Nat → Int32) × (Nat → Nat → Int64) × (Nat → Nat → Nat) × Nat × Nat
def gK (h : AH) (a : Nat) : Nat := h.1 a
def gN (h : AH) (a : Nat) : Nat := h.2.1 a
def gI (h : AH) (a i : Nat) : Int32 := h.2.2.1 a i
def gJ (h : AH) (a i : Nat) : Int64 := h.2.2.2.1 a i
def gR (h : AH) (a i : Nat) : Nat := h.2.2.2.2.1 a i
def gC (h : AH) : Nat := h.2.2.2.2.2.1
def gS (h : AH) : Nat := h.2.2.2.2.2.2
def up2 {α : Type} (f : Nat → Nat → α) (a i : Nat) (v : α) : Nat → Nat → α := fun b j => if b = a ∧ j = i then v else f b j
def sI (h : AH) (a i : Nat) (v : Int32) : AH := (h.1, h.2.1, up2 h.2.2.1 a i v, h.2.2.2.1, h.2.2.2.2.1, h.2.2.2.2.2.1, h.2.2.2.2.2.2)
def sJ (h : AH) (a i : Nat) (v : Int64) : AH := (h.1, h.2.1, h.2.2.1, up2 h.2.2.2.1 a i v, h.2.2.2.2.1, h.2.2.2.2.2.1, h.2.2.2.2.2.2)
def sR (h : AH) (a i : Nat) (v : Nat) : AH := (h.1, h.2.1, h.2.2.1, h.2.2.2.1, up2 h.2.2.2.2.1 a i v, h.2.2.2.2.2.1, h.2.2.2.2.2.2)
/-- ints of a row copied from one to another -/
def cpI (h : AH) (a i b j n : Nat) : AH := (h.1, h.2.1, (fun x k => if x = b ∧ j ≤ k ∧ k < j + n then gI h a (i + (k - j)) else gI h x k), h.2.2.2.1, h.2.2.2.2.1, h.2.2.2.2.2.1, h.2.2.2.2.2.2)
def cpJ (h : AH) (a i b j n : Nat) : AH := (h.1, h.2.1, h.2.2.1, (fun x k => if x = b ∧ j ≤ k ∧ k < j + n then gJ h a (i + (k - j)) else gJ h x k), h.2.2.2.2.1, h.2.2.2.2.2.1, h.2.2.2.2.2.2)
/-- a new cell of a kind, of n places -/
def nw (h : AH) (k n : Nat) : AH := ((fun b => if b = gC h then k else gK h b), (fun b => if b = gC h then n else gN h b), (fun b j => if b = gC h then 0 else gI h b j), (fun b j => if b = gC h then 0 else gJ h b j), (fun b j => if b = gC h then 0 else gR h b j), gC h + 1, gS h + n)
abbrev AV : Type := Int32 ⊕ Int64 ⊕ Nat
abbrev vI (x : Int32) : AV := Sum.inl x
abbrev vJ (x : Int64) : AV := Sum.inr (Sum.inl x)
abbrev vR (r : Nat) : AV := Sum.inr (Sum.inr r)
/-! a place where the run stands: base, cells of the static and the script, the classes' numbers, array classes, the script -/
abbrev AG : Type := Nat × Nat × Nat × va_G × (Nat → ClassId) × Nat × (Nat → Int32)
def gB (G : AG) : Nat := G.1
def gT (G : AG) : Nat := G.2.1
def gX (G : AG) : Nat := G.2.2.1
def gD (G : AG) : va_G := G.2.2.2.1
def gY (G : AG) : Nat → ClassId := G.2.2.2.2.1
def gL (G : AG) : Nat := G.2.2.2.2.2.1
def gxs (G : AG) : Nat → Int32 := G.2.2.2.2.2.2
def gad (G : AG) (r : Nat) : Nat := if r = 1 then gT G else if r = 2 then gX G else gB G + (r - 3)
def go (G : AG) (r : Nat) : Option Nat := if r = 0 then none else some (gad G r)
def gv (G : AG) (v : AV) : Value := match v with
  | .inl x => .int x
  | .inr (.inl x) => .long x
  | .inr (.inr r) => va_rf (go G r)
def gA (G : AG) : Nat → Prop := fun q => gB G ≤ q
theorem gad_3 (G : AG) {a : Nat} (h : 3 ≤ a) : gad G a = gB G + (a - 3) := by
  unfold gad
  rw [if_neg (by omega), if_neg (by omega)]
theorem gad_inj (G : AG) {a b : Nat} (ha : 3 ≤ a) (hb : 3 ≤ b) (h : gad G a = gad G b) : a = b := by
  rw [gad_3 G ha, gad_3 G hb] at h
  omega
theorem gv_ref (G : AG) {r : Nat} (h : r ≠ 0) : gv G (vR r) = .ref (gad G r) := by
  show va_rf (go G r) = _
  unfold go
  rw [if_neg h]
  rfl
theorem gv_null (G : AG) : gv G (vR 0) = .null := rfl
theorem gv_ref' (G : AG) (r : Nat) : gv G (vR r) = .null ∨ ∃ a, gv G (vR r) = .ref a := by
  by_cases h : r = 0
  · subst h; exact Or.inl rfl
  · exact Or.inr ⟨_, gv_ref G h⟩
/-! the classes -/
def cls : List vw_C := [(RX0, TX0, 9), (RX1, TX1, 5), (RX2, TX2, 3), (RX3, TX3, 16), (RX4, TX4, 5), (RX5, TX5, 5), (RX6, TX6, 7), (RX7, TX7, 4), (RX8, TX8, 4), (RX9, TX9, 7), (RX10, TX10, 2), (RX11, TX11, 11), (RX12, TX12, 45)]
def fT (c : Nat) : Nat → FieldType := match c with
  | 0 => tyX0
  | 1 => tyX1
  | 2 => tyX2
  | 3 => tyX3
  | 4 => tyX4
  | 5 => tyX5
  | 6 => tyX6
  | 7 => tyX7
  | 8 => tyX8
  | 9 => tyX9
  | 10 => tyX10
  | 11 => tyX11
  | _ => tyX12
def fN (c : Nat) : Nat := match c with
  | 0 => 9
  | 1 => 5
  | 2 => 3
  | 3 => 16
  | 4 => 5
  | 5 => 5
  | 6 => 7
  | 7 => 4
  | 8 => 4
  | 9 => 7
  | 10 => 2
  | 11 => 11
  | _ => 45
def fv (G : AG) (h : AH) (a k : Nat) (t : FieldType) : Value := match t with
  | .int => .int (gI h a k)
  | .boolean => .int (gI h a k)
  | .long => .long (gJ h a k)
  | _ => va_rf (go G (gR h a k))
def fl (G : AG) (h : AH) (c a : Nat) : List Value := (List.range (fN c)).map (fun k => fv G h a k (fT c k))
def ent (G : AG) (h : AH) (a : Nat) : va_E :=
  if gK h a = 1 then .inl (gY G 1, gN h a, .inl (gI h a))
  else if gK h a = 2 then .inl (gY G 2, gN h a, .inr (.inl (gJ h a)))
  else if gK h a = 3 then .inl (gY G 3, gN h a, .inl (gI h a))
  else if gK h a < 100 then .inl (gY G (gK h a), gN h a, .inr (.inr (.inr (.inr (fun j => go G (gR h a j))))))
  else .inr (gK h a - 100, fl G h (gK h a - 100) a)
/-- the machine's heap holds an abstract one -/
def Hp (G : AG) (h : AH) (H : Heap) : Prop := 3 ≤ gC h ∧ H.size + 3 = gB G + gC h ∧ (∀ a : Nat, gK h a ≠ 0 → 3 ≤ a ∧ a < gC h ∧ va_at (gD G) cls (gad G a, ent G h a) H) ∧ gN h 2 = gL G ∧ gI h 2 = gxs G
def tyl (G : AG) : List (ClassId × FieldType) := [(gY G 1, .int), (gY G 2, .long), (gY G 3, .boolean), (gY G 10, .object RX0), (gY G 11, .object RX1), (gY G 12, .object RX2), (gY G 16, .object RX6), (gY G 17, .object RX7), (gY G 18, .object RX8)]
def aov : List String := [RX0, RX1, RX2, RX6, RX7, RX8]
def abv (j : Nat) : Int32 := match j with
  | 0 => -1
  | 1 => 0
  | 2 => 1
  | 3 => 2
  | 4 => 1
  | 5 => 1
  | _ => 0
/-- the words that a callee may take along -/
def gtb : List Cond := lw_tbl.filter goodWord
def nst : List (String × Nat × MethodName × String) := [
  ("VotedFor", 9, ⟨"VotedFor$Tape", "<init>", "()V"⟩, "VotedFor"),
  ("VotedFor", 36, ⟨"VotedFor$Trace", "<init>", "()V"⟩, "VotedFor"),
  ("VotedFor", 43, ⟨"VotedFor$Tables", "<init>", "()V"⟩, "VotedFor"),
  ("VotedFor$Known", 39, ⟨"VotedFor$Tables", "<init>", "()V"⟩, "VotedFor"),
  ("VotedFor", 57, ⟨"VotedFor$Likely", "<init>", "()V"⟩, "VotedFor"),
  ("VotedFor$Likely", 17, ⟨"VotedFor$Tables", "<init>", "()V"⟩, "VotedFor"),
  ("VotedFor", 66, ⟨"VotedFor$Shelf", "<init>", "()V"⟩, "VotedFor"),
  ("VotedFor$Box", 59, ⟨"VotedFor", "endOf", "(IIII)I"⟩, "VotedFor"),
  ("VotedFor", 342, ⟨"VotedFor$Knowing", "lets", "(II)I"⟩, "VotedFor"),
  ("VotedFor", 345, ⟨"VotedFor$Knowing", "narrows", "(II)I"⟩, "VotedFor"),
  ("VotedFor", 348, ⟨"VotedFor$Knowing", "proves", "(II)I"⟩, "VotedFor"),
  ("VotedFor", 351, ⟨"VotedFor$Knowing", "tells", "(II)I"⟩, "VotedFor")]
def Sx (G : AG) (s : State) : Prop := va_K (gD G) cls (tyl G) s ∧ (∀ t ∈ nst, va_Nw (.methodLinkNest t.1 t.2.1 t.2.2.1 t.2.2.2) s) ∧ (∀ C ∈ aov, va_AO C s) ∧ va_Z "VotedFor$Knowing" "ABOVE" "[I" (.ref (gT G)) (gA G) s s.heap ∧ va_T .int (gT G) 7 (fun j => .int (abv j)) (gA G) s s.heap ∧ va_X (gX G) (gL G) (gxs G) s s.heap ∧ gX G < s.heap.size ∧ ¬ gA G (gX G)
theorem Sx.moved {G : AG} {s U : State} {H : Heap} {locs : List Loc} (h : Sx G s) (hW : s.WarmedH U.vm) (hU : U.heap = H) (hS : va_S (gA G) s.heap H locs) : Sx G U := by
  obtain ⟨h1, h2, h3, h4, h5, h6, h7, h8⟩ := h
  have hk : ∀ a : Nat, a < s.heap.size → ¬ gA G a → U.heap[a]? = s.heap[a]? := fun a ha hn => by rw [hU]; exact hS.2.1 a ha hn
  exact ⟨h1.moved hW.alike, fun t ht => va_Nw.warmM hW (h2 t ht), fun C hC => (h3 C hC).moved hW.alike, (h4.moved hW.alike).kept hk, (h5.moved hW.alike).kept hk, (h6.moved hW.alike).kept (hk _ h7 h8), by rw [hU]; exact Nat.lt_of_lt_of_le h7 hS.1, h8⟩
/-! methods: name, code, locals, what comes back -/
abbrev MI : Type := MethodName × ByteArray × Nat × Option FieldType
abbrev de (mi : MI) (pc : Nat) (i : Instr) (n : Nat) : Prop := decode mi.2.1 pc = .ok (i, n)
def mws (mi : MI) : List Cond := Cond.code mi.1 mi.2.1 mi.2.2.1 mi.2.2.2 :: gtb
def rmA (d mc ms : Nat) : Room := { frames := d, cells := mc, slots := ms, locals := 64 * d }
def Cx (mi : MI) (d : Nat) (G : AG) (p : Program) (R : Room) (s : State) (m : MethodId) (args : Array Value) (meth : Method) (c : Code) : Prop :=
  p.tables.exec = Jvm.exec ∧ c.code = mi.2.1 ∧ c.maxLocals = mi.2.2.1 ∧ s.vm.findClass mi.1.cls = some m.cls ∧ (∀ w ∈ gtb, w.before args s = true) ∧ meth.sig.returnType = mi.2.2.2 ∧ meth.locks = false ∧ (mi.1.name = "<init>" → meth.name = "<init>") ∧ d ≤ R.frames ∧ 64 * d ≤ R.locals ∧ Sx G s ∧ gB G ≤ s.heap.size
/-- how a method ends -/
def Qr (G : AG) (res : Option AV × AH) : Array Value → State → Outcome → State → Prop := fun _ st oc t => (oc = .returned (res.1.map (gv G)) ∧ Hp G res.2 t.heap) ∧ va_F (gA G) st t
def gl (G : AG) (ls : List (Nat × AV)) : List (Nat × Value) := ls.map (fun q => (q.1, gv G q.2))
def gs (G : AG) (st : List AV) : List Value := st.map (gv G)
/-- from a frame of a method, with an abstract heap, it comes to its end with a result and a heap -/
def WA (mi : MI) (d pc : Nat) (ls : List (Nat × AV)) (st : List AV) (h : AH) (res : Option AV × AH) : Prop :=
  gC h ≤ gC res.2 ∧ gS h ≤ gS res.2 ∧ ∀ (G : AG) (p : Program) (l : Launch) (e : Env) (R : Room) (s : State) (m : MethodId) (args : Array Value) (below : List Frame) (meth : Method) (c : Code) (H : Heap) (locs : List Loc) (cells slots K N : Nat) (la : Array Slot),
    Cx mi d G p R s m args meth c → Hp G h H → va_S (gA G) s.heap H locs → cells + (gC res.2 - gC h) = K → K ≤ R.cells → slots + (gS res.2 - gS h) = N → N ≤ R.slots → lv_has la mi.2.2.1 (gl G ls) →
    W p l e R s m args below meth c H locs cells slots (MQ below (Qr G res) args s K N (gA G)) (F0 m pc la (gs G st))
def MetA (mi : MI) (d : Nat) (as : List AV) (h : AH) (res : Option AV × AH) : Prop :=
  gC h ≤ gC res.2 ∧ gS h ≤ gS res.2 ∧ ∀ (G : AG) (l : Launch), Met l mi.1 (mws mi) (rmA d (gC res.2 - gC h) (gS res.2 - gS h)) (fun a U => a = (gs G as).toArray ∧ Hp G h U.heap ∧ Sx G U ∧ gB G ≤ U.heap.size) (Qr G res) (gC res.2 - gC h) (gS res.2 - gS h) (gA G)
/-- rows that leave the heap alone -/
theorem WA.pure {mi : MI} {d pc pc' : Nat} {ls ls' : List (Nat × AV)} {st st' : List AV} {h : AH} {res : Option AV × AH}
    (f : ∀ (G : AG) (p : Program) (l : Launch) (e : Env) (R : Room) (s : State) (m : MethodId) (args : Array Value) (below : List Frame) (meth : Method) (c : Code) (H : Heap) (locs : List Loc) (cells slots : Nat) (Q : State → Prop) (la : Array Slot), Cx mi d G p R s m args meth c → Hp G h H → va_S (gA G) s.heap H locs → lv_has la mi.2.2.1 (gl G ls) →
      (∀ la' : Array Slot, lv_has la' mi.2.2.1 (gl G ls') → W p l e R s m args below meth c H locs cells slots Q (F0 m pc' la' (gs G st'))) → W p l e R s m args below meth c H locs cells slots Q (F0 m pc la (gs G st)))
    (k : WA mi d pc' ls' st' h res) : WA mi d pc ls st h res :=
  ⟨k.1, k.2.1, fun G p l e R s m args below meth c H locs cells slots K N la C hH hS e1 e2 e3 e4 hl => f G p l e R s m args below meth c H locs cells slots _ la C hH hS hl fun la' hl' => k.2.2 G p l e R s m args below meth c H locs cells slots K N la' C hH hS e1 e2 e3 e4 hl'⟩
