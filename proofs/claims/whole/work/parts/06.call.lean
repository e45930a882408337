/-! new cells, statics, the script, copies, calls, ends -/
theorem nw_old {h : AH} {k n b : Nat} (hb : b ≠ gC h) : gK (nw h k n) b = gK h b ∧ gN (nw h k n) b = gN h b ∧ gI (nw h k n) b = gI h b ∧ gJ (nw h k n) b = gJ h b ∧ gR (nw h k n) b = gR h b := by
  refine ⟨if_neg hb, if_neg hb, ?_, ?_, ?_⟩ <;> funext j
  · exact if_neg hb
  · exact if_neg hb
  · exact if_neg hb
theorem nw_new {h : AH} {k n : Nat} : gK (nw h k n) (gC h) = k ∧ gN (nw h k n) (gC h) = n ∧ gI (nw h k n) (gC h) = (fun _ => 0) ∧ gJ (nw h k n) (gC h) = (fun _ => 0) ∧ gR (nw h k n) (gC h) = (fun _ => 0) := by
  refine ⟨if_pos rfl, if_pos rfl, ?_, ?_, ?_⟩ <;> funext j
  · exact if_pos rfl
  · exact if_pos rfl
  · exact if_pos rfl
theorem Hp.new {G : AG} {h : AH} {H H1 : Heap} {k n : Nat} (hH : Hp G h H) (hz : H1.size = H.size + 1) (ho : ∀ q : Nat, q < H.size → H1[q]? = H[q]?) (hat : va_at (gD G) cls (gad G (gC h), ent G (nw h k n) (gC h)) H1) : Hp G (nw h k n) H1 := by
  obtain ⟨h1, h2, h3, h4, h5⟩ := hH
  refine ⟨by show 3 ≤ gC h + 1; omega, by show H1.size + 3 = gB G + (gC h + 1); omega, fun b hb => ?_, ?_, ?_⟩
  rotate_left
  · exact (nw_old (k := k) (n := n) (show (2 : Nat) ≠ gC h by omega)).2.1.trans h4
  · exact (funext fun j => congrFun ((nw_old (k := k) (n := n) (show (2 : Nat) ≠ gC h by omega)).2.2.1) j).trans h5
  show 3 ≤ b ∧ b < gC h + 1 ∧ _
  by_cases e : b = gC h
  · subst e
    exact ⟨h1, by omega, hat⟩
  · obtain ⟨q1, q2, q3, q4, q5⟩ := nw_old (k := k) (n := n) e
    rw [q1] at hb
    obtain ⟨g1, g2, g3⟩ := h3 b hb
    refine ⟨g1, by omega, ?_⟩
    rw [ent_same q1 q2 q3 q4 q5]
    exact g3.kept (ho _ g3.lt)
theorem Hp.size {G : AG} {h : AH} {H : Heap} (hH : Hp G h H) : H.size = gad G (gC h) := by
  obtain ⟨h1, h2, -⟩ := hH
  rw [gad_3 G h1]; omega
theorem va_S.new {A : Nat → Prop} {H0 H H1 : Heap} {locs : List Loc} (hS : va_S A H0 H locs) (hz : H1.size = H.size + 1) (ho : ∀ q : Nat, q < H.size → H1[q]? = H[q]?) : va_S A H0 H1 locs :=
  ⟨Nat.le_trans hS.1 (by omega), fun x h1 h2 => (ho x (Nat.lt_of_lt_of_le h1 hS.1)).trans (hS.2.1 x h1 h2), hS.2.2⟩
section HC
variable {mi : MI} {d pc tgt : Nat} {ls ls' : List (Nat × AV)} {st : List AV} {h : AH} {res : Option AV × AH} {ρ : Type} {E E1 E2 : Option ρ} {q : ρ}
theorem gs_new {G : AG} {H : Heap} (hH : Hp G h H) : gs G (vR (gC h) :: st) = .ref H.size :: gs G st := by rw [hH.size]; exact gs_ref hH.1
/-- a new cell -/
theorem WA.new {pc' k n : Nat} {st' : List AV} {ty : Nat} {stv : List AV}
    (f : ∀ (G : AG) (p : Program) (l : Launch) (e : Env) (R : Room) (s : State) (m : MethodId) (args : Array Value) (below : List Frame) (meth : Method) (c : Code) (H : Heap) (locs : List Loc) (cells slots : Nat) (Q : State → Prop) (la : Array Slot), Cx mi d G p R s m args meth c → Hp G h H → lv_has la mi.2.2.1 (gl G ls) → cells + 1 ≤ R.cells → slots + n ≤ R.slots →
      (∀ H1 : Heap, va_at (gD G) cls (H.size, ent G (nw h k n) (gC h)) H1 → H1.size = H.size + 1 → (∀ q, q < H.size → H1[q]? = H[q]?) → W p l e R s m args below meth c H1 locs (cells + 1) (slots + n) Q (F0 m pc' la (.ref H.size :: gs G st'))) → W p l e R s m args below meth c H locs cells slots Q (F0 m pc la (gs G st)))
    (k0 : WA mi d pc' ls (vR (gC h) :: st') (nw h k n) res) : WA mi d pc ls st h res := by
  have a1 : gC h + 1 ≤ gC res.2 := k0.1
  have a2 : gS h + n ≤ gS res.2 := k0.2.1
  refine ⟨by omega, by omega, fun G p l e R s m args below meth c H locs cells slots K N la C hH hS e1 e2 e3 e4 hl => ?_⟩
  refine f G p l e R s m args below meth c H locs cells slots _ la C hH hl (by omega) (by omega) fun H1 hat z o => ?_
  have k1 := k0.2.2 G p l e R s m args below meth c H1 locs (cells + 1) (slots + n) K N la C (hH.new z o (by rw [← hH.size]; exact hat)) (hS.new z o) (by show cells + 1 + (gC res.2 - (gC h + 1)) = K; omega) e2 (by show slots + n + (gS res.2 - (gS h + n)) = N; omega) e4 hl
  rw [gs_new hH] at k1
  exact k1
def okT (t : FieldType) : Bool := match t with
  | .int => true
  | .boolean => true
  | .long => true
  | .object _ => true
  | .array _ => true
  | _ => false
theorem okT_all : ∀ c, c < 13 → ∀ j, j < fN c → okT (fT c j) = true := by decide +kernel
theorem okT_def {t : FieldType} (ht : okT t = true) {G : AG} {h1 : AH} {a j : Nat} (q3 : gI h1 a = fun _ => 0) (q4 : gJ h1 a = fun _ => 0) (q5 : gR h1 a = fun _ => 0) : defaultValue t = fv G h1 a j t := by
  cases t <;> first | (cases ht; done) | (simp only [fv, q3, q4, q5]; rfl)
/-- a new object, its fields 0 and null -/
theorem r_new {idx c n K : Nat} {r : vw_C} {E : Nat → AH → Option ρ} (hd : de mi pc (.new idx) 3) (hc : cls[c]? = some r) (hn : r.2.2 = n) (hK : K = 100 + c) (h1 : Cond.classLink mi.1.cls idx r.1 ∈ gtb) (h2 : Cond.instantiable r.1 n ∈ gtb) (h3 : Cond.initialized r.1 ∈ gtb) (hf : nm (gC h) (fun a => nm (nw h K n) (E a)) = some q) (k : ∀ (a : Nat) (h1 : AH), E a h1 = some q → WA mi d (pc + 3) ls (vR a :: st) h1 res) : WA mi d pc ls st h res := by
  refine WA.new (k := K) (n := n) (ty := 0) (stv := []) (fun G p l e R s m args below meth c' H locs cells slots Q la C hH hl hcc hss kk => ?_) (k (gC h) (nw h K n) hf)
  obtain ⟨w1, w2, w3, w4⟩ := cls_ok hc
  have hts := C.2.2.2.2.1
  have hKn := C.2.2.2.2.2.2.2.2.2.2.1.1.1 c _ hc
  refine W.newcK C.1 C.2.1 C.2.2.2.1 (hts _ h1) (hts _ h2) (hts _ h3) rfl hd hcc hss hKn.2.1 rfl fun H1 kC hkC e1 z1 o1 => kk H1 ?_ z1 o1
  obtain ⟨q1, q2, q3, q4, q5⟩ := nw_new (h := h) (k := K) (n := n)
  rw [ent_obj (show gK (nw h K n) (gC h) = 100 + c by rw [q1, hK])]
  refine ⟨_, hc, (u_born (fT c) hts w1 hKn hkC e1 w2).to fun j hj => ?_⟩
  rw [w4] at hj
  have e9 : vp_V (fl G (nw h K n) c (gC h)) j = fv G (nw h K n) (gC h) j (fT c j) := by
    unfold vp_V
    rw [List.getD_eq_getElem?_getD, fl_at G _ c _ hj]
    rfl
  rw [e9]
  have hc13 : c < 13 := (List.getElem?_eq_some_iff.mp hc).1
  exact okT_def (okT_all c hc13 j hj) q3 q4 q5
/-- new rows of whole numbers -/
def AK (t : ArrayType) (k : Nat) : Prop := (t = .int ∧ k = 1) ∨ (t = .long ∧ k = 2) ∨ (t = .boolean ∧ k = 3)
theorem r_newarray {t : ArrayType} {K : Nat} {n : Int32} {E : Nat → AH → Option ρ} (hd : de mi pc (.newarray t) 2) (ht : AK t K) (hw : Cond.arrayClass (newarray.typeOf t) ∈ gtb) (hf : (if ¬ n < 0 ∧ n.toNatClampNeg ≤ 10000 then nm (gC h) (fun a => nm (nw h K n.toNatClampNeg) (E a)) else none) = some q) (k : ∀ (a : Nat) (h1 : AH), E a h1 = some q → WA mi d (pc + 2) ls (vR a :: st) h1 res) : WA mi d pc ls (vI n :: st) h res := by
  by_cases hy : ¬ n < 0 ∧ n.toNatClampNeg ≤ 10000
  · rw [if_pos hy] at hf
    refine WA.new (k := K) (n := n.toNatClampNeg) (ty := 0) (stv := []) (fun G p l e R s m args below meth c' H locs cells slots Q la C hH hl hcc hss kk => ?_) (k (gC h) (nw h K n.toNatClampNeg) hf)
    have hts := C.2.2.2.2.1
    have hbytes : n.toNatClampNeg * componentBytes (newarray.typeOf t) ≤ 536870912 := by
      rcases ht with ⟨rfl, -⟩ | ⟨rfl, -⟩ | ⟨rfl, -⟩
      · show n.toNatClampNeg * 4 ≤ _; omega
      · show n.toNatClampNeg * 8 ≤ _; omega
      · show n.toNatClampNeg * 1 ≤ _; omega
    refine va_newaK C.1 C.2.1 (hts _ hw) rfl hd rfl hy.1 rfl hbytes hcc hss rfl fun H1 cA e1 z1 o1 hAr hNm => kk H1 ?_ z1 o1
    obtain ⟨q1, q2, q3, q4, q5⟩ := nw_new (h := h) (k := K) (n := n.toNatClampNeg)
    have hK := C.2.2.2.2.2.2.2.2.2.2.1.1.2
    rcases ht with ⟨rfl, rfl⟩ | ⟨rfl, rfl⟩ | ⟨rfl, rfl⟩
    · have hcA : cA = gY G 1 := Option.some.inj (hNm.symm.trans (hK 0 _ rfl).2)
      subst hcA
      rw [ent_I q1, q2, q3]
      exact e1
    · have hcA : cA = gY G 2 := Option.some.inj (hNm.symm.trans (hK 1 _ rfl).2)
      subst hcA
      rw [ent_J q1, q2, q4]
      exact e1
    · have hcA : cA = gY G 3 := Option.some.inj (hNm.symm.trans (hK 2 _ rfl).2)
      subst hcA
      rw [ent_Z q1, q2, q3]
      exact e1
  · rw [if_neg hy] at hf; cases hf
theorem r_anewarray {idx K t0 : Nat} {Cn : String} {n : Int32} {E : Nat → AH → Option ρ} (hd : de mi pc (.anewarray idx) 3) (hk : RK K t0 Cn) (hcl : Cond.classLink mi.1.cls idx Cn ∈ gtb) (hao : Cn ∈ aov) (hf : (if ¬ n < 0 ∧ n.toNatClampNeg ≤ 10000 then nm (gC h) (fun a => nm (nw h K n.toNatClampNeg) (E a)) else none) = some q) (k : ∀ (a : Nat) (h1 : AH), E a h1 = some q → WA mi d (pc + 3) ls (vR a :: st) h1 res) : WA mi d pc ls (vI n :: st) h res := by
  by_cases hy : ¬ n < 0 ∧ n.toNatClampNeg ≤ 10000
  · rw [if_pos hy] at hf
    obtain ⟨k1, k2, k3⟩ := hk
    refine WA.new (k := K) (n := n.toNatClampNeg) (ty := 0) (stv := []) (fun G p l e R s m args below meth c' H locs cells slots Q la C hH hl hcc hss kk => ?_) (k (gC h) (nw h K n.toNatClampNeg) hf)
    have hX := C.2.2.2.2.2.2.2.2.2.2.1
    refine W.anew C.1 C.2.1 C.2.2.2.1 (C.2.2.2.2.1 _ hcl) (va_AO.use (hX.2.2.1 Cn hao)) rfl hd rfl hy.1 (by omega) hcc hss fun cA kA comp f1 f2 f3 f4 => ?_
    generalize hH1 : H.push ({ cls := cA, slots := Array.replicate n.toNatClampNeg .null, vm := .none } : Cell) = H1
    have z1 : H1.size = H.size + 1 := by rw [← hH1, Array.size_push]
    have e1 : H1[H.size]? = some (arrV cA n.toNatClampNeg (fun _ => .null)) := by rw [← hH1, Array.getElem?_push_size, ← arrV_new]
    have o1 : ∀ q : Nat, q < H.size → H1[q]? = H[q]? := fun q hq => by rw [← hH1, Array.getElem?_push, if_neg (Nat.ne_of_lt hq)]
    refine kk H1 ?_ z1 o1
    obtain ⟨q1, q2, q3, q4, q5⟩ := nw_new (h := h) (k := K) (n := n.toNatClampNeg)
    obtain ⟨kA', comp', j1, j2, j3, j4⟩ := (hX.1.2 t0 _ (k3 G)).2
    have hcA : cA = gY G K := Option.some.inj (f1.symm.trans j4)
    subst hcA
    rw [ent_R q1 k1 k2, q2, q5]
    exact e1
  · rw [if_neg hy] at hf; cases hf
/-- the static row, its places; the script -/
theorem r_getstatic {idx : Nat} (hd : de mi pc (.getstatic idx) 3) (hw : Cond.fieldLink mi.1.cls idx "VotedFor$Knowing" "ABOVE" "[I" ∈ gtb) (k : WA mi d (pc + 3) ls (vR 1 :: st) h res) : WA mi d pc ls st h res :=
  WA.pure (fun G p l e R s m args below meth c' H locs cells slots Q la C hH hS hl kk => va_gets C.1 C.2.1 C.2.2.2.2.2.2.2.2.2.2.1.2.2.2.1 hS C.2.2.2.1 (C.2.2.2.2.1 _ hw) (fun _ z => z) hd (kk la hl)) k
theorem r_tload {i : Int32} (hd : de mi pc .iaload 1) (hf : (if ib i 7 = true then E else none) = some q) (k : E = some q → WA mi d (pc + 1) ls (vI (abv i.toNatClampNeg) :: st) h res) : WA mi d pc ls (vI i :: vR 1 :: st) h res := by
  by_cases hy : ib i 7 = true
  · rw [if_pos hy] at hf
    exact WA.pure (fun G p l e R s m args below meth c' H locs cells slots Q la C hH hS hl kk => va_ti C.1 C.2.1 C.2.2.2.2.2.2.2.2.2.2.1.2.2.2.2.1 hS (ib_in hy) rfl hd (kk la hl)) (k hf)
  · rw [if_neg hy] at hf; cases hf
/-- rows copied -/
theorem W_copy {G : AG} {p : Program} {l : Launch} {e : Env} {R : Room} {s : State} {m : MethodId} {args : Array Value} {below : List Frame} {meth : Method} {c : Code} {H : Heap} {locs : List Loc} {cells slots : Nat} {Q : State → Prop} {la : Array Slot} {rest : List Value} {α : Type} {vo : α → Value} {a0 a : Nat} {cA : ClassId} {ty : FieldType} {n0 n1 idx : Nat} {f g : Nat → α}
    (C : Cx mi d G p R s m args meth c) (hd1 : 1 ≤ d) (hl : la.size = mi.2.2.1) (hK : ArrOfT s cA ty) (hprim : refKind ty = false) (hfits : ∀ x, fits ty (vo x) = true ∧ (match vo x with | .ref _ => False | _ => True)) (h0 : H[a0]? = some (arrV cA n0 (fun j => vo (f j)))) (h1 : H[a]? = some (arrV cA n1 (fun j => vo (g j))))
    {sp dp n : Int32} (g1 : ¬ sp < 0) (g2 : ¬ dp < 0) (g3 : ¬ n < 0) (g4 : sp.toNatClampNeg + n.toNatClampNeg ≤ n0) (g5 : dp.toNatClampNeg + n.toNatClampNeg ≤ n1) (hw : Cond.methodLink mi.1.cls idx arraycopyName ∈ gtb ∧ Cond.native arraycopyName ∈ gtb ∧ Cond.static arraycopyName ∈ gtb ∧ Cond.initialized "java/lang/System" ∈ gtb) (hrest : (rest.map fun v => v.category).sum ≤ 8) (hdg : de mi pc (.invokestatic idx) 3)
    (kk : ∀ (H1 : Heap) (L : List Loc), (∀ x ∈ L, x.base = a) → H1[a]? = some (arrV cA n1 (fun j => vo (va_cpy f g sp.toNatClampNeg dp.toNatClampNeg n.toNatClampNeg j))) → H1.size = H.size → (∀ q : Nat, q ≠ a → H1[q]? = H[q]?) → W p l e R s m args below meth c H1 (locs ++ L) cells slots Q (F0 m (pc + 3) la rest)) : W p l e R s m args below meth c H locs cells slots Q (F0 m pc la (.int n :: .int dp :: .ref a :: .int sp :: .ref a0 :: rest)) := by
  have nn : ∀ z : Int32, ¬ z < 0 → z.toInt = (z.toNatClampNeg : Int) := by
    intro z hz
    have hz0 : (0 : Int) ≤ z.toInt := by
      have := Int32.not_lt.mp hz
      simpa using Int32.le_iff_toInt_le.mp this
    show z.toInt = ((z.toInt.toNat : Nat) : Int)
    omega
  have hts := C.2.2.2.2.1
  have hd2 := C.2.2.2.2.2.2.2.2.1
  have hd3 := C.2.2.2.2.2.2.2.2.2.1
  intro T hT X
  obtain ⟨-, k0, hk0, cm0, hkk0⟩ := hK n0 (fun j => vo (f j))
  obtain ⟨-, k1, hk1, cm1, hkk1⟩ := hK n1 (fun j => vo (g j))
  obtain ⟨vm', X', step⟩ := X.arraycopy C.1 C.2.2.2.1 (hts _ hw.1) (hts _ hw.2.1) (hts _ hw.2.2.1) (hts _ hw.2.2.2) (src := a0) (dst := a) (cs := arrV cA n0 (fun j => vo (f j))) (cd := arrV cA n1 (fun j => vo (g j))) (srcPos := sp) (destPos := dp) (n := n) (by rw [hT]; exact h0) (by rw [hT]; exact h1)
    (fun _ h => by cases h) (fun _ h => by cases h) (fun h => by cases h) (fun h => by cases h) hk0 hk1 hkk0 hkk1 (by simp [hprim]) g1 g2 g3
    (by rw [nn sp g1, nn n g3]; show ¬ _ > ((arrV cA n0 (fun j => vo (f j))).slots.size : Int); rw [arrV_size]; omega)
    (by rw [nn dp g2, nn n g3]; show ¬ _ > ((arrV cA n1 (fun j => vo (g j))).slots.size : Int); rw [arrV_size]; omega)
    (fun vm₁ _ i hi => by
      have e : (arrV cA n0 (fun j => vo (f j))).slots.getD (sp.toNatClampNeg + i) .null = vo (f (sp.toNatClampNeg + i)) := by
        rw [Array.getD_eq_getD_getElem?, arrV_read _ _ (by omega)]
        rfl
      have hx := hfits (f (sp.toNatClampNeg + i))
      refine ⟨?_, ?_⟩
      · rw [e]
        exact hx.1
      · rw [e]
        generalize vo (f (sp.toNatClampNeg + i)) = vv at hx
        cases vv <;> first | exact trivial | exact hx.2.elim)
    (g := F0 m pc la (.int n :: .int dp :: .ref a :: .int sp :: .ref a0 :: rest)) rfl (by show la.size = c.maxLocals; rw [hl, C.2.2.1]) (rest := rest) rfl (by rw [C.2.1]; exact hdg) (by omega) (by
      have e7 : nativeFrameWords "java/lang/System" "arraycopy" 5 + 11 ≤ 56 := by decide
      show 2 * 0 + _ + _ ≤ _
      omega)
  have e1 : copied (arrV cA n0 (fun j => vo (f j))) (arrV cA n1 (fun j => vo (g j))) sp dp n = arrV cA n1 (fun j => vo (va_cpy f g sp.toNatClampNeg dp.toNatClampNeg n.toNatClampNeg j)) := va_copied vo cA cA f g g4
  rw [e1] at X' step
  have hlt : a < H.size := (Array.getElem?_eq_some_iff.mp h1).1
  obtain ⟨t, a1, b1⟩ := kk (H.setIfInBounds a (arrV cA n1 (fun j => vo (va_cpy f g sp.toNatClampNeg dp.toNatClampNeg n.toNatClampNeg j)))) _ (fun x hx => by obtain ⟨z, -, hz⟩ := List.mem_map.mp hx; rw [← hz]) (by simp [Array.getElem?_setIfInBounds, hlt]) (by simp) (fun q hq => by simp [Array.getElem?_setIfInBounds, Ne.symm hq]) _ (by rw [← hT]; rfl) X'
  exact ⟨t, step t a1, b1⟩
def cpw (mi : MI) (idx : Nat) : Prop := Cond.methodLink mi.1.cls idx arraycopyName ∈ gtb ∧ Cond.native arraycopyName ∈ gtb ∧ Cond.static arraycopyName ∈ gtb ∧ Cond.initialized "java/lang/System" ∈ gtb
def scat (st : List AV) : Nat := (st.map acat).sum
theorem scat_ok (G : AG) (st : List AV) : ((gs G st).map fun v => v.category).sum = scat st := by
  unfold gs scat
  rw [List.map_map]
  congr 1
  apply List.map_congr_left
  intro v _
  exact acat_ok G v
def ibs (i n : Int32) (N : Nat) : Bool := decide (¬ i < 0 ∧ i.toNatClampNeg + n.toNatClampNeg ≤ N)
theorem ent_cp {G : AG} {h1 : AH} {b : Nat} (eK : gK h1 b = gK h b) (eN : gN h1 b = gN h b) (eI : gI h1 b = gI h b) (eJ : gJ h1 b = gJ h b) (eR : gR h1 b = gR h b) : ent G h1 b = ent G h b := ent_same eK eN eI eJ eR
theorem gI_cpI {a i b j n : Nat} (x : Nat) : gI (cpI h a i b j n) x = if x = b then va_cpy (gI h a) (gI h b) i j n else gI h x := by
  funext k
  show (if x = b ∧ j ≤ k ∧ k < j + n then gI h a (i + (k - j)) else gI h x k) = _
  by_cases hx : x = b
  · subst hx
    rw [if_pos rfl]
    unfold va_cpy
    by_cases hk : j ≤ k ∧ k < j + n
    · rw [if_pos ⟨rfl, hk⟩, if_pos hk]
    · rw [if_neg (fun z => hk z.2), if_neg hk]
  · rw [if_neg (fun z => hx z.1), if_neg hx]
theorem gJ_cpJ {a i b j n : Nat} (x : Nat) : gJ (cpJ h a i b j n) x = if x = b then va_cpy (gJ h a) (gJ h b) i j n else gJ h x := by
  funext k
  show (if x = b ∧ j ≤ k ∧ k < j + n then gJ h a (i + (k - j)) else gJ h x k) = _
  by_cases hx : x = b
  · subst hx
    rw [if_pos rfl]
    unfold va_cpy
    by_cases hk : j ≤ k ∧ k < j + n
    · rw [if_pos ⟨rfl, hk⟩, if_pos hk]
    · rw [if_neg (fun z => hk z.2), if_neg hk]
  · rw [if_neg (fun z => hx z.1), if_neg hx]
theorem r_copyI {idx a0 a : Nat} {sp dp n : Int32} {E : AH → Option ρ} (hd : de mi pc (.invokestatic idx) 3) (hd1 : 1 ≤ d) (hw : cpw mi idx) (hst : scat st ≤ 8) (hf : (if (gK h a0 = 1 ∧ gK h a = 1) ∧ ¬ n < 0 ∧ ibs sp n (gN h a0) = true ∧ ibs dp n (gN h a) = true then nm (cpI h a0 sp.toNatClampNeg a dp.toNatClampNeg n.toNatClampNeg) E else none) = some q) (k : ∀ h1 : AH, E h1 = some q → WA mi d (pc + 3) ls st h1 res) : WA mi d pc ls (vI n :: vI dp :: vR a :: vI sp :: vR a0 :: st) h res := by
  by_cases hy : (gK h a0 = 1 ∧ gK h a = 1) ∧ ¬ n < 0 ∧ ibs sp n (gN h a0) = true ∧ ibs dp n (gN h a) = true
  · rw [if_pos hy] at hf
    obtain ⟨⟨y1, y2⟩, y3, y4, y5⟩ := hy
    obtain ⟨y4, y6⟩ : ¬ sp < 0 ∧ sp.toNatClampNeg + n.toNatClampNeg ≤ gN h a0 := of_decide_eq_true y4
    obtain ⟨y5, y7⟩ : ¬ dp < 0 ∧ dp.toNatClampNeg + n.toNatClampNeg ≤ gN h a := of_decide_eq_true y5
    have k0 := k _ hf
    refine ⟨k0.1, k0.2.1, fun G p l e R s m args below meth c H locs cells slots K N la C hH hS e1 e2 e3 e4 hl => ?_⟩
    obtain ⟨ha0, -, hP0, -⟩ := hH.at (a := a0) (by omega)
    obtain ⟨ha, -, hP, -⟩ := hH.at (a := a) (by omega)
    rw [ent_I y1] at hP0
    rw [ent_I y2] at hP
    show W p l e R s m args below meth c H locs cells slots _ (F0 m pc la (.int n :: .int dp :: gv G (vR a) :: .int sp :: gs G (vR a0 :: st)))
    rw [gs_ref ha0, gv_ref G (by omega)]
    refine W_copy (vo := fun z : Int32 => .int z) (ty := .int) C hd1 hl.1 (C.2.2.2.2.2.2.2.2.2.2.1.1.2 0 _ rfl).1 rfl (fun _ => ⟨rfl, trivial⟩) (hP0 0 _ rfl) (hP 0 _ rfl) y4 y5 y3 y6 y7 hw (by rw [scat_ok]; exact hst) hd fun H1 L hL g1 z o => ?_
    refine k0.2.2 G p l e R s m args below meth c H1 _ cells slots K N la C ?_ ⟨by rw [z]; exact hS.1, fun x h1 h2 => by rw [o x (fun e => h2 (by rw [e]; exact hH.in (by omega)))]; exact hS.2.1 x h1 h2, fun x hx => by
      rcases List.mem_append.mp hx with h | h
      · exact hS.2.2 x h
      · rw [hL x h]; exact hH.in (by omega)⟩ e1 e2 e3 e4 hl
    refine hH.upd (a := a) (by omega) z o ?_ (fun _ => rfl) rfl (fun b hb => ent_same rfl rfl (by rw [gI_cpI, if_neg hb]) rfl rfl) (fun z => ⟨rfl, by rw [gI_cpI, if_neg (by omega)]⟩)
    rw [ent_I (show gK (cpI h a0 _ a _ _) a = 1 from y2), gI_cpI, if_pos rfl]
    exact g1
  · rw [if_neg hy] at hf; cases hf
theorem r_copyJ {idx a0 a : Nat} {sp dp n : Int32} {E : AH → Option ρ} (hd : de mi pc (.invokestatic idx) 3) (hd1 : 1 ≤ d) (hw : cpw mi idx) (hst : scat st ≤ 8) (hf : (if (gK h a0 = 2 ∧ gK h a = 2) ∧ ¬ n < 0 ∧ ibs sp n (gN h a0) = true ∧ ibs dp n (gN h a) = true then nm (cpJ h a0 sp.toNatClampNeg a dp.toNatClampNeg n.toNatClampNeg) E else none) = some q) (k : ∀ h1 : AH, E h1 = some q → WA mi d (pc + 3) ls st h1 res) : WA mi d pc ls (vI n :: vI dp :: vR a :: vI sp :: vR a0 :: st) h res := by
  by_cases hy : (gK h a0 = 2 ∧ gK h a = 2) ∧ ¬ n < 0 ∧ ibs sp n (gN h a0) = true ∧ ibs dp n (gN h a) = true
  · rw [if_pos hy] at hf
    obtain ⟨⟨y1, y2⟩, y3, y4, y5⟩ := hy
    obtain ⟨y4, y6⟩ : ¬ sp < 0 ∧ sp.toNatClampNeg + n.toNatClampNeg ≤ gN h a0 := of_decide_eq_true y4
    obtain ⟨y5, y7⟩ : ¬ dp < 0 ∧ dp.toNatClampNeg + n.toNatClampNeg ≤ gN h a := of_decide_eq_true y5
    have k0 := k _ hf
    refine ⟨k0.1, k0.2.1, fun G p l e R s m args below meth c H locs cells slots K N la C hH hS e1 e2 e3 e4 hl => ?_⟩
    obtain ⟨ha0, -, hP0, -⟩ := hH.at (a := a0) (by omega)
    obtain ⟨ha, -, hP, -⟩ := hH.at (a := a) (by omega)
    rw [ent_J y1] at hP0
    rw [ent_J y2] at hP
    show W p l e R s m args below meth c H locs cells slots _ (F0 m pc la (.int n :: .int dp :: gv G (vR a) :: .int sp :: gs G (vR a0 :: st)))
    rw [gs_ref ha0, gv_ref G (by omega)]
    refine W_copy (vo := fun z : Int64 => .long z) (ty := .long) C hd1 hl.1 (C.2.2.2.2.2.2.2.2.2.2.1.1.2 1 _ rfl).1 rfl (fun _ => ⟨rfl, trivial⟩) (hP0 0 _ rfl) (hP 0 _ rfl) y4 y5 y3 y6 y7 hw (by rw [scat_ok]; exact hst) hd fun H1 L hL g1 z o => ?_
    refine k0.2.2 G p l e R s m args below meth c H1 _ cells slots K N la C ?_ ⟨by rw [z]; exact hS.1, fun x h1 h2 => by rw [o x (fun e => h2 (by rw [e]; exact hH.in (by omega)))]; exact hS.2.1 x h1 h2, fun x hx => by
      rcases List.mem_append.mp hx with h | h
      · exact hS.2.2 x h
      · rw [hL x h]; exact hH.in (by omega)⟩ e1 e2 e3 e4 hl
    refine hH.upd (a := a) (by omega) z o ?_ (fun _ => rfl) rfl (fun b hb => ent_same rfl rfl rfl (by rw [gJ_cpJ, if_neg hb]) rfl) (fun _ => ⟨rfl, rfl⟩)
    rw [ent_J (show gK (cpJ h a0 _ a _ _) a = 2 from y2), gJ_cpJ, if_pos rfl]
    exact g1
  · rw [if_neg hy] at hf; cases hf
/-! ends -/
theorem WA.ret {x : Option AV} (f : ∀ (G : AG) (p : Program) (l : Launch) (e : Env) (R : Room) (s : State) (m : MethodId) (args : Array Value) (below : List Frame) (meth : Method) (c : Code) (H : Heap) (locs : List Loc) (cells slots : Nat) (la : Array Slot), Cx mi d G p R s m args meth c → (∀ t : State, t.heap = H → s.WarmedH t.vm → Qr G (x, h) args s (.returned (x.map (gv G))) t) → (∀ q ∈ locs, gA G q.base) → W p l e R s m args below meth c H locs cells slots (MQ below (Qr G (x, h)) args s cells slots (gA G)) (F0 m pc la (gs G st))) : WA mi d pc ls st h (x, h) := by
  refine ⟨Nat.le_refl _, Nat.le_refl _, fun G p l e R s m args below meth c H locs cells slots K N la C hH hS e1 e2 e3 e4 hl => ?_⟩
  have e1 : K = cells := by rw [← e1]; show cells + (gC h - gC h) = _; omega
  have e3 : N = slots := by rw [← e3]; show slots + (gS h - gS h) = _; omega
  subst e1
  subst e3
  exact f G p l e R s m args below meth c H locs _ _ la C (fun t ht hW => ⟨⟨rfl, by rw [ht]; exact hH⟩, hS.F ht⟩) hS.2.2
theorem r_ireturn {x r : Int32} {h1 : AH} (hd : de mi pc .ireturn 1) (hr : mi.2.2.2 = some .int) (hf : some (x, h) = some (r, h1)) : WA mi d pc ls [vI x] h (some (vI r), h1) := by
  cases hf
  exact WA.ret fun G p l e R s m args below meth c H locs cells slots la C hq hfr => W.iret (v := x) C.1 C.2.1 (C.2.2.2.2.2.1.trans hr) hq hfr hd (hlocks := C.2.2.2.2.2.2.1)
def zret (x : Int32) (h : AH) : Option (Int32 × AH) := if x = 0 ∨ x = 1 then some (x, h) else none
theorem r_zreturn {x r : Int32} {h1 : AH} (hd : de mi pc .ireturn 1) (hr : mi.2.2.2 = some .boolean) (hf : zret x h = some (r, h1)) : WA mi d pc ls [vI x] h (some (vI r), h1) := by
  unfold zret at hf
  by_cases hx : x = 0 ∨ x = 1
  · rw [if_pos hx] at hf
    cases hf
    exact WA.ret fun G p l e R s m args below meth c H locs cells slots la C hq hfr => W.zret (v := x) C.1 C.2.1 (C.2.2.2.2.2.1.trans hr) (nar_Z hx).1 hq hfr hd (hlocks := C.2.2.2.2.2.2.1)
  · rw [if_neg hx] at hf; cases hf
theorem r_lreturn {x r : Int64} {h1 : AH} (hd : de mi pc .lreturn 1) (hr : mi.2.2.2 = some .long) (hf : some (x, h) = some (r, h1)) : WA mi d pc ls [vJ x] h (some (vJ r), h1) := by
  cases hf
  exact WA.ret fun G p l e R s m args below meth c H locs cells slots la C hq hfr => W.lret (v := x) C.1 C.2.1 (C.2.2.2.2.2.1.trans hr) hq hfr hd (hlocks := C.2.2.2.2.2.2.1)
theorem r_areturn {x r : Nat} {h1 : AH} {Cn : String} (hd : de mi pc .areturn 1) (hr : mi.2.2.2 = some (.object Cn)) (hf : some (x, h) = some (r, h1)) : WA mi d pc ls [vR x] h (some (vR r), h1) := by
  cases hf
  exact WA.ret fun G p l e R s m args below meth c H locs cells slots la C hq hfr => W.aret (v := gv G (vR x)) C.1 C.2.1 (C.2.2.2.2.2.1.trans hr) (Or.inl ⟨_, rfl⟩) (gv_ref' G x) hq hfr hd (hlocks := C.2.2.2.2.2.2.1)
theorem r_return {h1 : AH} (hd : de mi pc .return_ 1) (hr : mi.2.2.2 = none) (hf : some h = some h1) : WA mi d pc ls [] h (none, h1) := by
  cases hf
  exact WA.ret fun G p l e R s m args below meth c H locs cells slots la C hq hfr => W.vret C.1 C.2.1 (C.2.2.2.2.2.1.trans hr) hq hfr hd (hlocks := C.2.2.2.2.2.2.1)
end HC
