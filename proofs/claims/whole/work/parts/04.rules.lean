section AR
variable {mi : MI} {d pc tgt : Nat} {ls ls' : List (Nat × AV)} {st : List AV} {h : AH} {res : Option AV × AH} {ρ : Type} {E E1 E2 : Option ρ} {q : ρ}
theorem Cx.hx {G : AG} {p : Program} {R : Room} {s : State} {m : MethodId} {args : Array Value} {meth : Method} {c : Code} (C : Cx mi d G p R s m args meth c) : p.tables.exec = Jvm.exec := C.1
theorem gl_has {G : AG} {la : Array Slot} {n : Nat} (hl : lv_has la n (gl G ls)) (k : Nat) {i : Nat} {v : AV} (hk : ls[k]? = some (i, v)) : la[i]? = some (.val (gv G v)) :=
  lv_at hl k (by unfold gl; rw [List.getElem?_map, hk]; rfl)
def acat (v : AV) : Nat := match v with
  | .inr (.inl _) => 2
  | _ => 1
theorem acat_ok (G : AG) (v : AV) : (gv G v).category = acat v := by
  match v with
  | .inl x => rfl
  | .inr (.inl x) => rfl
  | .inr (.inr r) =>
    rcases gv_ref' G r with e | ⟨a, e⟩
    · show (gv G (vR r)).category = 1
      rw [e]; rfl
    · show (gv G (vR r)).category = 1
      rw [e]; rfl
/-- the locals that a store of one word leaves, of two words -/
def ast (i : Nat) (l : List (Nat × AV)) : List (Nat × AV) := l.filter (fun q => !(q.1 == i) && !(q.1 + 1 == i && acat q.2 == 2))
def ast2 (i : Nat) (l : List (Nat × AV)) : List (Nat × AV) := l.filter (fun q => !(q.1 == i) && (!(q.1 == i + 1) && !(q.1 + 1 == i && acat q.2 == 2)))
theorem ast_gl (G : AG) (i : Nat) (l : List (Nat × AV)) : (gl G l).filter (fun q => !(q.1 == i) && !(q.1 + 1 == i && q.2.category == 2)) = gl G (ast i l) := by
  unfold gl ast
  rw [List.filter_map]
  congr 1
  apply List.filter_congr
  intro x _
  simp [acat_ok]
theorem ast2_gl (G : AG) (i : Nat) (l : List (Nat × AV)) : (gl G l).filter (fun q => !(q.1 == i) && (!(q.1 == i + 1) && !(q.1 + 1 == i && q.2.category == 2))) = gl G (ast2 i l) := by
  unfold gl ast2
  rw [List.filter_map]
  congr 1
  apply List.filter_congr
  intro x _
  simp [acat_ok]
/-- fewer known locals, in any order -/
theorem r_sub (ks : List Nat) (hl : ks.filterMap (fun k => ls[k]?) = ls') (k : WA mi d pc ls' st h res) : WA mi d pc ls st h res :=
  WA.pure (fun G p l e R s m args below meth c H locs cells slots Q la C hH hS hv kk => kk la (lv_sub hv ks (by
    rw [← hl]; unfold lv_pick gl; rw [List.map_filterMap]
    congr 1; funext j; rw [List.getElem?_map]))) k
theorem some_inj2 {α : Type} {a b : α} (h : some a = some b) : a = b := Option.some.inj h

theorem r_iconst {n : Int} {v : Int32} (hd : de mi pc (.iconst n) 1) (hw : Int32.ofInt n = v) (k : WA mi d (pc + 1) ls (vI v :: st) h res) : WA mi d pc ls (st) h res :=
  WA.pure (fun G p l e R s m args below meth c H locs cells slots Q la C hH hS hv kk => lv_iconst C.1 C.2.1 hd hw (kk la hv)) k

theorem r_bipush {n : Int} {v : Int32} (hd : de mi pc (.bipush n) 2) (hw : (Int8.ofInt n).toInt32 = v) (k : WA mi d (pc + 2) ls (vI v :: st) h res) : WA mi d pc ls (st) h res :=
  WA.pure (fun G p l e R s m args below meth c H locs cells slots Q la C hH hS hv kk => lv_bipush C.1 C.2.1 hd hw (kk la hv)) k

theorem r_sipush {n : Int} {v : Int32} (hd : de mi pc (.sipush n) 3) (hw : (Int16.ofInt n).toInt32 = v) (k : WA mi d (pc + 3) ls (vI v :: st) h res) : WA mi d pc ls (st) h res :=
  WA.pure (fun G p l e R s m args below meth c H locs cells slots Q la C hH hS hv kk => lv_sipush C.1 C.2.1 hd hw (kk la hv)) k

theorem r_lconst {n : Fin 2} {v : Int64} (hd : de mi pc (.lconst n) 1) (hw : Int64.ofNat (n : Nat) = v) (k : WA mi d (pc + 1) ls (vJ v :: st) h res) : WA mi d pc ls (st) h res :=
  WA.pure (fun G p l e R s m args below meth c H locs cells slots Q la C hH hS hv kk => lv_lconst C.1 C.2.1 hd hw (kk la hv)) k

theorem r_aconst_null (hd : de mi pc .aconst_null 1) (k : WA mi d (pc + 1) ls (vR 0 :: st) h res) : WA mi d pc ls (st) h res :=
  WA.pure (fun G p l e R s m args below meth c H locs cells slots Q la C hH hS hv kk => lv_null C.1 C.2.1 hd (kk la hv)) k

theorem r_ldc {i : Nat} {v : Int32} (hd : de mi pc (.ldc i) 2) (hw : Cond.constant mi.1.cls i v ∈ gtb) (k : WA mi d (pc + 2) ls (vI v :: st) h res) : WA mi d pc ls (st) h res :=
  WA.pure (fun G p l e R s m args below meth c H locs cells slots Q la C hH hS hv kk => lv_ldc C.1 C.2.1 C.2.2.2.1 (C.2.2.2.2.1 _ hw) hd (kk la hv)) k

theorem r_ldcw {i : Nat} {v : Int32} (hd : de mi pc (.ldc_w i) 3) (hw : Cond.constant mi.1.cls i v ∈ gtb) (k : WA mi d (pc + 3) ls (vI v :: st) h res) : WA mi d pc ls (st) h res :=
  WA.pure (fun G p l e R s m args below meth c H locs cells slots Q la C hH hS hv kk => lv_ldcw C.1 C.2.1 C.2.2.2.1 (C.2.2.2.2.1 _ hw) hd (kk la hv)) k

theorem r_ldc2 {i : Nat} {v : Int64} (hd : de mi pc (.ldc2_w i) 3) (hw : Cond.constantLong mi.1.cls i v ∈ gtb) (k : WA mi d (pc + 3) ls (vJ v :: st) h res) : WA mi d pc ls (st) h res :=
  WA.pure (fun G p l e R s m args below meth c H locs cells slots Q la C hH hS hv kk => lv_ldc2 C.1 C.2.1 C.2.2.2.1 (C.2.2.2.2.1 _ hw) hd (kk la hv)) k

theorem r_iload_n {n : Fin 4} {x : Int32} (hd : de mi pc (.iload_n n) 1) (j : Nat) {i : Nat} (hi : (n : Nat) = i) (hw : ls[j]? = some (i, vI x)) (k : WA mi d (pc + 1) ls (vI x :: st) h res) : WA mi d pc ls (st) h res :=
  WA.pure (fun G p l e R s m args below meth c H locs cells slots Q la C hH hS hv kk => lv_iload_n C.1 C.2.1 hd hi (gl_has hv j hw) (kk la hv)) k

theorem r_iload {i : Nat} {x : Int32} (hd : de mi pc (.iload i) 2) (j : Nat) (hw : ls[j]? = some (i, vI x)) (k : WA mi d (pc + 2) ls (vI x :: st) h res) : WA mi d pc ls (st) h res :=
  WA.pure (fun G p l e R s m args below meth c H locs cells slots Q la C hH hS hv kk => lv_iload C.1 C.2.1 hd (gl_has hv j hw) (kk la hv)) k

theorem r_lload_n {n : Fin 4} {x : Int64} (hd : de mi pc (.lload_n n) 1) (j : Nat) {i : Nat} (hi : (n : Nat) = i) (hw : ls[j]? = some (i, vJ x)) (k : WA mi d (pc + 1) ls (vJ x :: st) h res) : WA mi d pc ls (st) h res :=
  WA.pure (fun G p l e R s m args below meth c H locs cells slots Q la C hH hS hv kk => lv_lload_n C.1 C.2.1 hd hi (gl_has hv j hw) (kk la hv)) k

theorem r_lload {i : Nat} {x : Int64} (hd : de mi pc (.lload i) 2) (j : Nat) (hw : ls[j]? = some (i, vJ x)) (k : WA mi d (pc + 2) ls (vJ x :: st) h res) : WA mi d pc ls (st) h res :=
  WA.pure (fun G p l e R s m args below meth c H locs cells slots Q la C hH hS hv kk => lv_lload C.1 C.2.1 hd (gl_has hv j hw) (kk la hv)) k

theorem r_aload_n {n : Fin 4} {x : Nat} (hd : de mi pc (.aload_n n) 1) (j : Nat) {i : Nat} (hi : (n : Nat) = i) (hw : ls[j]? = some (i, vR x)) (k : WA mi d (pc + 1) ls (vR x :: st) h res) : WA mi d pc ls st h res :=
  WA.pure (fun G p l e R s m args below meth c H locs cells slots Q la C hH hS hv kk => by
    have hg := gl_has hv j hw
    have k0 := kk la hv
    by_cases hx : x = 0
    · subst hx
      exact lv_aload_nN C.1 C.2.1 hd hi hg k0
    · rw [gv_ref G hx] at hg
      have e : gs G (vR x :: st) = .ref (gad G x) :: gs G st := by show gv G (vR x) :: _ = _; rw [gv_ref G hx]; rfl
      rw [e] at k0
      exact lv_aload_n C.1 C.2.1 hd hi hg k0) k
theorem r_aload {i : Nat} {x : Nat} (hd : de mi pc (.aload i) 2) (j : Nat) (hw : ls[j]? = some (i, vR x)) (k : WA mi d (pc + 2) ls (vR x :: st) h res) : WA mi d pc ls st h res :=
  WA.pure (fun G p l e R s m args below meth c H locs cells slots Q la C hH hS hv kk => by
    have hg := gl_has hv j hw
    have k0 := kk la hv
    by_cases hx : x = 0
    · subst hx
      exact lv_aloadN C.1 C.2.1 hd hg k0
    · rw [gv_ref G hx] at hg
      have e : gs G (vR x :: st) = .ref (gad G x) :: gs G st := by show gv G (vR x) :: _ = _; rw [gv_ref G hx]; rfl
      rw [e] at k0
      exact lv_aload C.1 C.2.1 hd hg k0) k

/-- a value gets a name -/
def nm {α β : Type} (x : α) (E : α → β) : β := E x

theorem r_istore_n {n : Fin 4} {i : Nat} {x : Int32} {E : Int32 → Option ρ} (hd : de mi pc (.istore_n n) 1) (hi : (n : Nat) = i) (hn : i < mi.2.2.1) (hl : ast i ls = ls') (hf : nm x E = some q) (k : ∀ y : Int32, E y = some q → WA mi d (pc + 1) ((i, vI y) :: ls') st h res) : WA mi d pc ls (vI x :: st) h res :=
  WA.pure (fun G p l e R s m args below meth c H locs cells slots Q la C hH hS hv kk => lv_istore_n C.1 C.2.1 hd hi hv hn (by rw [ast_gl, hl]; try rfl) (fun la' hl' => kk la' hl')) (k x hf)

theorem r_istore {i : Nat} {x : Int32} {E : Int32 → Option ρ} (hd : de mi pc (.istore i) 2) (hn : i < mi.2.2.1) (hl : ast i ls = ls') (hf : nm x E = some q) (k : ∀ y : Int32, E y = some q → WA mi d (pc + 2) ((i, vI y) :: ls') st h res) : WA mi d pc ls (vI x :: st) h res :=
  WA.pure (fun G p l e R s m args below meth c H locs cells slots Q la C hH hS hv kk => lv_istore C.1 C.2.1 hd hv hn (by rw [ast_gl, hl]; try rfl) (fun la' hl' => kk la' hl')) (k x hf)

theorem r_lstore_n {n : Fin 4} {i : Nat} {x : Int64} {E : Int64 → Option ρ} (hd : de mi pc (.lstore_n n) 1) (hi : (n : Nat) = i) (hn : i + 1 < mi.2.2.1) (hl : ast2 i ls = ls') (hf : nm x E = some q) (k : ∀ y : Int64, E y = some q → WA mi d (pc + 1) ((i, vJ y) :: ls') st h res) : WA mi d pc ls (vJ x :: st) h res :=
  WA.pure (fun G p l e R s m args below meth c H locs cells slots Q la C hH hS hv kk => lv_lstore_n C.1 C.2.1 hd hi hv hn (by rw [ast2_gl, hl]; try rfl) (fun la' hl' => kk la' hl')) (k x hf)

theorem r_lstore {i : Nat} {x : Int64} {E : Int64 → Option ρ} (hd : de mi pc (.lstore i) 2) (hn : i + 1 < mi.2.2.1) (hl : ast2 i ls = ls') (hf : nm x E = some q) (k : ∀ y : Int64, E y = some q → WA mi d (pc + 2) ((i, vJ y) :: ls') st h res) : WA mi d pc ls (vJ x :: st) h res :=
  WA.pure (fun G p l e R s m args below meth c H locs cells slots Q la C hH hS hv kk => lv_lstore C.1 C.2.1 hd hv hn (by rw [ast2_gl, hl]; try rfl) (fun la' hl' => kk la' hl')) (k x hf)

theorem r_astore_n {n : Fin 4} {i : Nat} {x : Nat} {E : Nat → Option ρ} (hd : de mi pc (.astore_n n) 1) (hi : (n : Nat) = i) (hn : i < mi.2.2.1) (hl : ast i ls = ls') (hf : nm x E = some q) (k : ∀ y : Nat, E y = some q → WA mi d (pc + 1) ((i, vR y) :: ls') st h res) : WA mi d pc ls (vR x :: st) h res :=
  WA.pure (fun G p l e R s m args below meth c H locs cells slots Q la C hH hS hv kk => by
    by_cases hx : x = 0
    · subst hx
      exact lv_astore_nN C.1 C.2.1 hd hi hv hn (by rw [ast_gl, hl]; rfl) (fun la' hl' => kk la' hl')
    · have e : gs G (vR x :: st) = .ref (gad G x) :: gs G st := by show gv G (vR x) :: _ = _; rw [gv_ref G hx]; rfl
      rw [e]
      exact lv_astore_n C.1 C.2.1 hd hi hv hn (by rw [ast_gl, hl]; try rfl) (fun la' hl' => kk la' (by
        have e2 : gl G ((i, vR x) :: ls') = (i, .ref (gad G x)) :: gl G ls' := by show (i, gv G (vR x)) :: _ = _; rw [gv_ref G hx]; rfl
        rw [e2]; exact hl'))) (k x hf)

theorem r_astore {i : Nat} {x : Nat} {E : Nat → Option ρ} (hd : de mi pc (.astore i) 2) (hn : i < mi.2.2.1) (hl : ast i ls = ls') (hf : nm x E = some q) (k : ∀ y : Nat, E y = some q → WA mi d (pc + 2) ((i, vR y) :: ls') st h res) : WA mi d pc ls (vR x :: st) h res :=
  WA.pure (fun G p l e R s m args below meth c H locs cells slots Q la C hH hS hv kk => by
    by_cases hx : x = 0
    · subst hx
      exact lv_astoreN C.1 C.2.1 hd hv hn (by rw [ast_gl, hl]; rfl) (fun la' hl' => kk la' hl')
    · have e : gs G (vR x :: st) = .ref (gad G x) :: gs G st := by show gv G (vR x) :: _ = _; rw [gv_ref G hx]; rfl
      rw [e]
      exact lv_astore C.1 C.2.1 hd hv hn (by rw [ast_gl, hl]; try rfl) (fun la' hl' => kk la' (by
        have e2 : gl G ((i, vR x) :: ls') = (i, .ref (gad G x)) :: gl G ls' := by show (i, gv G (vR x)) :: _ = _; rw [gv_ref G hx]; rfl
        rw [e2]; exact hl'))) (k x hf)

theorem r_iinc {i : Nat} {n : Int} {x : Int32} {E : Int32 → Option ρ} (hd : de mi pc (.iinc i n) 3) (j : Nat) (hj : ls[j]? = some (i, vI x)) {v : Int32} (hw : Int32.ofInt n = v) (hn : i < mi.2.2.1) (hl : ast i ls = ls') (hf : nm (x + v) E = some q) (k : ∀ y : Int32, E y = some q → WA mi d (pc + 3) ((i, vI y) :: ls') st h res) : WA mi d pc ls st h res :=
  WA.pure (fun G p l e R s m args below meth c H locs cells slots Q la C hH hS hv kk => lv_iinc C.1 C.2.1 hd hv (k := j) (i := i) (x := x) (by unfold gl; rw [List.getElem?_map, hj]; rfl) (by rw [hw]) hn (by rw [ast_gl, hl]; rfl) (fun la' hl' => kk la' hl')) (k (x + v) hf)

theorem r_iadd {x y : Int32} (hd : de mi pc .iadd 1) (k : WA mi d (pc + 1) ls (vI (x + y) :: st) h res) : WA mi d pc ls (vI y :: vI x :: st) h res :=
  WA.pure (fun G p l e R s m args below meth c H locs cells slots Q la C hH hS hv kk => lv_iadd C.1 C.2.1 hd (kk la hv)) k

theorem r_isub {x y : Int32} (hd : de mi pc .isub 1) (k : WA mi d (pc + 1) ls (vI (x - y) :: st) h res) : WA mi d pc ls (vI y :: vI x :: st) h res :=
  WA.pure (fun G p l e R s m args below meth c H locs cells slots Q la C hH hS hv kk => lv_isub C.1 C.2.1 hd (kk la hv)) k

theorem r_imul {x y : Int32} (hd : de mi pc .imul 1) (k : WA mi d (pc + 1) ls (vI (x * y) :: st) h res) : WA mi d pc ls (vI y :: vI x :: st) h res :=
  WA.pure (fun G p l e R s m args below meth c H locs cells slots Q la C hH hS hv kk => lv_imul C.1 C.2.1 hd (kk la hv)) k

theorem r_iand {x y : Int32} (hd : de mi pc .iand 1) (k : WA mi d (pc + 1) ls (vI (x &&& y) :: st) h res) : WA mi d pc ls (vI y :: vI x :: st) h res :=
  WA.pure (fun G p l e R s m args below meth c H locs cells slots Q la C hH hS hv kk => lv_iand C.1 C.2.1 hd (kk la hv)) k

theorem r_ior {x y : Int32} (hd : de mi pc .ior 1) (k : WA mi d (pc + 1) ls (vI (x ||| y) :: st) h res) : WA mi d pc ls (vI y :: vI x :: st) h res :=
  WA.pure (fun G p l e R s m args below meth c H locs cells slots Q la C hH hS hv kk => lv_ior C.1 C.2.1 hd (kk la hv)) k

theorem r_ixor {x y : Int32} (hd : de mi pc .ixor 1) (k : WA mi d (pc + 1) ls (vI (x ^^^ y) :: st) h res) : WA mi d pc ls (vI y :: vI x :: st) h res :=
  WA.pure (fun G p l e R s m args below meth c H locs cells slots Q la C hH hS hv kk => lv_ixor C.1 C.2.1 hd (kk la hv)) k

theorem r_ishl {x y : Int32} (hd : de mi pc .ishl 1) (k : WA mi d (pc + 1) ls (vI (x <<< (y &&& 31)) :: st) h res) : WA mi d pc ls (vI y :: vI x :: st) h res :=
  WA.pure (fun G p l e R s m args below meth c H locs cells slots Q la C hH hS hv kk => lv_ishl C.1 C.2.1 hd (kk la hv)) k

theorem r_ishr {x y : Int32} (hd : de mi pc .ishr 1) (k : WA mi d (pc + 1) ls (vI (x >>> (y &&& 31)) :: st) h res) : WA mi d pc ls (vI y :: vI x :: st) h res :=
  WA.pure (fun G p l e R s m args below meth c H locs cells slots Q la C hH hS hv kk => lv_ishr C.1 C.2.1 hd (kk la hv)) k

theorem r_ladd {x y : Int64} (hd : de mi pc .ladd 1) (k : WA mi d (pc + 1) ls (vJ (x + y) :: st) h res) : WA mi d pc ls (vJ y :: vJ x :: st) h res :=
  WA.pure (fun G p l e R s m args below meth c H locs cells slots Q la C hH hS hv kk => lv_ladd C.1 C.2.1 hd (kk la hv)) k

theorem r_lsub {x y : Int64} (hd : de mi pc .lsub 1) (k : WA mi d (pc + 1) ls (vJ (x - y) :: st) h res) : WA mi d pc ls (vJ y :: vJ x :: st) h res :=
  WA.pure (fun G p l e R s m args below meth c H locs cells slots Q la C hH hS hv kk => lv_lsub C.1 C.2.1 hd (kk la hv)) k

theorem r_lmul {x y : Int64} (hd : de mi pc .lmul 1) (k : WA mi d (pc + 1) ls (vJ (x * y) :: st) h res) : WA mi d pc ls (vJ y :: vJ x :: st) h res :=
  WA.pure (fun G p l e R s m args below meth c H locs cells slots Q la C hH hS hv kk => lv_lmul C.1 C.2.1 hd (kk la hv)) k

theorem r_land {x y : Int64} (hd : de mi pc .land 1) (k : WA mi d (pc + 1) ls (vJ (x &&& y) :: st) h res) : WA mi d pc ls (vJ y :: vJ x :: st) h res :=
  WA.pure (fun G p l e R s m args below meth c H locs cells slots Q la C hH hS hv kk => lv_land C.1 C.2.1 hd (kk la hv)) k

theorem r_lor {x y : Int64} (hd : de mi pc .lor 1) (k : WA mi d (pc + 1) ls (vJ (x ||| y) :: st) h res) : WA mi d pc ls (vJ y :: vJ x :: st) h res :=
  WA.pure (fun G p l e R s m args below meth c H locs cells slots Q la C hH hS hv kk => lv_lor C.1 C.2.1 hd (kk la hv)) k

theorem r_lxor {x y : Int64} (hd : de mi pc .lxor 1) (k : WA mi d (pc + 1) ls (vJ (x ^^^ y) :: st) h res) : WA mi d pc ls (vJ y :: vJ x :: st) h res :=
  WA.pure (fun G p l e R s m args below meth c H locs cells slots Q la C hH hS hv kk => lv_lxor C.1 C.2.1 hd (kk la hv)) k

theorem r_ineg {x : Int32} (hd : de mi pc .ineg 1) (k : WA mi d (pc + 1) ls (vI (-x) :: st) h res) : WA mi d pc ls (vI x :: st) h res :=
  WA.pure (fun G p l e R s m args below meth c H locs cells slots Q la C hH hS hv kk => lv_ineg C.1 C.2.1 hd (kk la hv)) k

def x_iushr (x y : Int32) : Int32 := (x.toUInt32 >>> (y.toUInt32 &&& Int32.toUInt32 31)).toInt32
def x_lshl (x : Int64) (y : Int32) : Int64 := x <<< (y.toInt64 &&& 63)
def x_lushr (x : Int64) (y : Int32) : Int64 := (x.toUInt64 >>> (y.toInt64.toUInt64 &&& Int64.toUInt64 63)).toInt64

theorem r_iushr {x y : Int32} (hd : de mi pc .iushr 1) (k : WA mi d (pc + 1) ls (vI (x_iushr x y) :: st) h res) : WA mi d pc ls (vI y :: vI x :: st) h res :=
  WA.pure (fun G p l e R s m args below meth c H locs cells slots Q la C hH hS hv kk => lv_iushr C.1 C.2.1 hd rfl (kk la hv)) k

theorem r_lshl {x : Int64} {y : Int32} (hd : de mi pc .lshl 1) (k : WA mi d (pc + 1) ls (vJ (x_lshl x y) :: st) h res) : WA mi d pc ls (vI y :: vJ x :: st) h res :=
  WA.pure (fun G p l e R s m args below meth c H locs cells slots Q la C hH hS hv kk => lv_lshl C.1 C.2.1 hd rfl (kk la hv)) k

theorem r_lushr {x : Int64} {y : Int32} (hd : de mi pc .lushr 1) (k : WA mi d (pc + 1) ls (vJ (x_lushr x y) :: st) h res) : WA mi d pc ls (vI y :: vJ x :: st) h res :=
  WA.pure (fun G p l e R s m args below meth c H locs cells slots Q la C hH hS hv kk => lv_lushr C.1 C.2.1 hd rfl (kk la hv)) k

theorem r_i2l {x : Int32} (hd : de mi pc .i2l 1) (k : WA mi d (pc + 1) ls (vJ x.toInt64 :: st) h res) : WA mi d pc ls (vI x :: st) h res :=
  WA.pure (fun G p l e R s m args below meth c H locs cells slots Q la C hH hS hv kk => lv_i2l C.1 C.2.1 hd rfl (kk la hv)) k

theorem r_l2i {x : Int64} (hd : de mi pc .l2i 1) (k : WA mi d (pc + 1) ls (vI x.toInt32 :: st) h res) : WA mi d pc ls (vJ x :: st) h res :=
  WA.pure (fun G p l e R s m args below meth c H locs cells slots Q la C hH hS hv kk => lv_l2i C.1 C.2.1 hd rfl (kk la hv)) k

theorem r_i2b {x : Int32} (hd : de mi pc .i2b 1) (k : WA mi d (pc + 1) ls (vI x.toInt8.toInt32 :: st) h res) : WA mi d pc ls (vI x :: st) h res :=
  WA.pure (fun G p l e R s m args below meth c H locs cells slots Q la C hH hS hv kk => lv_i2b C.1 C.2.1 hd rfl (kk la hv)) k

theorem r_i2s {x : Int32} (hd : de mi pc .i2s 1) (k : WA mi d (pc + 1) ls (vI x.toInt16.toInt32 :: st) h res) : WA mi d pc ls (vI x :: st) h res :=
  WA.pure (fun G p l e R s m args below meth c H locs cells slots Q la C hH hS hv kk => lv_i2s C.1 C.2.1 hd rfl (kk la hv)) k

theorem r_lcmp {x y : Int64} (hd : de mi pc .lcmp 1) (k : WA mi d (pc + 1) ls (vI (lg_cmp x y) :: st) h res) : WA mi d pc ls (vJ y :: vJ x :: st) h res :=
  WA.pure (fun G p l e R s m args below meth c H locs cells slots Q la C hH hS hv kk => W.lcmp C.1 C.2.1 hd (kk la hv)) k

def rmI (x y : Int32) : Int32 := x - x / y * y
def rmJ (x y : Int64) : Int64 := x - x / y * y

theorem r_idiv {x y : Int32} (hd : de mi pc .idiv 1) (hf : (if y = 0 then none else E) = some q) (k : E = some q → WA mi d (pc + 1) ls (vI (x / y) :: st) h res) : WA mi d pc ls (vI y :: vI x :: st) h res := by
  by_cases hy : y = 0
  · rw [if_pos hy] at hf; cases hf
  · rw [if_neg hy] at hf
    exact WA.pure (fun G p l e R s m args below meth c H locs cells slots Q la C hH hS hv kk => lv_idiv C.1 C.2.1 hd hy (kk la hv)) (k hf)

theorem r_irem {x y : Int32} (hd : de mi pc .irem 1) (hf : (if y = 0 then none else E) = some q) (k : E = some q → WA mi d (pc + 1) ls (vI (rmI x y) :: st) h res) : WA mi d pc ls (vI y :: vI x :: st) h res := by
  by_cases hy : y = 0
  · rw [if_pos hy] at hf; cases hf
  · rw [if_neg hy] at hf
    exact WA.pure (fun G p l e R s m args below meth c H locs cells slots Q la C hH hS hv kk => lv_irem C.1 C.2.1 hd hy (kk la hv)) (k hf)

theorem r_ldiv {x y : Int64} (hd : de mi pc .ldiv 1) (hf : (if y = 0 then none else E) = some q) (k : E = some q → WA mi d (pc + 1) ls (vJ (x / y) :: st) h res) : WA mi d pc ls (vJ y :: vJ x :: st) h res := by
  by_cases hy : y = 0
  · rw [if_pos hy] at hf; cases hf
  · rw [if_neg hy] at hf
    exact WA.pure (fun G p l e R s m args below meth c H locs cells slots Q la C hH hS hv kk => lv_ldiv C.1 C.2.1 hd hy (kk la hv)) (k hf)

theorem r_lrem {x y : Int64} (hd : de mi pc .lrem 1) (hf : (if y = 0 then none else E) = some q) (k : E = some q → WA mi d (pc + 1) ls (vJ (rmJ x y) :: st) h res) : WA mi d pc ls (vJ y :: vJ x :: st) h res := by
  by_cases hy : y = 0
  · rw [if_pos hy] at hf; cases hf
  · rw [if_neg hy] at hf
    exact WA.pure (fun G p l e R s m args below meth c H locs cells slots Q la C hH hS hv kk => lv_lrem C.1 C.2.1 hd hy (kk la hv)) (k hf)

theorem r_pop {v : AV} (hd : de mi pc .pop 1) (hc : acat v = 1) (k : WA mi d (pc + 1) ls st h res) : WA mi d pc ls (v :: st) h res :=
  WA.pure (fun G p l e R s m args below meth c H locs cells slots Q la C hH hS hv kk => lv_pop C.1 C.2.1 hd ((acat_ok G v).trans hc) (kk la hv)) k
theorem r_dup {v : AV} (hd : de mi pc .dup 1) (hc : acat v = 1) (k : WA mi d (pc + 1) ls (v :: v :: st) h res) : WA mi d pc ls (v :: st) h res :=
  WA.pure (fun G p l e R s m args below meth c H locs cells slots Q la C hH hS hv kk => lv_dup C.1 C.2.1 hd ((acat_ok G v).trans hc) (kk la hv)) k
theorem r_dup_x1 {u v : AV} (hd : de mi pc .dup_x1 1) (hc : acat u = 1) (hc2 : acat v = 1) (k : WA mi d (pc + 1) ls (u :: v :: u :: st) h res) : WA mi d pc ls (u :: v :: st) h res :=
  WA.pure (fun G p l e R s m args below meth c H locs cells slots Q la C hH hS hv kk => lv_dup_x1 C.1 C.2.1 hd ((acat_ok G u).trans hc) ((acat_ok G v).trans hc2) (kk la hv)) k
theorem r_dup2_11 {u v : AV} (hd : de mi pc .dup2 1) (hc : acat u = 1) (hc2 : acat v = 1) (k : WA mi d (pc + 1) ls (u :: v :: u :: v :: st) h res) : WA mi d pc ls (u :: v :: st) h res :=
  WA.pure (fun G p l e R s m args below meth c H locs cells slots Q la C hH hS hv kk => lv_dup2_11 C.1 C.2.1 hd ((acat_ok G u).trans hc) ((acat_ok G v).trans hc2) (kk la hv)) k
theorem r_dup2_2 {u : AV} (hd : de mi pc .dup2 1) (hc : acat u = 2) (k : WA mi d (pc + 1) ls (u :: u :: st) h res) : WA mi d pc ls (u :: st) h res :=
  WA.pure (fun G p l e R s m args below meth c H locs cells slots Q la C hH hS hv kk => lv_dup2_2 C.1 C.2.1 hd ((acat_ok G u).trans hc) (kk la hv)) k
theorem r_goto {off : Int} (hd : de mi pc (.goto off) 3) (ht : (pc : Int) + off = (tgt : Int)) (k : WA mi d tgt ls st h res) : WA mi d pc ls st h res :=
  WA.pure (fun G p l e R s m args below meth c H locs cells slots Q la C hH hS hv kk => lv_goto C.1 C.2.1 hd ht (kk la hv)) k

theorem r_if_eq {x : Int32} {off : Int} (hd : de mi pc (.ifCond .eq off) 3) (ht : (pc : Int) + off = (tgt : Int)) (hf : (if x = 0 then E1 else E2) = some q) (k1 : E1 = some q → WA mi d tgt ls st h res) (k2 : E2 = some q → WA mi d (pc + 3) ls st h res) : WA mi d pc ls (vI x :: st) h res := by
  by_cases hy : x = 0
  · rw [if_pos hy] at hf
    exact WA.pure (fun G p l e R s m args below meth c H locs cells slots Q la C hH hS hv kk => lv_if_eq C.1 C.2.1 hd ht (fun _ => kk la hv) (fun z => absurd hy z)) (k1 hf)
  · rw [if_neg hy] at hf
    exact WA.pure (fun G p l e R s m args below meth c H locs cells slots Q la C hH hS hv kk => lv_if_eq C.1 C.2.1 hd ht (fun z => absurd z hy) (fun _ => kk la hv)) (k2 hf)

theorem r_if_lt {x : Int32} {off : Int} (hd : de mi pc (.ifCond .lt off) 3) (ht : (pc : Int) + off = (tgt : Int)) (hf : (if x < 0 then E1 else E2) = some q) (k1 : E1 = some q → WA mi d tgt ls st h res) (k2 : E2 = some q → WA mi d (pc + 3) ls st h res) : WA mi d pc ls (vI x :: st) h res := by
  by_cases hy : x < 0
  · rw [if_pos hy] at hf
    exact WA.pure (fun G p l e R s m args below meth c H locs cells slots Q la C hH hS hv kk => lv_if_lt C.1 C.2.1 hd ht (fun _ => kk la hv) (fun z => absurd hy z)) (k1 hf)
  · rw [if_neg hy] at hf
    exact WA.pure (fun G p l e R s m args below meth c H locs cells slots Q la C hH hS hv kk => lv_if_lt C.1 C.2.1 hd ht (fun z => absurd z hy) (fun _ => kk la hv)) (k2 hf)

theorem r_if_ge {x : Int32} {off : Int} (hd : de mi pc (.ifCond .ge off) 3) (ht : (pc : Int) + off = (tgt : Int)) (hf : (if 0 ≤ x then E1 else E2) = some q) (k1 : E1 = some q → WA mi d tgt ls st h res) (k2 : E2 = some q → WA mi d (pc + 3) ls st h res) : WA mi d pc ls (vI x :: st) h res := by
  by_cases hy : 0 ≤ x
  · rw [if_pos hy] at hf
    exact WA.pure (fun G p l e R s m args below meth c H locs cells slots Q la C hH hS hv kk => lv_if_ge C.1 C.2.1 hd ht (fun _ => kk la hv) (fun z => absurd hy z)) (k1 hf)
  · rw [if_neg hy] at hf
    exact WA.pure (fun G p l e R s m args below meth c H locs cells slots Q la C hH hS hv kk => lv_if_ge C.1 C.2.1 hd ht (fun z => absurd z hy) (fun _ => kk la hv)) (k2 hf)

theorem r_if_gt {x : Int32} {off : Int} (hd : de mi pc (.ifCond .gt off) 3) (ht : (pc : Int) + off = (tgt : Int)) (hf : (if 0 < x then E1 else E2) = some q) (k1 : E1 = some q → WA mi d tgt ls st h res) (k2 : E2 = some q → WA mi d (pc + 3) ls st h res) : WA mi d pc ls (vI x :: st) h res := by
  by_cases hy : 0 < x
  · rw [if_pos hy] at hf
    exact WA.pure (fun G p l e R s m args below meth c H locs cells slots Q la C hH hS hv kk => lv_if_gt C.1 C.2.1 hd ht (fun _ => kk la hv) (fun z => absurd hy z)) (k1 hf)
  · rw [if_neg hy] at hf
    exact WA.pure (fun G p l e R s m args below meth c H locs cells slots Q la C hH hS hv kk => lv_if_gt C.1 C.2.1 hd ht (fun z => absurd z hy) (fun _ => kk la hv)) (k2 hf)

theorem r_if_le {x : Int32} {off : Int} (hd : de mi pc (.ifCond .le off) 3) (ht : (pc : Int) + off = (tgt : Int)) (hf : (if x ≤ 0 then E1 else E2) = some q) (k1 : E1 = some q → WA mi d tgt ls st h res) (k2 : E2 = some q → WA mi d (pc + 3) ls st h res) : WA mi d pc ls (vI x :: st) h res := by
  by_cases hy : x ≤ 0
  · rw [if_pos hy] at hf
    exact WA.pure (fun G p l e R s m args below meth c H locs cells slots Q la C hH hS hv kk => lv_if_le C.1 C.2.1 hd ht (fun _ => kk la hv) (fun z => absurd hy z)) (k1 hf)
  · rw [if_neg hy] at hf
    exact WA.pure (fun G p l e R s m args below meth c H locs cells slots Q la C hH hS hv kk => lv_if_le C.1 C.2.1 hd ht (fun z => absurd z hy) (fun _ => kk la hv)) (k2 hf)

theorem r_icmp_eq {x y : Int32} {off : Int} (hd : de mi pc (.if_icmp .eq off) 3) (ht : (pc : Int) + off = (tgt : Int)) (hf : (if x = y then E1 else E2) = some q) (k1 : E1 = some q → WA mi d tgt ls st h res) (k2 : E2 = some q → WA mi d (pc + 3) ls st h res) : WA mi d pc ls (vI y :: vI x :: st) h res := by
  by_cases hy : x = y
  · rw [if_pos hy] at hf
    exact WA.pure (fun G p l e R s m args below meth c H locs cells slots Q la C hH hS hv kk => lv_icmp_eq C.1 C.2.1 hd ht (fun _ => kk la hv) (fun z => absurd hy z)) (k1 hf)
  · rw [if_neg hy] at hf
    exact WA.pure (fun G p l e R s m args below meth c H locs cells slots Q la C hH hS hv kk => lv_icmp_eq C.1 C.2.1 hd ht (fun z => absurd z hy) (fun _ => kk la hv)) (k2 hf)

theorem r_icmp_lt {x y : Int32} {off : Int} (hd : de mi pc (.if_icmp .lt off) 3) (ht : (pc : Int) + off = (tgt : Int)) (hf : (if x < y then E1 else E2) = some q) (k1 : E1 = some q → WA mi d tgt ls st h res) (k2 : E2 = some q → WA mi d (pc + 3) ls st h res) : WA mi d pc ls (vI y :: vI x :: st) h res := by
  by_cases hy : x < y
  · rw [if_pos hy] at hf
    exact WA.pure (fun G p l e R s m args below meth c H locs cells slots Q la C hH hS hv kk => lv_icmp_lt C.1 C.2.1 hd ht (fun _ => kk la hv) (fun z => absurd hy z)) (k1 hf)
  · rw [if_neg hy] at hf
    exact WA.pure (fun G p l e R s m args below meth c H locs cells slots Q la C hH hS hv kk => lv_icmp_lt C.1 C.2.1 hd ht (fun z => absurd z hy) (fun _ => kk la hv)) (k2 hf)

theorem r_icmp_ge {x y : Int32} {off : Int} (hd : de mi pc (.if_icmp .ge off) 3) (ht : (pc : Int) + off = (tgt : Int)) (hf : (if y ≤ x then E1 else E2) = some q) (k1 : E1 = some q → WA mi d tgt ls st h res) (k2 : E2 = some q → WA mi d (pc + 3) ls st h res) : WA mi d pc ls (vI y :: vI x :: st) h res := by
  by_cases hy : y ≤ x
  · rw [if_pos hy] at hf
    exact WA.pure (fun G p l e R s m args below meth c H locs cells slots Q la C hH hS hv kk => lv_icmp_ge C.1 C.2.1 hd ht (fun _ => kk la hv) (fun z => absurd hy z)) (k1 hf)
  · rw [if_neg hy] at hf
    exact WA.pure (fun G p l e R s m args below meth c H locs cells slots Q la C hH hS hv kk => lv_icmp_ge C.1 C.2.1 hd ht (fun z => absurd z hy) (fun _ => kk la hv)) (k2 hf)

theorem r_icmp_gt {x y : Int32} {off : Int} (hd : de mi pc (.if_icmp .gt off) 3) (ht : (pc : Int) + off = (tgt : Int)) (hf : (if y < x then E1 else E2) = some q) (k1 : E1 = some q → WA mi d tgt ls st h res) (k2 : E2 = some q → WA mi d (pc + 3) ls st h res) : WA mi d pc ls (vI y :: vI x :: st) h res := by
  by_cases hy : y < x
  · rw [if_pos hy] at hf
    exact WA.pure (fun G p l e R s m args below meth c H locs cells slots Q la C hH hS hv kk => lv_icmp_gt C.1 C.2.1 hd ht (fun _ => kk la hv) (fun z => absurd hy z)) (k1 hf)
  · rw [if_neg hy] at hf
    exact WA.pure (fun G p l e R s m args below meth c H locs cells slots Q la C hH hS hv kk => lv_icmp_gt C.1 C.2.1 hd ht (fun z => absurd z hy) (fun _ => kk la hv)) (k2 hf)

theorem r_icmp_le {x y : Int32} {off : Int} (hd : de mi pc (.if_icmp .le off) 3) (ht : (pc : Int) + off = (tgt : Int)) (hf : (if x ≤ y then E1 else E2) = some q) (k1 : E1 = some q → WA mi d tgt ls st h res) (k2 : E2 = some q → WA mi d (pc + 3) ls st h res) : WA mi d pc ls (vI y :: vI x :: st) h res := by
  by_cases hy : x ≤ y
  · rw [if_pos hy] at hf
    exact WA.pure (fun G p l e R s m args below meth c H locs cells slots Q la C hH hS hv kk => lv_icmp_le C.1 C.2.1 hd ht (fun _ => kk la hv) (fun z => absurd hy z)) (k1 hf)
  · rw [if_neg hy] at hf
    exact WA.pure (fun G p l e R s m args below meth c H locs cells slots Q la C hH hS hv kk => lv_icmp_le C.1 C.2.1 hd ht (fun z => absurd z hy) (fun _ => kk la hv)) (k2 hf)

theorem r_if_ne {x : Int32} {off : Int} (hd : de mi pc (.ifCond .ne off) 3) (ht : (pc : Int) + off = (tgt : Int)) (hf : (if x = 0 then E2 else E1) = some q) (k1 : E1 = some q → WA mi d tgt ls st h res) (k2 : E2 = some q → WA mi d (pc + 3) ls st h res) : WA mi d pc ls (vI x :: st) h res := by
  by_cases hy : x = 0
  · rw [if_pos hy] at hf
    exact WA.pure (fun G p l e R s m args below meth c H locs cells slots Q la C hH hS hv kk => lv_if_ne C.1 C.2.1 hd ht (fun z => absurd hy z) (fun _ => kk la hv)) (k2 hf)
  · rw [if_neg hy] at hf
    exact WA.pure (fun G p l e R s m args below meth c H locs cells slots Q la C hH hS hv kk => lv_if_ne C.1 C.2.1 hd ht (fun _ => kk la hv) (fun z => absurd z hy)) (k1 hf)

theorem r_icmp_ne {x y : Int32} {off : Int} (hd : de mi pc (.if_icmp .ne off) 3) (ht : (pc : Int) + off = (tgt : Int)) (hf : (if x = y then E2 else E1) = some q) (k1 : E1 = some q → WA mi d tgt ls st h res) (k2 : E2 = some q → WA mi d (pc + 3) ls st h res) : WA mi d pc ls (vI y :: vI x :: st) h res := by
  by_cases hy : x = y
  · rw [if_pos hy] at hf
    exact WA.pure (fun G p l e R s m args below meth c H locs cells slots Q la C hH hS hv kk => lv_icmp_ne C.1 C.2.1 hd ht (fun z => absurd hy z) (fun _ => kk la hv)) (k2 hf)
  · rw [if_neg hy] at hf
    exact WA.pure (fun G p l e R s m args below meth c H locs cells slots Q la C hH hS hv kk => lv_icmp_ne C.1 C.2.1 hd ht (fun _ => kk la hv) (fun z => absurd z hy)) (k1 hf)

theorem r_ifnull {x : Nat} {off : Int} (hd : de mi pc (.ifnull off) 3) (ht : (pc : Int) + off = (tgt : Int)) (hf : (if x = 0 then E1 else E2) = some q) (k1 : E1 = some q → WA mi d tgt ls st h res) (k2 : E2 = some q → WA mi d (pc + 3) ls st h res) : WA mi d pc ls (vR x :: st) h res := by
  by_cases hy : x = 0
  · rw [if_pos hy] at hf
    subst hy
    exact WA.pure (fun G p l e R s m args below meth c H locs cells slots Q la C hH hS hv kk => lv_ifnullN C.1 C.2.1 hd ht (kk la hv)) (k1 hf)
  · rw [if_neg hy] at hf
    refine WA.pure (fun G p l e R s m args below meth c H locs cells slots Q la C hH hS hv kk => ?_) (k2 hf)
    have e : gs G (vR x :: st) = .ref (gad G x) :: gs G st := by show gv G (vR x) :: _ = _; rw [gv_ref G hy]; rfl
    rw [e]
    exact lv_ifnull C.1 C.2.1 hd (kk la hv)
theorem r_ifnonnull {x : Nat} {off : Int} (hd : de mi pc (.ifnonnull off) 3) (ht : (pc : Int) + off = (tgt : Int)) (hf : (if x = 0 then E2 else E1) = some q) (k1 : E1 = some q → WA mi d tgt ls st h res) (k2 : E2 = some q → WA mi d (pc + 3) ls st h res) : WA mi d pc ls (vR x :: st) h res := by
  by_cases hy : x = 0
  · rw [if_pos hy] at hf
    subst hy
    exact WA.pure (fun G p l e R s m args below meth c H locs cells slots Q la C hH hS hv kk => lv_ifnonnullN C.1 C.2.1 hd (kk la hv)) (k2 hf)
  · rw [if_neg hy] at hf
    refine WA.pure (fun G p l e R s m args below meth c H locs cells slots Q la C hH hS hv kk => ?_) (k1 hf)
    have e : gs G (vR x :: st) = .ref (gad G x) :: gs G st := by show gv G (vR x) :: _ = _; rw [gv_ref G hy]; rfl
    rw [e]
    exact lv_ifnonnull C.1 C.2.1 hd ht (kk la hv)
/-- a switch: one value after the other, then a known one's way, or out -/
theorem r_case {x v : Int32} {P : Prop} (hf : (if x = v then E1 else E2) = some q) (k1 : x = v → E1 = some q → P) (k2 : ¬ x = v → E2 = some q → P) : P := by
  by_cases hy : x = v
  · rw [if_pos hy] at hf; exact k1 hy hf
  · rw [if_neg hy] at hf; exact k2 hy hf
theorem r_tabIn {dflt lo hi : Int} {offs : Array Int} {len : Nat} {x v : Int32} {off : Int} (hd : de mi pc (.tableswitch dflt lo hi offs) len) (hx : x = v) (h1 : ¬ v.toInt < lo) (h2 : ¬ hi < v.toInt) (ho : offs[(v.toInt - lo).toNat]? = some off) (ht : (pc : Int) + off = (tgt : Int)) (k : WA mi d tgt ls st h res) : WA mi d pc ls (vI x :: st) h res := by
  subst hx
  exact WA.pure (fun G p l e R s m args below meth c H locs cells slots Q la C hH hS hv kk => lv_tableIn C.1 C.2.1 hd h1 h2 ho ht (kk la hv)) k
theorem r_tabOut {dflt lo hi : Int} {offs : Array Int} {len : Nat} {x : Int32} (hd : de mi pc (.tableswitch dflt lo hi offs) len) (hx : x.toInt < lo ∨ hi < x.toInt) (ht : (pc : Int) + dflt = (tgt : Int)) (k : WA mi d tgt ls st h res) : WA mi d pc ls (vI x :: st) h res :=
  WA.pure (fun G p l e R s m args below meth c H locs cells slots Q la C hH hS hv kk => lv_tableOut C.1 C.2.1 hd hx ht (kk la hv)) k
theorem r_look {dflt : Int} {ps : Array (Int × Int)} {len : Nat} {x : Int32} {off : Int} (hd : de mi pc (.lookupswitch dflt ps) len) (hp : (ps.toList.zip (ps.toList.drop 1)).all (fun (a, next) => a.1 < next.1) = true) (ho : Op.lookupswitch.offset ps.toList dflt x.toInt = off) (ht : (pc : Int) + off = (tgt : Int)) (k : WA mi d tgt ls st h res) : WA mi d pc ls (vI x :: st) h res :=
  WA.pure (fun G p l e R s m args below meth c H locs cells slots Q la C hH hS hv kk => lv_lookup C.1 C.2.1 hd hp ho ht (kk la hv)) k
end AR
