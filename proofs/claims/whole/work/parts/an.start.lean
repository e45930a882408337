/-! the start: what the two constructors leave, as a list of what is done -/
abbrev OpH : Type := Nat × Nat × Nat × Nat
def apH (h : AH) (o : OpH) : AH := if o.1 = 0 then nw h o.2.1 o.2.2.1 else if o.1 = 1 then sR h o.2.1 o.2.2.1 o.2.2.2 else sI h o.2.1 o.2.2.1 (iv (-1))
def dnH (h : AH) : List OpH → AH
  | [] => h
  | o :: l => dnH (apH h o) l
theorem dnH_app (l1 l2 : List OpH) : ∀ h : AH, dnH h (l1 ++ l2) = dnH (dnH h l1) l2 := by
  induction l1 with
  | nil => intro h; rfl
  | cons o l1 ih => intro h; exact ih (apH h o)
def cH (c : Nat) : List OpH → Nat
  | [] => c
  | o :: l => if o.1 = 0 then cH (c + 1) l else cH c l
def tH (c : Nat) : List OpH → Nat
  | [] => c
  | o :: l => if o.1 = 0 then tH (c + o.2.2.1) l else tH c l
def kH (c : Nat) : List OpH → Nat → Nat → Nat
  | [], _, d => d
  | o :: l, a, d => if o.1 = 0 then kH (c + 1) l a (if a = c then o.2.1 else d) else kH c l a d
def nH (c : Nat) : List OpH → Nat → Nat → Nat
  | [], _, d => d
  | o :: l, a, d => if o.1 = 0 then nH (c + 1) l a (if a = c then o.2.2.1 else d) else nH c l a d
def rH (c : Nat) : List OpH → Nat → Nat → Nat → Nat
  | [], _, _, d => d
  | o :: l, a, i, d => if o.1 = 0 then rH (c + 1) l a i (if a = c then 0 else d) else if o.1 = 1 then rH c l a i (if a = o.2.1 ∧ i = o.2.2.1 then o.2.2.2 else d) else rH c l a i d
def iH (c : Nat) : List OpH → Nat → Nat → Int32 → Int32
  | [], _, _, d => d
  | o :: l, a, i, d => if o.1 = 0 then iH (c + 1) l a i (if a = c then 0 else d) else if o.1 = 1 then iH c l a i d else iH c l a i (if a = o.2.1 ∧ i = o.2.2.1 then iv (-1) else d)
theorem cH_c (c : Nat) (o : OpH) (l : List OpH) : cH c (o :: l) = if o.1 = 0 then cH (c + 1) l else cH c l := rfl
theorem tH_c (c : Nat) (o : OpH) (l : List OpH) : tH c (o :: l) = if o.1 = 0 then tH (c + o.2.2.1) l else tH c l := rfl
theorem kH_c (c : Nat) (o : OpH) (l : List OpH) (a d : Nat) : kH c (o :: l) a d = if o.1 = 0 then kH (c + 1) l a (if a = c then o.2.1 else d) else kH c l a d := rfl
theorem nH_c (c : Nat) (o : OpH) (l : List OpH) (a d : Nat) : nH c (o :: l) a d = if o.1 = 0 then nH (c + 1) l a (if a = c then o.2.2.1 else d) else nH c l a d := rfl
theorem rH_c (c : Nat) (o : OpH) (l : List OpH) (a i d : Nat) : rH c (o :: l) a i d = if o.1 = 0 then rH (c + 1) l a i (if a = c then 0 else d) else if o.1 = 1 then rH c l a i (if a = o.2.1 ∧ i = o.2.2.1 then o.2.2.2 else d) else rH c l a i d := rfl
theorem iH_c (c : Nat) (o : OpH) (l : List OpH) (a i : Nat) (d : Int32) : iH c (o :: l) a i d = if o.1 = 0 then iH (c + 1) l a i (if a = c then 0 else d) else if o.1 = 1 then iH c l a i d else iH c l a i (if a = o.2.1 ∧ i = o.2.2.1 then iv (-1) else d) := rfl
theorem cH_ok (l : List OpH) : ∀ h : AH, gC (dnH h l) = cH (gC h) l := by
  induction l with
  | nil => intro h; rfl
  | cons o l ih =>
    intro h
    show gC (dnH (apH h o) l) = _
    rw [ih, cH_c]; unfold apH
    by_cases e : o.1 = 0
    · rw [if_pos e, if_pos e]; rfl
    · by_cases e1 : o.1 = 1
      · rw [if_neg e, if_neg e, if_pos e1]; rfl
      · rw [if_neg e, if_neg e, if_neg e1]; rfl
theorem tH_ok (l : List OpH) : ∀ h : AH, gS (dnH h l) = tH (gS h) l := by
  induction l with
  | nil => intro h; rfl
  | cons o l ih =>
    intro h
    show gS (dnH (apH h o) l) = _
    rw [ih, tH_c]; unfold apH
    by_cases e : o.1 = 0
    · rw [if_pos e, if_pos e]; rfl
    · by_cases e1 : o.1 = 1
      · rw [if_neg e, if_neg e, if_pos e1]; rfl
      · rw [if_neg e, if_neg e, if_neg e1]; rfl
theorem kH_ok (a : Nat) (l : List OpH) : ∀ h : AH, gK (dnH h l) a = kH (gC h) l a (gK h a) := by
  induction l with
  | nil => intro h; rfl
  | cons o l ih =>
    intro h
    show gK (dnH (apH h o) l) a = _
    rw [ih, kH_c]; unfold apH
    by_cases e : o.1 = 0
    · rw [if_pos e, if_pos e]; rfl
    · by_cases e1 : o.1 = 1
      · rw [if_neg e, if_neg e, if_pos e1]; rfl
      · rw [if_neg e, if_neg e, if_neg e1]; rfl
theorem nH_ok (a : Nat) (l : List OpH) : ∀ h : AH, gN (dnH h l) a = nH (gC h) l a (gN h a) := by
  induction l with
  | nil => intro h; rfl
  | cons o l ih =>
    intro h
    show gN (dnH (apH h o) l) a = _
    rw [ih, nH_c]; unfold apH
    by_cases e : o.1 = 0
    · rw [if_pos e, if_pos e]; rfl
    · by_cases e1 : o.1 = 1
      · rw [if_neg e, if_neg e, if_pos e1]; rfl
      · rw [if_neg e, if_neg e, if_neg e1]; rfl
theorem rH_ok (a i : Nat) (l : List OpH) : ∀ h : AH, gR (dnH h l) a i = rH (gC h) l a i (gR h a i) := by
  induction l with
  | nil => intro h; rfl
  | cons o l ih =>
    intro h
    show gR (dnH (apH h o) l) a i = _
    rw [ih, rH_c]; unfold apH
    by_cases e : o.1 = 0
    · rw [if_pos e, if_pos e]; rfl
    · by_cases e1 : o.1 = 1
      · rw [if_neg e, if_neg e, if_pos e1, if_pos e1]; rfl
      · rw [if_neg e, if_neg e, if_neg e1, if_neg e1]; rfl
theorem iH_ok (a i : Nat) (l : List OpH) : ∀ h : AH, gI (dnH h l) a i = iH (gC h) l a i (gI h a i) := by
  induction l with
  | nil => intro h; rfl
  | cons o l ih =>
    intro h
    show gI (dnH (apH h o) l) a i = _
    rw [ih, iH_c]; unfold apH
    by_cases e : o.1 = 0
    · rw [if_pos e, if_pos e]; rfl
    · by_cases e1 : o.1 = 1
      · rw [if_neg e, if_neg e, if_pos e1, if_pos e1]; rfl
      · rw [if_neg e, if_neg e, if_neg e1, if_neg e1]; rfl
theorem jH_ok (l : List OpH) : ∀ h : AH, (∀ a i, gJ h a i = jv 0) → ∀ a i, gJ (dnH h l) a i = jv 0 := by
  induction l with
  | nil => exact fun h H => H
  | cons o l ih =>
    intro h H
    refine ih (apH h o) (fun a i => ?_)
    unfold apH
    by_cases e : o.1 = 0
    · rw [if_pos e]
      show (if a = gC h then 0 else gJ h a i) = jv 0
      by_cases z : a = gC h
      · rw [if_pos z]; rfl
      · rw [if_neg z]; exact H a i
    · by_cases e1 : o.1 = 1
      · rw [if_neg e, if_pos e1]; exact H a i
      · rw [if_neg e, if_neg e1]; exact H a i
section St
variable {g : AH} {p q : List OpH} {x k n i kx c c0 v d a : Nat} {z : Int32} {K : AH → Option AH} {R : Option AH}
theorem dC (hc : gC g = c0) (e : cH c0 p = c) : gC (dnH g p) = c := by rw [cH_ok, hc]; exact e
theorem dK (hc : gC g = c0) (hx : gK g x = d) (e : kH c0 p x d = k) : gK (dnH g p) x = k := by rw [kH_ok, hc, hx]; exact e
theorem dN (hc : gC g = c0) (hx : gN g x = d) (e : nH c0 p x d = k) : gN (dnH g p) x = k := by rw [nH_ok, hc, hx]; exact e
theorem dR (hc : gC g = c0) (hx : gR g x i = d) (e : rH c0 p x i d = k) : gR (dnH g p) x i = k := by rw [rH_ok, hc, hx]; exact e
/-- a row more, held at a place of an object -/
theorem stA (hz : (¬ z < 0 ∧ z.toNatClampNeg ≤ 10000) ∧ z.toNatClampNeg = n) (hC : gC (dnH g p) = c) (hK : gK (dnH g p) x = kx) (hx : x ≠ c) (H : K (dnH g (p ++ [(0, k, n, 0), (1, x, i, c)])) = R) : (if ¬ z < 0 ∧ z.toNatClampNeg ≤ 10000 then nm (gC (dnH g p)) fun a => nm (nw (dnH g p) k z.toNatClampNeg) fun g2 => (if gK g2 x = kx then nm (sR g2 x i a) fun g3 => K g3 else none) else none) = R := by
  rw [if_pos hz.1, nm_eq, nm_eq, gK_nwo _ _ _ (by rw [hC]; exact hx), if_pos hK, nm_eq, hz.2, hC, ← H, dnH_app]
  rfl
theorem stN {E : Nat → AH → Option AH} {f : Nat → AH → Option AH} (hk : k ≠ 0) (hC : gC (dnH g p) = c) (hf : f c (dnH g (p ++ [(0, k, n, 0)])) = some (dnH (dnH g (p ++ [(0, k, n, 0)])) q)) (H : E c (dnH g (p ++ [(0, k, n, 0)] ++ q)) = R) : (nm (gC (dnH g p)) fun a1 => nm (nw (dnH g p) k n) fun g2 => (if gK g2 a1 = 0 then none else cbv (f a1 g2) (E a1))) = R := by
  have e : nw (dnH g p) k n = dnH g (p ++ [(0, k, n, 0)]) := by rw [dnH_app]; rfl
  rw [nm_eq, nm_eq, gK_nws, if_neg hk, hC, e, hf, some_cbv, ← dnH_app]
  exact H
theorem stR (hK : gK (dnH g p) x = kx) (H : K (dnH g (p ++ [(1, x, i, v)])) = R) : (if gK (dnH g p) x = kx then nm (sR (dnH g p) x i v) fun g4 => K g4 else none) = R := by
  rw [if_pos hK, nm_eq, ← H, dnH_app]
  rfl
theorem stI (hI : (ib (iv i) 6 = true) ∧ (iv i).toNatClampNeg = i) (hK : gK (dnH g p) a = 1) (hN : gN (dnH g p) a = 6) (H : K (dnH g (p ++ [(2, a, i, 0)])) = R) : (if gK (dnH g p) a = 1 ∧ ib (iv i) (gN (dnH g p) a) = true then nm (sI (dnH g p) a (iv i).toNatClampNeg (iv (-1))) fun g4 => K g4 else none) = R := by
  rw [if_pos ⟨hK, by rw [hN]; exact hI.1⟩, nm_eq, hI.2, ← H, dnH_app]
  rfl
end St
/-! the small ones -/
theorem nz108 : ((108 : Nat) = 0) = False := eq_false (by decide)
theorem nz107z : ((107 : Nat) = 0) = False := eq_false (by decide)
def o8 (x c : Nat) : List OpH := [(0, 1, 12, 0), (1, x, 0, c), (0, 1, 4, 0), (1, x, 1, c + 1), (0, 1, 3, 0), (1, x, 2, c + 2)]
theorem nz12 : (¬ iv 12 < 0 ∧ (iv 12).toNatClampNeg ≤ 10000) ∧ (iv 12).toNatClampNeg = 12 := by decide
theorem nz4 : (¬ iv 4 < 0 ∧ (iv 4).toNatClampNeg ≤ 10000) ∧ (iv 4).toNatClampNeg = 4 := by decide
theorem nz3 : (¬ iv 3 < 0 ∧ (iv 3).toNatClampNeg ≤ 10000) ∧ (iv 3).toNatClampNeg = 3 := by decide
theorem nz60 : (¬ iv 60 < 0 ∧ (iv 60).toNatClampNeg ≤ 10000) ∧ (iv 60).toNatClampNeg = 60 := by decide
section Sm
variable {g : AH} {x c : Nat}
theorem kH_old {a d : Nat} : ∀ (l : List OpH) (c : Nat), a < c → kH c l a d = d := by
  intro l
  induction l with
  | nil => intro c _; rfl
  | cons o l ih =>
    intro c hc
    rw [kH_c]
    by_cases e : o.1 = 0
    · rw [if_pos e, if_neg (by omega)]; exact ih (c + 1) (by omega)
    · rw [if_neg e]; exact ih c hc
theorem dKo {p : List OpH} {a k : Nat} (ha : a < gC g) (h : gK g a = k) : gK (dnH g p) a = k := by rw [kH_ok, kH_old _ _ ha]; exact h
set_option maxRecDepth 100000 in
theorem c_tabs (hC : gC g = c) (hx : x < c) (hK : gK g x = 108) : f_X8_init x g = some (dnH g (o8 x c)) := by
  rw [F_f_X8_init, if_neg (by rw [hK]; decide)]
  have hx' : x < gC g := by omega
  refine stA (g := g) (p := []) (c := c) nz12 (dC hC rfl) (dKo hx' hK) (by omega) ?_
  refine stA (g := g) (c := c + 1) nz4 (dC hC rfl) (dKo hx' hK) (by omega) ?_
  refine stA (g := g) (c := c + 2) nz3 (dC hC rfl) (dKo hx' hK) (by omega) ?_
  rfl
def o7 (x c : Nat) : List OpH := [(0, 2, 60, 0), (1, x, 0, c), (2, x, 2, 0)]
set_option maxRecDepth 100000 in
theorem c_shf (hC : gC g = c) (hx : x < c) (hK : gK g x = 107) : f_X7_init x g = some (dnH g (o7 x c)) := by
  rw [F_f_X7_init, if_neg (by rw [hK]; decide)]
  have hx' : x < gC g := by omega
  refine stA (g := g) (p := []) (c := c) nz60 (dC hC rfl) (dKo hx' hK) (by omega) ?_
  rw [if_pos (dKo hx' hK), nm_eq]
  rfl
end Sm
