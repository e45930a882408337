/-! THE TABLES of a box in their order, as lists of rows -/
abbrev TR : Type := Int × Int × Int
def rg : Int → Nat → List Int
  | _, 0 => []
  | lo, n + 1 => lo :: rg (lo + 1) n
def rgR (lo hi : Int) : List Int := rg lo (hi + 1 - lo).toNat
def Tb : List Int → Int → Int → Int → List (List TR)
  | [], a, b, c => if a = 0 ∧ b = 0 ∧ c = 0 then [[]] else []
  | r :: rs, a, b, c => (rgR 0 r).flatMap fun p => (rgR 0 (r - p)).flatMap fun q => (Tb rs (a - p) (b - q) (c - (r - p - q))).map (fun t => (p, q, r - p - q) :: t)
theorem Tb_nil (a b c : Int) : Tb [] a b c = if a = 0 ∧ b = 0 ∧ c = 0 then [[]] else [] := rfl
theorem Tb_cons (r : Int) (rs : List Int) (a b c : Int) : Tb (r :: rs) a b c = (rgR 0 r).flatMap fun p => (rgR 0 (r - p)).flatMap fun q => (Tb rs (a - p) (b - q) (c - (r - p - q))).map (fun t => (p, q, r - p - q) :: t) := rfl
section G
variable {α : Type}
theorem rg_len (f : Int → List α) : ∀ (n : Nat) (lo : Int), ((((rg lo n).flatMap f).length : Nat) : Int) = sF (fun i => ((f i).length : Int)) lo n := by
  intro n
  induction n with
  | zero => intro lo; rfl
  | succ n ih =>
    intro lo
    show ((((lo :: rg (lo + 1) n).flatMap f).length : Nat) : Int) = _
    rw [List.flatMap_cons, List.length_append, Int.natCast_add, ih, sF_succ]
theorem rg_cnt (f : Int → List α) (P : α → Bool) : ∀ (n : Nat) (lo : Int), ((((rg lo n).flatMap f).countP P : Nat) : Int) = sF (fun i => ((f i).countP P : Int)) lo n := by
  intro n
  induction n with
  | zero => intro lo; rfl
  | succ n ih =>
    intro lo
    show ((((lo :: rg (lo + 1) n).flatMap f).countP P : Nat) : Int) = _
    rw [List.flatMap_cons, List.countP_append, Int.natCast_add, ih, sF_succ]
theorem rg_mem : ∀ (n : Nat) (lo i : Int), i ∈ rg lo n → lo ≤ i ∧ i < lo + n := by
  intro n
  induction n with
  | zero => intro lo i h; cases h
  | succ n ih =>
    intro lo i h
    rcases List.mem_cons.mp h with e | e
    · omega
    · have := ih (lo + 1) i e; omega
theorem rg_split : ∀ (n m : Nat) (lo : Int), rg lo (n + m) = rg lo n ++ rg (lo + n) m := by
  intro n
  induction n with
  | zero => intro m lo; rw [Nat.zero_add]; simp [rg]
  | succ n ih =>
    intro m lo
    rw [show n + 1 + m = (n + m) + 1 by omega]
    show lo :: rg (lo + 1) (n + m) = lo :: (rg (lo + 1) n ++ _)
    rw [ih, show lo + 1 + (n : Int) = lo + ((n + 1 : Nat) : Int) by omega]
theorem rg_empty (f : Int → List α) : ∀ (n : Nat) (lo : Int), (∀ i : Int, lo ≤ i → i < lo + n → f i = []) → (rg lo n).flatMap f = [] := by
  intro n
  induction n with
  | zero => intro lo _; rfl
  | succ n ih =>
    intro lo h
    show (lo :: rg (lo + 1) n).flatMap f = []
    rw [List.flatMap_cons, h lo (by omega) (by omega), ih (lo + 1) (fun i q1 q2 => h i (by omega) (by omega))]
    rfl
theorem rgR_narrow (f : Int → List α) {lo hi lo' hi' : Int} (h1 : lo ≤ lo') (h2 : hi' ≤ hi) (h : ∀ i : Int, lo ≤ i → i ≤ hi → ¬ (lo' ≤ i ∧ i ≤ hi') → f i = []) : (rgR lo hi).flatMap f = (rgR lo' hi').flatMap f := by
  unfold rgR
  by_cases e : hi' < lo'
  · rw [show (hi' + 1 - lo').toNat = 0 by omega]
    exact rg_empty f _ _ (fun i q1 q2 => h i q1 (by omega) (by omega))
  · rw [show (hi + 1 - lo).toNat = (lo' - lo).toNat + ((hi' + 1 - lo').toNat + (hi - hi').toNat) by omega, rg_split, rg_split, List.flatMap_append, List.flatMap_append, rg_empty f (lo' - lo).toNat lo (fun i q1 q2 => h i q1 (by omega) (by omega)), show lo + ((lo' - lo).toNat : Int) = lo' by omega, rg_empty f (hi - hi').toNat _ (fun i q1 q2 => h i (by omega) (by omega) (by omega))]
    simp
/-- the place of a part in what is strung together -/
theorem rg_get (f : Int → List α) : ∀ (n : Nat) (lo v : Int) (k : Nat), lo ≤ v → v < lo + n → k < (f v).length → ((rg lo n).flatMap f)[(sF (fun i => ((f i).length : Int)) lo (v - lo).toNat).toNat + k]? = (f v)[k]? := by
  intro n
  induction n with
  | zero => intro lo v k h1 h2 _; omega
  | succ n ih =>
    intro lo v k h1 h2 hk
    show ((lo :: rg (lo + 1) n).flatMap f)[_]? = _
    rw [List.flatMap_cons]
    by_cases e : v = lo
    · subst e
      rw [show (v - v).toNat = 0 by omega, sF_zero]
      rw [List.getElem?_append_left (by simpa using hk)]
      simp
    · rw [show (v - lo).toNat = (v - (lo + 1)).toNat + 1 by omega, sF_succ]
      have hn : 0 ≤ sF (fun i => ((f i).length : Int)) (lo + 1) (v - (lo + 1)).toNat := by
        have := sF_ge (fun i => ((f i).length : Int)) 0 (v - (lo + 1)).toNat (lo + 1) (fun i _ _ => Int.natCast_nonneg _)
        omega
      rw [List.getElem?_append_right (by omega), ← ih (lo + 1) v k (by omega) (by omega) hk]
      congr 1
      omega
/-- what comes behind what -/
def Cs (f : α → Option α) : List α → Option α → Prop
  | [], _ => True
  | y :: l, e => f y = (l.head?.or e) ∧ Cs f l e
theorem Cs_append (f : α → Option α) (e : Option α) (l2 : List α) (h2 : Cs f l2 e) : ∀ l1 : List α, Cs f l1 (l2.head?.or e) → Cs f (l1 ++ l2) e := by
  intro l1
  induction l1 with
  | nil => intro _; exact h2
  | cons y l1 ih =>
    intro h
    obtain ⟨q1, q2⟩ := h
    refine ⟨?_, ih q2⟩
    show f y = ((l1 ++ l2).head?.or e)
    rw [q1, List.head?_append, Option.or_assoc]
theorem rg_head (B : Int → List α) (hd : Int → α) (n : Nat) (lo : Int) (h : (B lo).head? = some (hd lo)) : ((rg lo (n + 1)).flatMap B).head? = some (hd lo) := by
  show ((lo :: rg (lo + 1) n).flatMap B).head? = _
  rw [List.flatMap_cons, List.head?_append, h]
  rfl
theorem Cs_rg (F : α → Option α) (B : Int → List α) (hd : Int → α) (e : Option α) : ∀ (n : Nat) (lo : Int), (∀ i : Int, lo ≤ i → i < lo + n → (B i).head? = some (hd i)) → (∀ i : Int, lo ≤ i → i < lo + n → Cs F (B i) (if i + 1 < lo + n then some (hd (i + 1)) else e)) → Cs F ((rg lo n).flatMap B) e := by
  intro n
  induction n with
  | zero => intro lo _ _; exact trivial
  | succ n ih =>
    intro lo h1 h2
    show Cs F ((lo :: rg (lo + 1) n).flatMap B) e
    rw [List.flatMap_cons]
    refine Cs_append F e _ (ih (lo + 1) (fun i q1 q2 => h1 i (by omega) (by omega)) (fun i q1 q2 => ?_)) _ ?_
    · have := h2 i (by omega) (by omega)
      rwa [show lo + 1 + (n : Int) = lo + ((n + 1 : Nat) : Int) by omega]
    · have := h2 lo (by omega) (by omega)
      match n, h1 with
      | 0, _ => rw [if_neg (by omega)] at this; exact this
      | n + 1, h1 =>
        rw [rg_head B hd n (lo + 1) (h1 (lo + 1) (by omega) (by omega))]
        rw [if_pos (by omega)] at this
        exact this
theorem Cs_map {β : Type} (F : β → Option β) (g : α → Option α) (k : α → β) (E : Option β) (h : ∀ t : α, F (k t) = match g t with | some t' => some (k t') | none => E) : ∀ l : List α, Cs g l none → Cs F (l.map k) E := by
  intro l
  induction l with
  | nil => intro _; exact trivial
  | cons y l ih =>
    intro q
    obtain ⟨q1, q2⟩ := q
    refine ⟨?_, ih q2⟩
    rw [h y, q1]
    cases l with
    | nil => rfl
    | cons z l => rfl
end G
theorem Tb_len : ∀ (rs : List Int) (a b c : Int), ((Tb rs a b c).length : Int) = cn rs a b c := by
  intro rs
  induction rs with
  | nil => intro a b c; rw [Tb_nil, cn_nil]; split <;> rfl
  | cons r rs ih =>
    intro a b c
    rw [Tb_cons, cn_cons]
    unfold rgR
    rw [rg_len]
    refine sF_congr _ _ (fun p _ _ => ?_)
    show ((((rg 0 (r - p + 1 - 0).toNat).flatMap _).length : Nat) : Int) = _
    rw [rg_len]
    refine sF_congr _ _ (fun q _ _ => ?_)
    show (((Tb rs (a - p) (b - q) (c - (r - p - q))).map _).length : Int) = _
    rw [List.length_map, ih]
theorem Tb_neg (rs : List Int) {a b c : Int} (h : a < 0 ∨ b < 0 ∨ c < 0) : Tb rs a b c = [] := by
  have := Tb_len rs a b c
  rw [cn_neg rs a b c h] at this
  exact List.length_eq_zero_iff.mp (by omega)
theorem Tb_narrow (r : Int) (rs : List Int) (a b c : Int) : Tb (r :: rs) a b c = (rgR (max 0 (r - b - c)) (min r a)).flatMap fun p => (rgR (max 0 (r - p - c)) (min (r - p) b)).flatMap fun q => (Tb rs (a - p) (b - q) (c - (r - p - q))).map (fun t => (p, q, r - p - q) :: t) := by
  have hN : ∀ p q : Int, (a < p ∨ b < q ∨ c < r - p - q) → (Tb rs (a - p) (b - q) (c - (r - p - q))).map (fun t => ((p, q, r - p - q) : TR) :: t) = [] := fun p q h => by
    rw [Tb_neg rs (by omega)]; rfl
  rw [Tb_cons]
  refine (rgR_narrow (lo' := max 0 (r - b - c)) (hi' := min r a) (fun p => (rgR 0 (r - p)).flatMap fun q => (Tb rs (a - p) (b - q) (c - (r - p - q))).map (fun t => ((p, q, r - p - q) : TR) :: t)) (by omega) (by omega) (fun p p0 p1 p2 => rg_empty _ _ _ (fun q q0 q1 => hN p q (by omega)))).trans ?_
  congr 1
  funext p
  exact rgR_narrow _ (by omega) (by omega) (fun q q0 q1 q2 => hN p q (by omega))
def fst1 : List Int → Int → Int → Int → List TR
  | [], _, _, _ => []
  | r :: rs, a, b, c => (max 0 (r - b - c), max 0 (r - max 0 (r - b - c) - c), r - max 0 (r - b - c) - max 0 (r - max 0 (r - b - c) - c)) :: fst1 rs (a - max 0 (r - b - c)) (b - max 0 (r - max 0 (r - b - c) - c)) (c - (r - max 0 (r - b - c) - max 0 (r - max 0 (r - b - c) - c)))
/-- the row of a group, and the lowest behind it -/
def ahd (r : Int) (rs : List Int) (a b c p q : Int) : List TR := (p, q, r - p - q) :: fst1 rs (a - p) (b - q) (c - (r - p - q))
theorem fst1_cons (r : Int) (rs : List Int) (a b c : Int) : fst1 (r :: rs) a b c = ahd r rs a b c (max 0 (r - b - c)) (max 0 (r - max 0 (r - b - c) - c)) := rfl
def nxt1 : List Int → Int → Int → Int → List TR → Option (List TR)
  | [], _, _, _, _ => none
  | _ :: _, _, _, _, [] => none
  | r :: rs, a, b, c, (p, q, _) :: t => match nxt1 rs (a - p) (b - q) (c - (r - p - q)) t with
    | some t' => some ((p, q, r - p - q) :: t')
    | none => if q + 1 ≤ min (r - p) b then some (ahd r rs a b c p (q + 1)) else if p + 1 ≤ min r a then some (ahd r rs a b c (p + 1) (max 0 (r - (p + 1) - c))) else none
theorem nxt1_cons (r : Int) (rs : List Int) (a b c p q s : Int) (t : List TR) : nxt1 (r :: rs) a b c ((p, q, s) :: t) = match nxt1 rs (a - p) (b - q) (c - (r - p - q)) t with
    | some t' => some ((p, q, r - p - q) :: t')
    | none => if q + 1 ≤ min (r - p) b then some (ahd r rs a b c p (q + 1)) else if p + 1 ≤ min r a then some (ahd r rs a b c (p + 1) (max 0 (r - (p + 1) - c))) else none := rfl
def sumL : List Int → Int
  | [] => 0
  | r :: rs => r + sumL rs
def allN : List Int → Prop
  | [] => True
  | r :: rs => 0 ≤ r ∧ allN rs
theorem sumL_nn : ∀ rs : List Int, allN rs → 0 ≤ sumL rs := by
  intro rs
  induction rs with
  | nil => intro _; exact Int.le_refl _
  | cons r rs ih => intro h; have := ih h.2; have := h.1; show 0 ≤ r + sumL rs; omega
theorem Tb_chain : ∀ (rs : List Int) (a b c : Int), allN rs → 0 ≤ a → 0 ≤ b → 0 ≤ c → a + b + c = sumL rs → Cs (nxt1 rs a b c) (Tb rs a b c) none ∧ (Tb rs a b c).head? = some (fst1 rs a b c) := by
  intro rs
  induction rs with
  | nil =>
    intro a b c _ a0 b0 c0 hs
    have hs : a + b + c = 0 := hs
    rw [Tb_nil, if_pos (by omega)]
    exact ⟨⟨rfl, trivial⟩, rfl⟩
  | cons r rs ih =>
    intro a b c hn a0 b0 c0 hs
    have hs : a + b + c = r + sumL rs := hs
    have r0 : 0 ≤ r := hn.1
    have s0 := sumL_nn rs hn.2
    rw [Tb_narrow]
    have hI := fun (p q : Int) (hp : max 0 (r - b - c) ≤ p ∧ p ≤ min r a) (hq : max 0 (r - p - c) ≤ q ∧ q ≤ min (r - p) b) => ih (a - p) (b - q) (c - (r - p - q)) hn.2 (by omega) (by omega) (by omega) (by omega)
    have hB : ∀ p q : Int, max 0 (r - b - c) ≤ p ∧ p ≤ min r a → max 0 (r - p - c) ≤ q ∧ q ≤ min (r - p) b → ((Tb rs (a - p) (b - q) (c - (r - p - q))).map (fun t => ((p, q, r - p - q) : TR) :: t)).head? = some (ahd r rs a b c p q) := fun p q hp hq => by
      rw [List.head?_map, (hI p q hp hq).2]
      rfl
    have hC : ∀ p : Int, max 0 (r - b - c) ≤ p ∧ p ≤ min r a → Cs (nxt1 (r :: rs) a b c) ((rgR (max 0 (r - p - c)) (min (r - p) b)).flatMap fun q => (Tb rs (a - p) (b - q) (c - (r - p - q))).map (fun t => ((p, q, r - p - q) : TR) :: t)) (if p + 1 ≤ min r a then some (ahd r rs a b c (p + 1) (max 0 (r - (p + 1) - c))) else none) := fun p hp => by
      refine Cs_rg _ _ (fun q => ahd r rs a b c p q) _ _ _ (fun q q0 q1 => hB p q hp (by omega)) (fun q q0 q1 => ?_)
      refine Cs_map _ (nxt1 rs (a - p) (b - q) (c - (r - p - q))) _ _ (fun t => ?_) _ (hI p q hp (by omega)).1
      rw [nxt1_cons]
      cases nxt1 rs (a - p) (b - q) (c - (r - p - q)) t with
      | some t' => rfl
      | none =>
        show (if q + 1 ≤ min (r - p) b then _ else _) = (if q + 1 < max 0 (r - p - c) + ((min (r - p) b + 1 - max 0 (r - p - c)).toNat : Int) then _ else _)
        by_cases z : q + 1 ≤ min (r - p) b
        · rw [if_pos z, if_pos (by omega)]
        · rw [if_neg z, if_neg (show ¬ q + 1 < max 0 (r - p - c) + ((min (r - p) b + 1 - max 0 (r - p - c)).toNat : Int) by omega)]
    have hH : ∀ p : Int, max 0 (r - b - c) ≤ p ∧ p ≤ min r a → ((rgR (max 0 (r - p - c)) (min (r - p) b)).flatMap fun q => (Tb rs (a - p) (b - q) (c - (r - p - q))).map (fun t => ((p, q, r - p - q) : TR) :: t)).head? = some (ahd r rs a b c p (max 0 (r - p - c))) := fun p hp => by
      unfold rgR
      rw [show (min (r - p) b + 1 - max 0 (r - p - c)).toNat = (min (r - p) b - max 0 (r - p - c)).toNat + 1 by omega]
      exact rg_head _ (fun q => ahd r rs a b c p q) _ _ (hB p _ hp (by omega))
    refine ⟨Cs_rg _ _ (fun p => ahd r rs a b c p (max 0 (r - p - c))) _ _ _ (fun p p0 p1 => hH p (by omega)) (fun p p0 p1 => ?_), ?_⟩
    · have := hC p (by omega)
      by_cases z : p + 1 ≤ min r a
      · rw [if_pos z] at this; rw [if_pos (by omega)]; exact this
      · rw [if_neg z] at this; rw [if_neg (by omega)]; exact this
    · unfold rgR
      rw [show (min r a + 1 - max 0 (r - b - c)).toNat = (min r a - max 0 (r - b - c)).toNat + 1 by omega, fst1_cons]
      exact rg_head _ (fun p => ahd r rs a b c p (max 0 (r - p - c))) _ _ (hH _ (by omega))
/-- a table's rows keep the sums -/
def TOk : List Int → Int → Int → Int → List TR → Prop
  | [], a, b, c, t => t = [] ∧ a = 0 ∧ b = 0 ∧ c = 0
  | _ :: _, _, _, _, [] => False
  | r :: rs, a, b, c, (p, q, s) :: t => 0 ≤ p ∧ 0 ≤ q ∧ 0 ≤ s ∧ p + q + s = r ∧ TOk rs (a - p) (b - q) (c - s) t
theorem Tb_ok : ∀ (rs : List Int) (a b c : Int) (t : List TR), t ∈ Tb rs a b c → TOk rs a b c t := by
  intro rs
  induction rs with
  | nil =>
    intro a b c t h
    rw [Tb_nil] at h
    by_cases e : a = 0 ∧ b = 0 ∧ c = 0
    · rw [if_pos e] at h
      exact ⟨List.mem_singleton.mp h, e⟩
    · rw [if_neg e] at h; cases h
  | cons r rs ih =>
    intro a b c t h
    rw [Tb_cons] at h
    obtain ⟨p, hp, h⟩ := List.mem_flatMap.mp h
    obtain ⟨q, hq, h⟩ := List.mem_flatMap.mp h
    obtain ⟨t', ht, rfl⟩ := List.mem_map.mp h
    have := rg_mem _ _ _ hp
    have := rg_mem _ _ _ hq
    exact ⟨by omega, by omega, by omega, by omega, ih _ _ _ _ ht⟩
/-- cells; sums with so many less in a group -/
def tcl (t : List TR) (g : Nat) (k : Int) : Int := match t[g]? with
  | some (p, q, s) => if k = 0 then p else if k = 1 then q else s
  | none => 0
def red : List Int → Nat → Int → List Int
  | [], _, _ => []
  | r :: rs, 0, v => (r - v) :: rs
  | r :: rs, g + 1, v => r :: red rs g v
theorem cnt_map {α β : Type} (P : β → Bool) (k : α → β) (l : List α) : (l.map k).countP P = l.countP (fun t => P (k t)) := by
  rw [List.countP_map]; rfl
theorem cnt_const {α : Type} (P : Prop) [Decidable P] (l : List α) : ((l.countP (fun _ => decide P) : Nat) : Int) = if P then (l.length : Int) else 0 := by
  by_cases h : P
  · simp [h]
  · simp [h]
theorem Tb_cnt : ∀ (rs : List Int) (g : Nat) (k v a b c : Int), g < rs.length → 0 ≤ v → 0 ≤ k → k ≤ 2 → (((Tb rs a b c).countP (fun t => decide (v ≤ tcl t g k)) : Nat) : Int) = cn (red rs g v) (a - if k = 0 then v else 0) (b - if k = 1 then v else 0) (c - if k = 2 then v else 0) := by
  intro rs
  induction rs with
  | nil => intro g k v a b c hg; exact absurd hg (Nat.not_lt_zero _)
  | cons r rs ih =>
    intro g k v a b c hg v0 k0 k2
    rw [Tb_cons]
    unfold rgR
    rw [rg_cnt]
    have e1 : sF (fun p => ((((rg 0 (r - p + 1 - 0).toNat).flatMap fun q => (Tb rs (a - p) (b - q) (c - (r - p - q))).map (fun t => ((p, q, r - p - q) : TR) :: t)).countP (fun t => decide (v ≤ tcl t g k)) : Nat) : Int)) 0 (r + 1 - 0).toNat = Sr (fun p => Sr (fun q => (((Tb rs (a - p) (b - q) (c - (r - p - q))).countP (fun t => decide (v ≤ tcl (((p, q, r - p - q) : TR) :: t) g k)) : Nat) : Int)) 0 (r - p)) 0 r := by
      refine sF_congr _ _ (fun p _ _ => ?_)
      show ((((rg 0 (r - p + 1 - 0).toNat).flatMap _).countP _ : Nat) : Int) = _
      rw [rg_cnt]
      refine sF_congr _ _ (fun q _ _ => ?_)
      show ((((Tb rs (a - p) (b - q) (c - (r - p - q))).map _).countP _ : Nat) : Int) = _
      rw [cnt_map]
    refine e1.trans ?_
    cases g with
    | succ g =>
      show _ = cn (r :: red rs g v) _ _ _
      rw [cn_cons]
      refine Sr_congr (fun p _ _ => Sr_congr (fun q _ _ => ?_))
      have := ih g k v (a - p) (b - q) (c - (r - p - q)) (by simpa using hg) v0 k0 k2
      show (((Tb rs (a - p) (b - q) (c - (r - p - q))).countP (fun t => decide (v ≤ tcl t g k)) : Nat) : Int) = _
      rw [this]
      congr 1 <;> omega
    | zero =>
      show _ = cn ((r - v) :: rs) _ _ _
      have hw : ∀ p q : Int, (((Tb rs (a - p) (b - q) (c - (r - p - q))).countP (fun t => decide (v ≤ tcl (((p, q, r - p - q) : TR) :: t) 0 k)) : Nat) : Int) = if v ≤ (if k = 0 then p else if k = 1 then q else r - p - q) then cn rs (a - p) (b - q) (c - (r - p - q)) else 0 := fun p q => by
        show (((Tb rs (a - p) (b - q) (c - (r - p - q))).countP (fun _ => decide (v ≤ if k = 0 then p else if k = 1 then q else r - p - q)) : Nat) : Int) = _
        rw [cnt_const, Tb_len]
      rw [Sr_congr (fun p _ _ => Sr_congr (fun q _ _ => hw p q)), cn_cons]
      rcases (show k = 0 ∨ k = 1 ∨ k = 2 by omega) with rfl | rfl | rfl
      · have t := Sr_shift (fun p => Sr (fun q => cn rs (a - p) (b - q) (c - (r - p - q))) 0 (r - p)) v 0 (r - v)
        rw [show (0 : Int) + v = v by omega, show r - v + v = r by omega] at t
        refine Eq.trans ?_ (t.symm.trans ?_)
        · exact Sr_wide (by omega) (by omega) (fun p p0 p1 => Sr_congr (fun q _ _ => if_pos p0)) (fun p p0 p1 p2 => Sr_z (fun q _ _ => if_neg (show ¬ v ≤ p by omega)))
        · refine Sr_congr (fun p _ _ => ?_)
          show Sr _ 0 (r - (p + v)) = _
          rw [show r - (p + v) = r - v - p by omega]
          refine Sr_congr (fun q _ _ => ?_)
          show cn rs _ _ _ = cn rs _ _ _
          rw [if_pos rfl, if_neg (by omega), if_neg (by omega)]
          congr 1 <;> omega
      · refine Sr_wide (by omega) (by omega) (fun p p0 p1 => ?_) (fun p p0 p1 p2 => Sr_z (fun q _ _ => if_neg (show ¬ v ≤ q by omega)))
        have t := Sr_shift (fun q => cn rs (a - p) (b - q) (c - (r - p - q))) v 0 (r - v - p)
        rw [show (0 : Int) + v = v by omega, show r - v - p + v = r - p by omega] at t
        refine Eq.trans ?_ (t.symm.trans ?_)
        · exact Sr_wide (by omega) (by omega) (fun q q0 q1 => if_pos q0) (fun q q0 q1 q2 => if_neg (show ¬ v ≤ q by omega))
        · refine Sr_congr (fun q _ _ => ?_)
          show cn rs _ _ _ = cn rs _ _ _
          rw [if_neg (by omega), if_pos rfl, if_neg (by omega)]
          congr 1 <;> omega
      · refine Sr_wide (by omega) (by omega) (fun p p0 p1 => ?_) (fun p p0 p1 p2 => Sr_z (fun q _ _ => if_neg (show ¬ v ≤ r - p - q by omega)))
        refine Sr_wide (by omega) (by omega) (fun q q0 q1 => ?_) (fun q q0 q1 q2 => if_neg (show ¬ v ≤ r - p - q by omega))
        rw [show (if v ≤ (if (2 : Int) = 0 then p else if (2 : Int) = 1 then q else r - p - q) then cn rs (a - p) (b - q) (c - (r - p - q)) else 0) = cn rs (a - p) (b - q) (c - (r - p - q)) from if_pos (show v ≤ r - p - q by omega), if_neg (by omega), if_neg (by omega), if_pos rfl]
        congr 1 <;> omega
