/-! rows of tables, a table for each box -/
abbrev RoT : Type := Int → List TR
def rwUp (r : RoT) (b : Int) (T : List TR) : RoT := fun c => if c = b then T else r c
def rwCut (r : RoT) (n : Nat) : RoT := fun c => if 0 ≤ c ∧ c < n then r c else []
def rwPrd (tb : Int → List (List TR)) : Nat → List RoT
  | 0 => [fun _ => []]
  | n + 1 => (rwPrd tb n).flatMap fun r => (tb n).map (rwUp r n)
def rwRem (tb : Int → List (List TR)) (cur : RoT) (rst : Int → List (List TR)) : Nat → List RoT
  | 0 => []
  | n + 1 => (rst n).map (rwUp (rwCut cur n) n) ++ (rwRem tb cur rst n).flatMap fun r => (tb n).map (rwUp r n)
theorem rwUp_same (r : RoT) (b : Int) (T : List TR) : rwUp r b T b = T := if_pos rfl
theorem rwUp_ne (r : RoT) {b c : Int} (T : List TR) (h : c ≠ b) : rwUp r b T c = r c := if_neg h
theorem rwCut_at (r : RoT) {n : Nat} {c : Int} (c0 : 0 ≤ c) (c1 : c < n) : rwCut r n c = r c := if_pos ⟨c0, c1⟩
theorem rwCut_out (r : RoT) {n : Nat} {c : Int} (h : c < 0 ∨ n ≤ c) : rwCut r n c = [] := if_neg (by omega)
theorem rwCut_succ (r : RoT) (n : Nat) : rwUp (rwCut r n) n (r n) = rwCut r (n + 1) := by
  funext c
  by_cases e : c = n
  · subst e; rw [rwUp_same, rwCut_at _ (by omega) (by omega)]
  · rw [rwUp_ne _ _ e]
    by_cases z : 0 ≤ c ∧ c < n
    · rw [rwCut_at _ z.1 z.2, rwCut_at _ z.1 (by omega)]
    · rw [rwCut_out _ (by omega), rwCut_out _ (by omega)]
theorem rwCut_congr {r r' : RoT} {n : Nat} (h : ∀ c : Int, 0 ≤ c → c < n → r' c = r c) : rwCut r' n = rwCut r n := by
  funext c
  by_cases z : 0 ≤ c ∧ c < n
  · rw [rwCut_at _ z.1 z.2, rwCut_at _ z.1 z.2, h c z.1 z.2]
  · rw [rwCut_out _ (by omega), rwCut_out _ (by omega)]
theorem rwRem_congr {tb : Int → List (List TR)} {r r' : RoT} {s s' : Int → List (List TR)} : ∀ n : Nat, (∀ c : Int, 0 ≤ c → c < n → r' c = r c ∧ s' c = s c) → rwRem tb r' s' n = rwRem tb r s n := by
  intro n
  induction n with
  | zero => exact fun _ => rfl
  | succ n ih =>
    intro h
    show _ ++ _ = _ ++ _
    rw [ih (fun c c0 c1 => h c c0 (by omega)), rwCut_congr (fun c c0 c1 => (h c c0 (by omega)).1), (h n (by omega) (by omega)).2]
theorem rw_start {tb : Int → List (List TR)} {r : RoT} {s : Int → List (List TR)} : ∀ n : Nat, (∀ c : Int, 0 ≤ c → c < n → tb c = r c :: s c) → rwPrd tb n = rwCut r n :: rwRem tb r s n := by
  intro n
  induction n with
  | zero =>
    intro _
    show [fun _ => []] = [rwCut r 0]
    congr 1
    funext c
    rw [rwCut_out _ (by omega)]
  | succ n ih =>
    intro h
    show (rwPrd tb n).flatMap _ = _
    rw [ih (fun c c0 c1 => h c c0 (by omega)), List.flatMap_cons, ← rwCut_succ]
    have : (tb n).map (rwUp (rwCut r n) n) = rwUp (rwCut r n) n (r n) :: (s n).map (rwUp (rwCut r n) n) := by
      rw [h n (by omega) (by omega), List.map_cons]
    rw [this]
    rfl
theorem rw_mem {tb : Int → List (List TR)} : ∀ (n : Nat) (r : RoT), r ∈ rwPrd tb n ↔ (∀ c : Int, 0 ≤ c → c < n → r c ∈ tb c) ∧ ∀ c : Int, (c < 0 ∨ n ≤ c) → r c = [] := by
  intro n
  induction n with
  | zero =>
    intro r
    show r ∈ [fun _ => []] ↔ _
    rw [List.mem_singleton]
    constructor
    · rintro rfl
      exact ⟨fun c c0 c1 => by omega, fun _ _ => rfl⟩
    · rintro ⟨-, h⟩
      funext c
      exact h c (by omega)
  | succ n ih =>
    intro r
    show r ∈ (rwPrd tb n).flatMap _ ↔ _
    rw [List.mem_flatMap]
    constructor
    · rintro ⟨q, hq, hr⟩
      obtain ⟨T, hT, rfl⟩ := List.mem_map.mp hr
      obtain ⟨h1, h2⟩ := (ih q).1 hq
      refine ⟨fun c c0 c1 => ?_, fun c hc => ?_⟩
      · by_cases e : c = n
        · subst e; rw [rwUp_same]; exact hT
        · rw [rwUp_ne _ _ e]; exact h1 c c0 (by omega)
      · rw [rwUp_ne _ _ (by omega)]; exact h2 c (by omega)
    · rintro ⟨h1, h2⟩
      refine ⟨rwCut r n, (ih _).2 ⟨fun c c0 c1 => by rw [rwCut_at _ c0 c1]; exact h1 c c0 (by omega), fun c hc => rwCut_out _ hc⟩, List.mem_map.mpr ⟨r n, h1 n (by omega) (by omega), ?_⟩⟩
      rw [rwCut_succ]
      funext c
      by_cases z : 0 ≤ c ∧ c < ((n + 1 : Nat) : Int)
      · rw [rwCut_at _ z.1 z.2]
      · rw [rwCut_out _ (by omega), h2 c (by omega)]
theorem len_flat {α β : Type} (f : α → List β) (k : Nat) : ∀ l : List α, (∀ x ∈ l, (f x).length = k) → (l.flatMap f).length = l.length * k := by
  intro l
  induction l with
  | nil => intro _; simp
  | cons x l ih =>
    intro h
    rw [List.flatMap_cons, List.length_append, h x (by simp), ih (fun y hy => h y (by simp [hy])), List.length_cons, Nat.add_mul, Nat.one_mul, Nat.add_comm]
/-- the least and the most over the rows seen that are kept -/
noncomputable def acF (lo hi : RoT → Int) (K : RoT → Prop) (o : Option (Int × Int)) (r : RoT) : Option (Int × Int) := @ite _ (K r) (Classical.propDecidable _) (match o with | none => some (lo r, hi r) | some q => some (min (lo r) q.1, max (hi r) q.2)) o
theorem acF_y {lo hi : RoT → Int} {K : RoT → Prop} {o : Option (Int × Int)} {r : RoT} (y : K r) : acF lo hi K o r = (match o with | none => some (lo r, hi r) | some q => some (min (lo r) q.1, max (hi r) q.2)) := if_pos y
theorem acF_n {lo hi : RoT → Int} {K : RoT → Prop} {o : Option (Int × Int)} {r : RoT} (y : ¬ K r) : acF lo hi K o r = o := if_neg y
def RsOK (lo hi : RoT → Int) (P : RoT → Prop) : Option (Int × Int) → Prop
  | none => ∀ r, ¬ P r
  | some q => (∃ r, P r ∧ lo r = q.1) ∧ (∀ r, P r → q.1 ≤ lo r) ∧ (∃ r, P r ∧ hi r = q.2) ∧ ∀ r, P r → hi r ≤ q.2
theorem RsOK.uniq {lo hi : RoT → Int} {P : RoT → Prop} {o o' : Option (Int × Int)} (h : RsOK lo hi P o) (h' : RsOK lo hi P o') : o = o' := by
  cases o with
  | none =>
    cases o' with
    | none => rfl
    | some q => obtain ⟨⟨r, hr, -⟩, -⟩ := h'; exact absurd hr (h r)
  | some p =>
    cases o' with
    | none => obtain ⟨⟨r, hr, -⟩, -⟩ := h; exact absurd hr (h' r)
    | some q =>
      obtain ⟨⟨r1, a1, a2⟩, a3, ⟨r2, a4, a5⟩, a6⟩ := h
      obtain ⟨⟨s1, b1, b2⟩, b3, ⟨s2, b4, b5⟩, b6⟩ := h'
      have q1 := b3 r1 a1
      have q2 := a3 s1 b1
      have q3 := b6 r2 a4
      have q4 := a6 s2 b4
      congr 1
      exact Prod.ext (by omega) (by omega)
theorem RsOK.congr {lo hi : RoT → Int} {P Q : RoT → Prop} {o : Option (Int × Int)} (h : RsOK lo hi P o) (e : ∀ r, P r ↔ Q r) : RsOK lo hi Q o := by
  have : P = Q := funext fun r => propext (e r)
  rwa [← this]
theorem RsOK.step {lo hi : RoT → Int} {K P : RoT → Prop} {o : Option (Int × Int)} (h : RsOK lo hi P o) (r : RoT) : RsOK lo hi (fun s => P s ∨ (s = r ∧ K s)) (acF lo hi K o r) := by
  by_cases y : K r
  · rw [acF_y y]
    cases o with
    | none =>
      refine ⟨⟨r, Or.inr ⟨rfl, y⟩, rfl⟩, fun s hs => ?_, ⟨r, Or.inr ⟨rfl, y⟩, rfl⟩, fun s hs => ?_⟩
      · rcases hs with hs | ⟨rfl, -⟩
        · exact absurd hs (h s)
        · exact Int.le_refl _
      · rcases hs with hs | ⟨rfl, -⟩
        · exact absurd hs (h s)
        · exact Int.le_refl _
    | some q =>
      obtain ⟨⟨r1, a1, a2⟩, a3, ⟨r2, a4, a5⟩, a6⟩ := h
      refine ⟨?_, fun s hs => ?_, ?_, fun s hs => ?_⟩
      · by_cases z : lo r ≤ q.1
        · exact ⟨r, Or.inr ⟨rfl, y⟩, by show _ = min (lo r) q.1; omega⟩
        · exact ⟨r1, Or.inl a1, by show _ = min (lo r) q.1; omega⟩
      · show min (lo r) q.1 ≤ _
        rcases hs with hs | ⟨rfl, -⟩
        · have := a3 s hs; omega
        · omega
      · by_cases z : q.2 ≤ hi r
        · exact ⟨r, Or.inr ⟨rfl, y⟩, by show _ = max (hi r) q.2; omega⟩
        · exact ⟨r2, Or.inl a4, by show _ = max (hi r) q.2; omega⟩
      · show _ ≤ max (hi r) q.2
        rcases hs with hs | ⟨rfl, -⟩
        · have := a6 s hs; omega
        · omega
  · rw [acF_n y]
    refine h.congr fun s => ⟨Or.inl, ?_⟩
    rintro (hs | ⟨rfl, hs⟩)
    · exact hs
    · exact absurd hs y
theorem RsOK.fold {lo hi : RoT → Int} {K : RoT → Prop} : ∀ (l : List RoT) {P : RoT → Prop} {o : Option (Int × Int)}, RsOK lo hi P o → RsOK lo hi (fun s => P s ∨ (s ∈ l ∧ K s)) (l.foldl (acF lo hi K) o) := by
  intro l
  induction l with
  | nil =>
    intro P o h
    exact h.congr fun s => ⟨Or.inl, fun z => z.resolve_right (fun y => by simpa using y.1)⟩
  | cons r l ih =>
    intro P o h
    refine (ih (h.step r)).congr fun s => ?_
    rw [List.mem_cons]
    constructor
    · rintro ((z | ⟨z1, z2⟩) | ⟨z1, z2⟩)
      · exact Or.inl z
      · exact Or.inr ⟨Or.inl z1, z2⟩
      · exact Or.inr ⟨Or.inr z1, z2⟩
    · rintro (z | ⟨z1 | z1, z2⟩)
      · exact Or.inl (Or.inl z)
      · exact Or.inl (Or.inr ⟨z1, z2⟩)
      · exact Or.inr ⟨z1, z2⟩
section Q
variable {w : WD} {m : Int} {S : Int32}
noncomputable def nb (w : WD) (m : Int) (S : Int32) (b : Int) : Bool := @decide (nmB w m S b) (Classical.propDecidable _)
theorem nb_t {b : Int} : nb w m S b = true ↔ nmB w m S b := by
  unfold nb
  exact @decide_eq_true_iff _ (Classical.propDecidable _)
theorem nb_f {b : Int} : nb w m S b = false ↔ ¬ nmB w m S b := by
  rw [← nb_t]
  cases nb w m S b <;> simp
/-- the table seen in an opened box -/
def seT (w : WD) (x : Int) : List TR := [(wSe w x 0, wSe w x 1, wSe w x 2), (wSe w x 3, wSe w x 4, wSe w x 5), (wSe w x 6, wSe w x 7, wSe w x 8), (wSe w x 9, wSe w x 10, wSe w x 11)]
theorem tcl_seT (x : Int) {g k : Int} (g0 : 0 ≤ g) (g1 : g < 4) (k0 : 0 ≤ k) (k1 : k < 3) : tcl (seT w x) g.toNat k = wSe w x (3 * g + k) := by
  rcases (show g = 0 ∨ g = 1 ∨ g = 2 ∨ g = 3 by omega) with e | e | e | e <;> rcases (show k = 0 ∨ k = 1 ∨ k = 2 by omega) with q | q | q <;> subst e <;> subst q <;> rfl
noncomputable def tabS (w : WD) (m : Int) (S : Int32) (b : Int) : List (List TR) := if nb w m S b = true then (if wO w (12 * m + b) = 1 then [seT w (12 * m + b)] else bTb w m (12 * m + b)) else [[]]
theorem tabS_n {b : Int} (n : nb w m S b = false) : tabS w m S b = [[]] := by unfold tabS; rw [n]; rfl
theorem tabS_o {b : Int} (n : nb w m S b = true) (o : wO w (12 * m + b) = 1) : tabS w m S b = [seT w (12 * m + b)] := by unfold tabS; rw [if_pos n, if_pos o]
theorem tabS_t {b : Int} (n : nb w m S b = true) (o : wO w (12 * m + b) = 0) : tabS w m S b = bTb w m (12 * m + b) := by unfold tabS; rw [if_pos n, if_neg (by omega)]
theorem tabS_len (hW : WI w) (hl : lvM w m) {b : Int} (b0 : 0 ≤ b) (tb : b < wBx w m) : ((tabS w m S b).length : Int) = bigF w m S b := by
  obtain ⟨-, -, -, -, -, wo, -⟩ := hW.box hl b0 tb
  cases n : nb w m S b with
  | false =>
    rw [tabS_n n, bigF_n (fun y => by rw [← nb_t, n] at y; exact absurd y.1 (by decide))]; rfl
  | true =>
    rcases wo with o | o
    · obtain ⟨-, -, -, -, -, -, hn⟩ := box_all hW hl b0 tb
      rw [tabS_t n o, bigF_y ⟨nb_t.1 n, by omega⟩]; exact hn
    · rw [tabS_o n o, bigF_n (fun y => y.2 o)]; rfl
theorem prd_len (hW : WI w) (hl : lvM w m) : ∀ n : Nat, (n : Int) ≤ wBx w m → ((rwPrd (tabS w m S) n).length : Int) = bigN w m S n := by
  intro n
  induction n with
  | zero => intro _; rfl
  | succ n ih =>
    intro hn
    have h1 := ih (by omega)
    have h2 := tabS_len (S := S) hW hl (b := n) (by omega) (by omega)
    have h3 := len_flat (fun r : RoT => (tabS w m S n).map (rwUp r n)) (tabS w m S n).length (rwPrd (tabS w m S) n) (fun r _ => by simp)
    show (((rwPrd (tabS w m S) n).flatMap fun r => (tabS w m S n).map (rwUp r n)).length : Int) = bigN w m S n * bigF w m S n
    rw [h3, ← h1, ← h2]
    exact Int.natCast_mul _ _
/-- what is held, of a row of tables -/
def hldA (w : WD) (x : Int) (r : RoT) : Int := tcl (r (hBo w x)) (hCe w x / 10).toNat (hCe w x % 10)
def hldB (w : WD) (x : Int) (r : RoT) : Int := tcl (r (hOt w x)) (hCe w x / 10).toNat (hCe w x % 10)
def hld (w : WD) (x : Int) (r : RoT) : Prop := (hSo w x = 0 ∧ hldA w x r ≤ hMu w x) ∨ (hSo w x = 1 ∧ hMu w x ≤ hldA w x r) ∨ (2 ≤ hSo w x ∧ hldA w x r - hldB w x r ≤ hMu w x ∧ (hSo w x = 3 ∨ hldB w x r - hldA w x r ≤ hMu w x))
def kep (w : WD) (m : Int) (S : Int32) (r : RoT) : Prop := ∀ k : Int, 0 ≤ k → k < wH w m → bt S k → hld w (12 * m + k) r
/-- sums over the boxes that a set names, and over those that it does not -/
noncomputable def loU (w : WD) (m : Int) (S : Int32) (g k : Int) : Nat → Int
  | 0 => 0
  | n + 1 => loU w m S g k n + if nb w m S n = true then 0 else wLe w m (12 * m + n) g k
noncomputable def hiU (w : WD) (m : Int) (S : Int32) (g k : Int) : Nat → Int
  | 0 => 0
  | n + 1 => hiU w m S g k n + if nb w m S n = true then 0 else wMo w m (12 * m + n) g k
noncomputable def nmS (w : WD) (m : Int) (S : Int32) (g k : Int) (r : RoT) : Nat → Int
  | 0 => 0
  | n + 1 => nmS w m S g k r n + if nb w m S n = true then tcl (r n) g.toNat k else 0
noncomputable def loR (w : WD) (m : Int) (S : Int32) (g k : Int) (r : RoT) : Int := loU w m S g k (wBx w m).toNat + nmS w m S g k r (wBx w m).toNat
noncomputable def hiR (w : WD) (m : Int) (S : Int32) (g k : Int) (r : RoT) : Int := hiU w m S g k (wBx w m).toNat + nmS w m S g k r (wBx w m).toNat
/-- the rows of a set; the least and the most by it -/
noncomputable def rowsS (w : WD) (m : Int) (S : Int32) : List RoT := rwPrd (tabS w m S) (wBx w m).toNat
noncomputable def resS (w : WD) (m : Int) (S : Int32) (g k : Int) : Option (Int × Int) := (rowsS w m S).foldl (acF (loR w m S g k) (hiR w m S g k) (kep w m S)) none
theorem resS_ok (g k : Int) : RsOK (loR w m S g k) (hiR w m S g k) (fun r => r ∈ rowsS w m S ∧ kep w m S r) (resS w m S g k) :=
  ((RsOK.fold (rowsS w m S) (P := fun _ => False) (o := none) (fun _ => id)).congr fun r => ⟨fun z => z.resolve_left id, Or.inr⟩)
end Q
