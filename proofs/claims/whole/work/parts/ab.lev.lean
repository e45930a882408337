/-! boxes that go: named and not opened; sums over them; when a held thing falls due -/
theorem tcl_ends : ∀ (rs : List Int) (a b c : Int) (t : List TR), TOk rs a b c t → ∀ (g : Nat) (k x : Int), rs[g]? = some x → (k = 0 → tcl t g k ≤ x ∧ tcl t g k ≤ a ∧ x + a - (a + b + c) ≤ tcl t g k) ∧ (k = 1 → tcl t g k ≤ x ∧ tcl t g k ≤ b ∧ x + b - (a + b + c) ≤ tcl t g k) ∧ (k = 2 → tcl t g k ≤ x ∧ tcl t g k ≤ c ∧ x + c - (a + b + c) ≤ tcl t g k) := by
  intro rs
  induction rs with
  | nil => intro a b c t _ g k x hx; exact absurd hx (by simp)
  | cons r rs ih =>
    intro a b c t hT g k x hx
    cases t with
    | nil => exact hT.elim
    | cons e t =>
      obtain ⟨p, q, s⟩ := e
      obtain ⟨t1, t2, t3, t4, t5⟩ := hT
      obtain ⟨k1, k2, k3, k4, k5⟩ := TOk_rng _ _ _ _ _ t5
      cases g with
      | zero =>
        have hx : r = x := by simpa using hx
        subst hx
        refine ⟨fun e => ?_, fun e => ?_, fun e => ?_⟩ <;> subst e
        · show p ≤ r ∧ p ≤ a ∧ _ ≤ p; omega
        · show q ≤ r ∧ q ≤ b ∧ _ ≤ q; omega
        · show s ≤ r ∧ s ≤ c ∧ _ ≤ s; omega
      | succ g =>
        have := ih _ _ _ t t5 g k x (by simpa using hx)
        obtain ⟨i1, i2, i3⟩ := this
        have e : tcl ((p, q, s) :: t) (g + 1) k = tcl t g k := rfl
        rw [e]
        exact ⟨fun y => by have := i1 y; omega, fun y => by have := i2 y; omega, fun y => by have := i3 y; omega⟩
theorem rwL_at (w : WD) (x : Int) : ∀ (n : Nat) (u : Int) (g : Nat), g < n → (rwL w x u n)[g]? = some (wG w x (u + g)) := by
  intro n
  induction n with
  | zero => intro u g hg; omega
  | succ n ih =>
    intro u g hg
    cases g with
    | zero => show some (wG w x u) = _; rw [show u + ((0 : Nat) : Int) = u by omega]
    | succ g =>
      have := ih (u + 1) g (by omega)
      show (rwL w x (u + 1) n)[g]? = _
      rw [this, show u + 1 + (g : Int) = u + ((g + 1 : Nat) : Int) by omega]
section Q
variable {w : WD} {A : Int → Nat} {m : Int} {S : Int32}
theorem tab_ends (hW : WI w) (hl : lvM w m) {b : Int} (b0 : 0 ≤ b) (tb : b < wBx w m) (o : wO w (12 * m + b) = 0) {t : List TR} (ht : t ∈ bTb w m (12 * m + b)) {g k : Int} (g0 : 0 ≤ g) (g1 : g < wGr w m) (k0 : 0 ≤ k) (k1 : k < wCh w m) : wLe w m (12 * m + b) g k ≤ tcl t g.toNat k ∧ tcl t g.toNat k ≤ wMo w m (12 * m + b) g k := by
  obtain ⟨⟨gg1, gg2⟩, ⟨gc1, gc2⟩, -⟩ := hW.mat hl
  have hT := bTb_ok w m _ ht
  have hr := tcl_rng hT g.toNat k
  obtain ⟨-, -, -, -, s2, -⟩ := hW.box hl b0 tb
  obtain ⟨i1, i2, i3⟩ := tcl_ends _ _ _ _ _ hT g.toNat k (wG w (12 * m + b) g) (by
    unfold bRw
    rw [rwL_at _ _ _ _ _ (by omega), show (0 : Int) + (g.toNat : Int) = g by omega])
  unfold wLe wMo
  rw [if_neg (by omega), if_neg (by omega), show wP w m (12 * m + b) g = wG w (12 * m + b) g from if_pos g1]
  rcases (show k = 0 ∨ k = 1 ∨ k = 2 by omega) with e | e | e
  · have := i1 e; subst e; omega
  · have := i2 e; subst e; omega
  · have := i3 e; subst e; omega
noncomputable def gz (w : WD) (m : Int) (S : Int32) (b : Int) : Bool := nb w m S b && decide (wO w (12 * m + b) = 0)
theorem gz_iff {b : Int} : gz w m S b = true ↔ nb w m S b = true ∧ wO w (12 * m + b) = 0 := by
  unfold gz
  rw [Bool.and_eq_true, decide_eq_true_iff]
noncomputable def gzL (w : WD) (m : Int) (S : Int32) : Nat → List Int
  | 0 => []
  | n + 1 => if gz w m S n = true then gzL w m S n ++ [(n : Int)] else gzL w m S n
theorem gzL_y {n : Nat} (y : gz w m S n = true) : gzL w m S (n + 1) = gzL w m S n ++ [(n : Int)] := if_pos y
theorem gzL_n {n : Nat} (y : ¬ gz w m S n = true) : gzL w m S (n + 1) = gzL w m S n := if_neg y
theorem gzL_mem : ∀ (n : Nat) (b : Int), b ∈ gzL w m S n ↔ 0 ≤ b ∧ b < n ∧ gz w m S b = true := by
  intro n
  induction n with
  | zero => intro b; unfold gzL; constructor
            · intro h; exact absurd h (by simp)
            · intro h; omega
  | succ n ih =>
    intro b
    by_cases y : gz w m S n = true
    · rw [gzL_y y, List.mem_append, ih, List.mem_singleton]
      constructor
      · rintro (⟨h1, h2, h3⟩ | rfl)
        · exact ⟨h1, by omega, h3⟩
        · exact ⟨by omega, by omega, y⟩
      · rintro ⟨h1, h2, h3⟩
        by_cases e : b = n
        · exact Or.inr e
        · exact Or.inl ⟨h1, by omega, h3⟩
    · rw [gzL_n y, ih]
      constructor
      · rintro ⟨h1, h2, h3⟩
        exact ⟨h1, by omega, h3⟩
      · rintro ⟨h1, h2, h3⟩
        by_cases e : b = n
        · subst e; exact absurd h3 y
        · exact ⟨h1, by omega, h3⟩
theorem gzL_len : ∀ n : Nat, (gzL w m S n).length ≤ n := by
  intro n
  induction n with
  | zero => exact Nat.le_refl _
  | succ n ih =>
    by_cases y : gz w m S n = true
    · rw [gzL_y y, List.length_append]; simp; omega
    · rw [gzL_n y]; omega
theorem gzL_split : ∀ (n : Nat) (d r : List Int) (b : Int), gzL w m S n = d ++ b :: r → d = gzL w m S b.toNat := by
  intro n
  induction n with
  | zero => intro d r b h; unfold gzL at h; exact absurd h (by simp)
  | succ n ih =>
    intro d r b h
    by_cases y : gz w m S n = true
    · rw [gzL_y y] at h
      rcases List.eq_nil_or_concat r with e | ⟨r', x, e⟩
      · subst e
        obtain ⟨h1, h2⟩ := List.append_inj' h rfl
        injection h2 with h3 _
        rw [← h3, ← h1]; rfl
      · subst e
        have : gzL w m S n ++ [(n : Int)] = (d ++ b :: r') ++ [x] := by rw [h]; simp
        obtain ⟨h1, h2⟩ := List.append_inj' this rfl
        exact ih _ _ _ h1
    · rw [gzL_n y] at h
      exact ih _ _ _ h
theorem gzL_pre : ∀ (n k : Nat), ∃ r, gzL w m S (n + k) = gzL w m S n ++ r := by
  intro n k
  induction k with
  | zero => exact ⟨[], by simp⟩
  | succ k ih =>
    obtain ⟨r, hr⟩ := ih
    by_cases y : gz w m S ((n + k : Nat) : Int) = true
    · exact ⟨r ++ [((n + k : Nat) : Int)], by rw [← Nat.add_assoc, gzL_y y, hr, List.append_assoc]⟩
    · exact ⟨r, by rw [← Nat.add_assoc, gzL_n y, hr]⟩
theorem gzL_at {n : Nat} {b : Int} (b0 : 0 ≤ b) (b1 : b < n) (y : gz w m S b = true) : ∃ r, gzL w m S n = gzL w m S b.toNat ++ b :: r := by
  obtain ⟨r, hr⟩ := gzL_pre (w := w) (m := m) (S := S) (b.toNat + 1) (n - (b.toNat + 1))
  refine ⟨r, ?_⟩
  have e : ((b.toNat : Nat) : Int) = b := by omega
  rw [show n = b.toNat + 1 + (n - (b.toNat + 1)) by omega, hr, gzL_y (by rw [e]; exact y), e, List.append_assoc]
  rfl
/-- sums -/
noncomputable def uLe (w : WD) (m : Int) (S : Int32) (g k : Int) : Nat → Int
  | 0 => 0
  | n + 1 => uLe w m S g k n + if gz w m S n = true then 0 else wLe w m (12 * m + n) g k
noncomputable def uMo (w : WD) (m : Int) (S : Int32) (g k : Int) : Nat → Int
  | 0 => 0
  | n + 1 => uMo w m S g k n + if gz w m S n = true then 0 else wMo w m (12 * m + n) g k
def sLe (w : WD) (m g k : Int) : List Int → Int
  | [] => 0
  | b :: l => wLe w m (12 * m + b) g k + sLe w m g k l
def sMo (w : WD) (m g k : Int) : List Int → Int
  | [] => 0
  | b :: l => wMo w m (12 * m + b) g k + sMo w m g k l
def sCe (g k : Int) (r : RoT) : List Int → Int
  | [] => 0
  | b :: l => tcl (r b) g.toNat k + sCe g k r l
theorem sCe_app (g k : Int) (r : RoT) (l2 : List Int) : ∀ l1 : List Int, sCe g k r (l1 ++ l2) = sCe g k r l1 + sCe g k r l2 := by
  intro l1
  induction l1 with
  | nil => show _ = 0 + _; rw [Int.zero_add]; rfl
  | cons b l ih => show _ + sCe g k r (l ++ l2) = _ + _ + _; rw [ih, Int.add_assoc]
theorem sCe_congr (g k : Int) {r r' : RoT} : ∀ l : List Int, (∀ b ∈ l, r' b = r b) → sCe g k r' l = sCe g k r l := by
  intro l
  induction l with
  | nil => intro _; rfl
  | cons b l ih =>
    intro h
    show _ + _ = _ + _
    rw [h b List.mem_cons_self, ih (fun c hc => h c (List.mem_cons_of_mem _ hc))]
theorem low_eq (hW : WI w) (hl : lvM w m) {r : RoT} (hV : RoV w m S r) {g k : Int} (g0 : 0 ≤ g) (g1 : g < wGr w m) (k0 : 0 ≤ k) (k1 : k < wCh w m) : ∀ n : Nat, (n : Int) ≤ wBx w m → loU w m S g k n + nmS w m S g k r n = uLe w m S g k n + sCe g k r (gzL w m S n) ∧ hiU w m S g k n + nmS w m S g k r n = uMo w m S g k n + sCe g k r (gzL w m S n) := by
  obtain ⟨⟨gg1, gg2⟩, ⟨gc1, gc2⟩, -⟩ := hW.mat hl
  intro n
  induction n with
  | zero => intro _; exact ⟨rfl, rfl⟩
  | succ n ih =>
    intro hn
    obtain ⟨i1, i2⟩ := ih (by omega)
    obtain ⟨-, -, -, -, -, wo, -⟩ := hW.box hl (b := n) (by omega) (by omega)
    unfold loU hiU uLe uMo nmS
    by_cases z : nb w m S n = true
    · rcases wo with o | o
      · have y : gz w m S n = true := gz_iff.2 ⟨z, o⟩
        rw [gzL_y y, sCe_app, if_pos z, if_pos z, if_pos y, if_pos y]
        have : sCe g k r [(n : Int)] = tcl (r n) g.toNat k + 0 := rfl
        rw [if_pos z]
        omega
      · have y : ¬ gz w m S n = true := fun y => by have := (gz_iff.1 y).2; omega
        have ht := hV n (by omega) (by omega)
        rw [tabS_o z o, List.mem_singleton] at ht
        have e := tcl_seT (w := w) (12 * m + n) g0 (by omega) k0 (by omega)
        rw [← ht] at e
        have e1 : wLe w m (12 * m + n) g k = wSe w (12 * m + n) (3 * g + k) := if_pos o
        have e2 : wMo w m (12 * m + n) g k = wSe w (12 * m + n) (3 * g + k) := if_pos o
        rw [gzL_n y, if_pos z, if_pos z, if_neg y, if_neg y, if_pos z]
        omega
    · have y : ¬ gz w m S n = true := fun y => z (gz_iff.1 y).1
      rw [gzL_n y, if_neg z, if_neg z, if_neg y, if_neg y, if_neg z]
      omega
theorem sRng (hW : WI w) (hl : lvM w m) {g k : Int} (g0 : 0 ≤ g) (g1 : g < wGr w m) (k0 : 0 ≤ k) (k1 : k < wCh w m) : ∀ l : List Int, (∀ b ∈ l, 0 ≤ b ∧ b < wBx w m) → (0 ≤ sLe w m g k l ∧ sLe w m g k l ≤ 99 * l.length) ∧ 0 ≤ sMo w m g k l ∧ sMo w m g k l ≤ 99 * l.length := by
  intro l
  induction l with
  | nil => intro _; unfold sLe sMo; simp
  | cons b l ih =>
    intro h
    have i := ih (fun c hc => h c (List.mem_cons_of_mem _ hc))
    have hb := h b List.mem_cons_self
    have := le_rng2 hW hl hb.1 hb.2 g0 g1 k0 k1
    unfold sLe sMo
    rw [List.length_cons]
    omega
theorem sEnds (hW : WI w) (hl : lvM w m) {g k : Int} (g0 : 0 ≤ g) (g1 : g < wGr w m) (k0 : 0 ≤ k) (k1 : k < wCh w m) {r : RoT} (hV : RoV w m S r) : ∀ l : List Int, (∀ b ∈ l, 0 ≤ b ∧ b < wBx w m ∧ gz w m S b = true) → sLe w m g k l ≤ sCe g k r l ∧ sCe g k r l ≤ sMo w m g k l := by
  intro l
  induction l with
  | nil => intro _; unfold sLe sMo sCe; omega
  | cons b l ih =>
    intro h
    have i := ih (fun c hc => h c (List.mem_cons_of_mem _ hc))
    obtain ⟨b0, b1, y⟩ := h b List.mem_cons_self
    obtain ⟨y1, y2⟩ := gz_iff.1 y
    have ht := hV b b0 b1
    rw [tabS_t y1 y2] at ht
    have := tab_ends hW hl b0 b1 y2 ht g0 g1 k0 k1
    unfold sLe sMo sCe
    omega
theorem uRng (hW : WI w) (hl : lvM w m) {g k : Int} (g0 : 0 ≤ g) (g1 : g < wGr w m) (k0 : 0 ≤ k) (k1 : k < wCh w m) : ∀ n : Nat, (n : Int) ≤ wBx w m → (0 ≤ uLe w m S g k n ∧ uLe w m S g k n ≤ 99 * n) ∧ 0 ≤ uMo w m S g k n ∧ uMo w m S g k n ≤ 99 * n := by
  intro n
  induction n with
  | zero => intro _; unfold uLe uMo; omega
  | succ n ih =>
    intro hn
    have := ih (by omega)
    have r := le_rng2 hW hl (b := n) (by omega) (by omega) g0 g1 k0 k1
    unfold uLe uMo
    by_cases z : gz w m S n = true
    · rw [if_pos z, if_pos z]; omega
    · rw [if_neg z, if_neg z]; omega
/-- the level of a box; when a held thing falls due -/
noncomputable def lvB (w : WD) (m : Int) (S : Int32) (b : Int) : Int := if gz w m S b = true then ((gzL w m S b.toNat).length : Int) else -1
noncomputable def dueN (w : WD) (m : Int) (S : Int32) (k : Int) : Int := if 2 ≤ hSo w (12 * m + k) then max (lvB w m S (hBo w (12 * m + k))) (lvB w m S (hOt w (12 * m + k))) else lvB w m S (hBo w (12 * m + k))
theorem lvB_rng {b : Int} {n : Nat} (b0 : 0 ≤ b) (b1 : b < n) : -1 ≤ lvB w m S b ∧ lvB w m S b < (gzL w m S n).length := by
  unfold lvB
  by_cases y : gz w m S b = true
  · obtain ⟨r, hr⟩ := gzL_at b0 b1 y
    rw [if_pos y, hr, List.length_append, List.length_cons]
    omega
  · rw [if_neg y]; omega
theorem lvB_done {b : Int} {n : Nat} (b0 : 0 ≤ b) (b1 : b < n) {d r : List Int} (hd : gzL w m S n = d ++ r) (hb : lvB w m S b < d.length) (y : gz w m S b = true) : b ∈ d := by
  obtain ⟨r', hr⟩ := gzL_at b0 b1 y
  unfold lvB at hb
  rw [if_pos y] at hb
  rw [hr] at hd
  have hp : gzL w m S b.toNat ++ [b] <+: d := by
    have h1 : gzL w m S b.toNat ++ [b] <+: d ++ r := ⟨r', by rw [← hd, List.append_assoc]; rfl⟩
    have h2 : d <+: d ++ r := ⟨r, rfl⟩
    exact List.prefix_of_prefix_length_le h1 h2 (by rw [List.length_append]; simp; omega)
  exact hp.subset (by simp)
theorem hld_congr {x : Int} {r r' : RoT} (h1 : r' (hBo w x) = r (hBo w x)) (h2 : 2 ≤ hSo w x → r' (hOt w x) = r (hOt w x)) : hld w x r' ↔ hld w x r := by
  have e1 : hldA w x r' = hldA w x r := by unfold hldA; rw [h1]
  unfold hld
  rw [e1]
  by_cases z : 2 ≤ hSo w x
  · have e2 : hldB w x r' = hldB w x r := by unfold hldB; rw [h2 z]
    rw [e2]
  · constructor
    · rintro (y | y | y)
      · exact Or.inl y
      · exact Or.inr (Or.inl y)
      · omega
    · rintro (y | y | y)
      · exact Or.inl y
      · exact Or.inr (Or.inl y)
      · omega
end Q
