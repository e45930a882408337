/-! more held things: fewer rows; scanning sets -/
section Q
variable {w : WD} {A : Int → Nat} {h hh h' : AH} {m g k : Int} {S T N : Int32}
def subS (S T : Int32) : Prop := ∀ j : Int, 0 ≤ j → j ≤ 11 → bt S j → bt T j
theorem nb_mono (hW : WI w) (hl : lvM w m) (hs : subS S T) {b : Int} (n : nb w m S b = true) : nb w m T b = true := by
  obtain ⟨-, -, -, ⟨hh1, hh2⟩, -⟩ := hW.mat hl
  obtain ⟨k, k0, k1, k2, k3⟩ := nb_t.1 n
  exact nb_t.2 ⟨k, k0, k1, hs k k0 (by omega) k2, k3⟩
theorem bigF_mono (hW : WI w) (hl : lvM w m) (hs : subS S T) {b : Int} (b0 : 0 ≤ b) (tb : b < wBx w m) : bigF w m S b ≤ bigF w m T b := by
  by_cases y : nmB w m S b ∧ wO w (12 * m + b) ≠ 1
  · rw [bigF_y y, bigF_y ⟨nb_t.1 (nb_mono hW hl hs (nb_t.2 y.1)), y.2⟩]; exact Int.le_refl _
  · rw [bigF_n y]; exact bigF_one hW hl b0 tb
theorem bigN_mono (hW : WI w) (hl : lvM w m) (hs : subS S T) : ∀ n : Nat, (n : Int) ≤ wBx w m → bigN w m S n ≤ bigN w m T n := by
  intro n
  induction n with
  | zero => intro _; exact Int.le_refl _
  | succ n ih =>
    intro hn
    have h1 := ih (by omega)
    have h2 := bigF_mono hW hl hs (b := n) (by omega) (by omega)
    have h3 := bigN_one (S := S) hW hl n (by omega)
    have h4 := bigF_one (S := S) hW hl (b := n) (by omega) (by omega)
    have e1 : bigN w m S n * bigF w m S n ≤ bigN w m S n * bigF w m T n := Int.mul_le_mul_of_nonneg_left h2 (by omega)
    have e2 : bigN w m S n * bigF w m T n ≤ bigN w m T n * bigF w m T n := Int.mul_le_mul_of_nonneg_right h1 (by omega)
    show bigN w m S n * bigF w m S n ≤ bigN w m T n * bigF w m T n
    omega
theorem bigR_mono (hW : WI w) (hl : lvM w m) (hs : subS S T) (h0 : bigR w m T = 0) : bigR w m S = 0 := by
  obtain ⟨-, -, ⟨b2, b3⟩, -⟩ := hW.mat hl
  have h1 := bigN_mono hW hl hs (wBx w m).toNat (by omega)
  rcases bigR_01 w m S with y | y
  · exact y.1
  · rcases bigR_01 w m T with z | z <;> omega
theorem resS_mono (hW : WI w) (hl : lvM w m) (hs : subS S T) (g0 : 0 ≤ g) (g1 : g < wGr w m) (k0 : 0 ≤ k) (k1 : k < wCh w m) {q : Int × Int} (hq : resS w m T g k = some q) : ∃ q' : Int × Int, resS w m S g k = some q' ∧ q'.1 ≤ q.1 := by
  obtain ⟨⟨gg1, gg2⟩, ⟨gc1, gc2⟩, ⟨b2, b3⟩, ⟨hh1, hh2⟩, -, hH⟩ := hW.mat hl
  have hT := resS_ok (w := w) (m := m) (S := T) g k
  rw [hq] at hT
  obtain ⟨⟨r, ⟨hr1, hr2⟩, hr3⟩, -⟩ := hT
  obtain ⟨hV, hO⟩ := (rows_mem hW hl).1 hr1
  obtain ⟨r', er'⟩ : ∃ r' : RoT, (fun b => if nb w m S b = true then r b else []) = r' := ⟨_, rfl⟩
  have hy : ∀ b : Int, nb w m S b = true → r' b = r b := fun b n => by rw [← er']; exact if_pos n
  have hn : ∀ b : Int, ¬ nb w m S b = true → r' b = [] := fun b n => by rw [← er']; exact if_neg n
  have hrow : r' ∈ rowsS w m S := (rows_mem hW hl).2 ⟨fun b b0 b1 => by
    by_cases n : nb w m S b = true
    · have n2 := nb_mono hW hl hs n
      have := hV b b0 b1
      rw [hy b n]
      obtain ⟨-, -, -, -, -, wo, -⟩ := hW.box hl b0 b1
      rcases wo with o | o
      · rw [tabS_t n2 o] at this; rw [tabS_t n o]; exact this
      · rw [tabS_o n2 o] at this; rw [tabS_o n o]; exact this
    · rw [hn b n, tabS_n (by simpa using n)]; exact List.mem_singleton.mpr rfl, fun c hc => by
    by_cases n : nb w m S c = true
    · rw [hy c n]; exact hO c hc
    · exact hn c n⟩
  have hkep : kep w m S r' := fun j j0 j1 jb => by
    obtain ⟨n1, n2⟩ := nmB_of hl hW j0 j1 jb
    exact (hld_congr (hy _ n1) (fun z => hy _ (n2 z))).2 (hr2 j j0 j1 (hs j j0 (by omega) jb))
  have hlow : ∀ n : Nat, (n : Int) ≤ wBx w m → loU w m S g k n + nmS w m S g k r' n ≤ loU w m T g k n + nmS w m T g k r n := by
    intro n
    induction n with
    | zero => intro _; exact Int.le_refl _
    | succ n ih =>
      intro hnn
      have i := ih (by omega)
      unfold loU nmS
      by_cases y : nb w m S n = true
      · have y2 := nb_mono hW hl hs y
        rw [if_pos y, if_pos y, if_pos y2, if_pos y2, hy _ y]
        omega
      · rw [if_neg y, if_neg y]
        by_cases y2 : nb w m T n = true
        · rw [if_pos y2, if_pos y2]
          have ht := hV n (by omega) (by omega)
          obtain ⟨-, -, -, -, -, wo, -⟩ := hW.box hl (b := n) (by omega) (by omega)
          rcases wo with o | o
          · rw [tabS_t y2 o] at ht
            have := tab_ends hW hl (b := n) (by omega) (by omega) o ht g0 g1 k0 k1
            omega
          · rw [tabS_o y2 o, List.mem_singleton] at ht
            have e := tcl_seT (w := w) (12 * m + n) g0 (by omega) k0 (by omega)
            rw [← ht] at e
            have e1 : wLe w m (12 * m + n) g k = wSe w (12 * m + n) (3 * g + k) := if_pos o
            omega
        · rw [if_neg y2, if_neg y2]
          omega
  have hS := resS_ok (w := w) (m := m) (S := S) g k
  cases er : resS w m S g k with
  | none => rw [er] at hS; exact absurd ⟨hrow, hkep⟩ (hS r')
  | some q' =>
    rw [er] at hS
    refine ⟨q', rfl, ?_⟩
    have h1 := hS.2.1 r' ⟨hrow, hkep⟩
    have h2 := hlow (wBx w m).toNat (by omega)
    have h3 : loR w m T g k r = q.1 := hr3
    unfold loR at h1 h3
    omega
theorem resS_none (hW : WI w) (hl : lvM w m) (hs : subS S T) (g0 : 0 ≤ g) (g1 : g < wGr w m) (k0 : 0 ≤ k) (k1 : k < wCh w m) (hq : resS w m S g k = none) : resS w m T g k = none := by
  cases e : resS w m T g k with
  | none => rfl
  | some q =>
    obtain ⟨q', h1, -⟩ := resS_mono hW hl hs g0 g1 k0 k1 e
    rw [hq] at h1; exact absurd h1 (by simp)
end Q
/-! a scan of sets: by their sizes, then in order -/
def scI (f : Nat → Option Int) (c : Nat → Bool) : Nat → Nat → Option Int
  | 0, _ => none
  | n + 1, s => if c s = true then (match f s with | some r => some r | none => scI f c n (s + 1)) else scI f c n (s + 1)
def scO (f : Nat → Option Int) (c : Nat → Nat → Bool) (t : Nat) : Nat → Nat → Int
  | 0, _ => -2
  | n + 1, z => match scI f (c z) (t + 1) 0 with | some r => r | none => scO f c t n (z + 1)
theorem scI_y1 {f : Nat → Option Int} {c : Nat → Bool} {n s : Nat} {r : Int} (y : c s = true) (z : f s = some r) : scI f c (n + 1) s = some r := by
  show (if c s = true then _ else _) = _
  rw [if_pos y, z]
theorem scI_y0 {f : Nat → Option Int} {c : Nat → Bool} {n s : Nat} (y : c s = true) (z : f s = none) : scI f c (n + 1) s = scI f c n (s + 1) := by
  show (if c s = true then _ else _) = _
  rw [if_pos y, z]
theorem scI_n {f : Nat → Option Int} {c : Nat → Bool} {n s : Nat} (y : ¬ c s = true) : scI f c (n + 1) s = scI f c n (s + 1) := by
  show (if c s = true then _ else _) = _
  rw [if_neg y]
theorem scI_none {f : Nat → Option Int} {c : Nat → Bool} : ∀ (n s : Nat), (∀ x : Nat, s ≤ x → x < s + n → c x = true → f x = none) → scI f c n s = none := by
  intro n
  induction n with
  | zero => intro s _; rfl
  | succ n ih =>
    intro s hs
    have i := ih (s + 1) (fun x x0 x1 => hs x (by omega) (by omega))
    by_cases y : c s = true
    · rw [scI_y0 y (hs s (by omega) (by omega) y)]; exact i
    · rw [scI_n y]; exact i
theorem scO_s {f : Nat → Option Int} {c : Nat → Nat → Bool} {t n z : Nat} {r : Int} (y : scI f (c z) (t + 1) 0 = some r) : scO f c t (n + 1) z = r := by
  show (match scI f (c z) (t + 1) 0 with | some r => r | none => scO f c t n (z + 1)) = r
  rw [y]
theorem scO_n {f : Nat → Option Int} {c : Nat → Nat → Bool} {t n z : Nat} (y : scI f (c z) (t + 1) 0 = none) : scO f c t (n + 1) z = scO f c t n (z + 1) := by
  show (match scI f (c z) (t + 1) 0 with | some r => r | none => scO f c t n (z + 1)) = _
  rw [y]
theorem scO_none {f : Nat → Option Int} {c : Nat → Nat → Bool} {t : Nat} : ∀ (n z : Nat), (∀ z' x : Nat, z ≤ z' → x ≤ t → c z' x = true → f x = none) → scO f c t n z = -2 := by
  intro n
  induction n with
  | zero => intro z _; rfl
  | succ n ih =>
    intro z hz
    rw [scO_n (scI_none _ _ (fun x _ x1 => hz z x (by omega) (by omega)))]
    exact ih (z + 1) (fun z' x z0 => hz z' x (by omega))
theorem scO_ext {f : Nat → Option Int} {c : Nat → Nat → Bool} {t b : Nat} : ∀ (n z : Nat), (∀ z' x : Nat, z + n ≤ z' → x ≤ t → c z' x = false) → scO f c t (n + b) z = scO f c t n z := by
  intro n
  induction n with
  | zero =>
    intro z hz
    rw [Nat.zero_add]
    exact scO_none b z (fun z' x z0 x1 y => by rw [hz z' x (by omega) x1] at y; exact absurd y (by decide))
  | succ n ih =>
    intro z hz
    rw [show n + 1 + b = (n + b) + 1 by omega]
    cases e : scI f (c z) (t + 1) 0 with
    | some r => rw [scO_s e, scO_s e]
    | none => rw [scO_n e, scO_n e]; exact ih (z + 1) (fun z' x z0 => hz z' x (by omega))
/-! bits again -/
def onN (d : Nat) : Nat := (onP (iv (d : Int)) 12).toNatClampNeg
theorem B4 : ∀ d : Fin 256, onP (iv (d.val : Int)) 12 = iv (onN d.val : Int) ∧ onN d.val < 9 := by
  decide +kernel
theorem B5 : ∀ d : Fin 256, ∀ z : Fin 8, d.val.testBit z.val = true → (iv (d.val : Int) &&& ((iv ((2 ^ z.val : Nat) : Int)) ^^^ iv (-1))) = iv ((d.val - 2 ^ z.val : Nat) : Int) ∧ onN (d.val - 2 ^ z.val) + 1 = onN d.val ∧ 2 ^ z.val ≤ d.val ∧ ∀ j : Fin 12, (d.val - 2 ^ z.val).testBit j.val = true → d.val.testBit j.val = true := by
  decide +kernel
theorem B6 : ∀ d : Fin 256, d.val = 0 ∨ (iv (d.val : Int) &&& (-(iv (d.val : Int)))) = iv ((2 ^ tzN d.val : Nat) : Int) := by
  decide +kernel
theorem tb8 {s : Nat} (hs : s < 256) {j : Nat} (h : s.testBit j = true) : j < 8 := by
  by_cases y : j < 8
  · exact y
  · have h2 : s < 2 ^ j := Nat.lt_of_lt_of_le hs (Nat.pow_le_pow_right (n := 2) (by omega) (show 8 ≤ j by omega))
    rw [Nat.testBit_lt_two_pow h2] at h
    exact absurd h (by decide)
theorem sub_iff {s t : Nat} (hs : s < 256) (ht : t < 256) : (iv (s : Int) &&& (iv (t : Int) ^^^ iv (-1))) = 0 ↔ ∀ j : Nat, s.testBit j = true → t.testBit j = true := by
  have e : ∀ d : Nat, (iv (d : Int)).toBitVec = BitVec.ofNat 32 d := fun d => by
    show BitVec.ofInt 32 (d : Int) = _
    exact BitVec.ofInt_natCast 32 d
  have e1 : (iv (-1)).toBitVec = BitVec.allOnes 32 := by decide
  rw [← Int32.toBitVec_inj, Int32.toBitVec_and, Int32.toBitVec_xor, e, e, e1, show (0 : Int32).toBitVec = 0#32 from rfl]
  constructor
  · intro H j hj
    have j8 := tb8 hs hj
    have := congrArg (fun v : BitVec 32 => v.getLsbD j) H
    simp only [BitVec.getLsbD_and, BitVec.getLsbD_xor, BitVec.getLsbD_ofNat, BitVec.getLsbD_allOnes, BitVec.getLsbD_zero, hj] at this
    have j32 : j < 32 := by omega
    simp only [j32, decide_true, Bool.true_and, Bool.xor_true, Nat.zero_testBit] at this
    cases q : t.testBit j
    · rw [q] at this; exact absurd this (by decide)
    · rfl
  · intro H
    apply BitVec.eq_of_getLsbD_eq
    intro i hi
    simp only [BitVec.getLsbD_and, BitVec.getLsbD_xor, BitVec.getLsbD_ofNat, BitVec.getLsbD_allOnes, BitVec.getLsbD_zero, hi, decide_true, Bool.true_and, Bool.xor_true, Nat.zero_testBit]
    cases q : s.testBit i
    · rfl
    · rw [H i q]; rfl
