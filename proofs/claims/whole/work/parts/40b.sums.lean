/-! sums from a place on; bits -/
def sF (f : Int → Int) (b : Int) : Nat → Int
  | 0 => 0
  | n + 1 => f b + sF f (b + 1) n
theorem sF_zero (f : Int → Int) (b : Int) : sF f b 0 = 0 := rfl
theorem sF_succ (f : Int → Int) (b : Int) (n : Nat) : sF f b (n + 1) = f b + sF f (b + 1) n := rfl
theorem sF_ge (f : Int → Int) (lo : Int) : ∀ (n : Nat) (b : Int), (∀ i : Int, b ≤ i → i < b + n → lo ≤ f i) → lo * n ≤ sF f b n := by
  intro n
  induction n with
  | zero => intro b _; simp [sF]
  | succ n ih =>
    intro b h
    have h1 := h b (by omega) (by omega)
    have h2 := ih (b + 1) (fun i q1 q2 => h i (by omega) (by omega))
    rw [sF_succ]
    have e : lo * ((n + 1 : Nat) : Int) = lo * n + lo := by rw [Int.natCast_add, Int.mul_add]; simp
    omega
theorem sF_le (f : Int → Int) (hi : Int) : ∀ (n : Nat) (b : Int), (∀ i : Int, b ≤ i → i < b + n → f i ≤ hi) → sF f b n ≤ hi * n := by
  intro n
  induction n with
  | zero => intro b _; simp [sF]
  | succ n ih =>
    intro b h
    have h1 := h b (by omega) (by omega)
    have h2 := ih (b + 1) (fun i q1 q2 => h i (by omega) (by omega))
    rw [sF_succ]
    have e : hi * ((n + 1 : Nat) : Int) = hi * n + hi := by rw [Int.natCast_add, Int.mul_add]; simp
    omega
theorem sF_congr {f g : Int → Int} : ∀ (n : Nat) (b : Int), (∀ i : Int, b ≤ i → i < b + n → f i = g i) → sF f b n = sF g b n := by
  intro n
  induction n with
  | zero => intro b _; rfl
  | succ n ih =>
    intro b h
    rw [sF_succ, sF_succ, h b (by omega) (by omega), ih (b + 1) (fun i q1 q2 => h i (by omega) (by omega))]
theorem sF_add {f g : Int → Int} : ∀ (n : Nat) (b : Int), sF (fun i => f i + g i) b n = sF f b n + sF g b n := by
  intro n
  induction n with
  | zero => intro b; rfl
  | succ n ih => intro b; rw [sF_succ, sF_succ, sF_succ, ih]; omega
theorem sF_sub {f g : Int → Int} : ∀ (n : Nat) (b : Int), sF (fun i => f i - g i) b n = sF f b n - sF g b n := by
  intro n
  induction n with
  | zero => intro b; rfl
  | succ n ih => intro b; rw [sF_succ, sF_succ, sF_succ, ih]; omega
theorem sF_mono {f g : Int → Int} : ∀ (n : Nat) (b : Int), (∀ i : Int, b ≤ i → i < b + n → f i ≤ g i) → sF f b n ≤ sF g b n := by
  intro n
  induction n with
  | zero => intro b _; exact Int.le_refl _
  | succ n ih =>
    intro b h
    have h1 := h b (by omega) (by omega)
    have h2 := ih (b + 1) (fun i q1 q2 => h i (by omega) (by omega))
    rw [sF_succ, sF_succ]
    omega
/-- a sum above 0 has a part above 0 -/
theorem sF_pos {f : Int → Int} : ∀ (n : Nat) (b : Int), 0 < sF f b n → ∃ i : Int, b ≤ i ∧ i < b + n ∧ 0 < f i := by
  intro n
  induction n with
  | zero => intro b h; exact absurd h (by simp [sF])
  | succ n ih =>
    intro b h
    by_cases q : 0 < f b
    · exact ⟨b, by omega, by omega, q⟩
    · rw [sF_succ] at h
      obtain ⟨i, i1, i2, i3⟩ := ih (b + 1) (by omega)
      exact ⟨i, by omega, by omega, i3⟩
def tbit (x : Int32) (b : Int) : Bool := x.toBitVec.getLsbD b.toNat
theorem sh_amt : ∀ n : Fin 32, (iv (n.val : Int) &&& 31).toBitVec.smod 32 = BitVec.ofNat 32 n.val := by decide
theorem sh_amt' {b : Int} (h1 : 0 ≤ b) (h2 : b < 32) : (iv b &&& 31).toBitVec.smod 32 = BitVec.ofNat 32 b.toNat := by
  have := sh_amt ⟨b.toNat, by omega⟩
  simpa [Int.toNat_of_nonneg h1] using this
theorem and_one (y : BitVec 32) : (y &&& 1#32 = 0#32) ↔ y.getLsbD 0 = false := by
  constructor
  · intro h
    have := congrArg (fun z : BitVec 32 => z.getLsbD 0) h
    simpa using this
  · intro h
    apply BitVec.eq_of_getLsbD_eq
    intro i hi
    rw [BitVec.getLsbD_and, BitVec.getLsbD_one]
    by_cases e : i = 0
    · subst e; rw [h]; simp
    · simp [e]
theorem and_one' (y : BitVec 32) : (y &&& 1#32 = 1#32) ↔ y.getLsbD 0 = true := by
  constructor
  · intro h
    have := congrArg (fun z : BitVec 32 => z.getLsbD 0) h
    simpa using this
  · intro h
    apply BitVec.eq_of_getLsbD_eq
    intro i hi
    rw [BitVec.getLsbD_and, BitVec.getLsbD_one]
    by_cases e : i = 0
    · subst e; simp [h]
    · simp [e]
theorem shr_bit {x : Int32} {b : Int} (h1 : 0 ≤ b) (h2 : b < 32) : (x >>> (iv b &&& 31)).toBitVec.getLsbD 0 = tbit x b := by
  rw [Int32.toBitVec_shiftRight, sh_amt' h1 h2]
  unfold tbit
  rw [BitVec.sshiftRight_eq', BitVec.getLsbD_sshiftRight]
  have : b.toNat < 32 := by omega
  have e : (BitVec.ofNat 32 b.toNat).toNat = b.toNat := by rw [BitVec.toNat_ofNat]; exact Nat.mod_eq_of_lt (by omega)
  rw [e, if_pos (by omega), Nat.add_zero]
  show (true && _) = _
  rw [Bool.true_and]
theorem bit0 {x : Int32} {b : Int} (h1 : 0 ≤ b) (h2 : b < 32) : (((x >>> (iv b &&& 31)) &&& iv 1) = iv 0) = (tbit x b = false) := by
  apply propext
  rw [← shr_bit h1 h2, ← and_one, ← Int32.toBitVec_inj, Int32.toBitVec_and]
  rfl
theorem bit1 {x : Int32} {b : Int} (h1 : 0 ≤ b) (h2 : b < 32) : (((x >>> (iv b &&& 31)) &&& iv 1) = iv 1) = (tbit x b = true) := by
  apply propext
  rw [← shr_bit h1 h2, ← and_one', ← Int32.toBitVec_inj, Int32.toBitVec_and]
  rfl
theorem tbit_or (x y : Int32) (b : Int) : tbit (x ||| y) b = (tbit x b || tbit y b) := by
  unfold tbit
  rw [Int32.toBitVec_or, BitVec.getLsbD_or]
theorem tbit_and (x y : Int32) (b : Int) : tbit (x &&& y) b = (tbit x b && tbit y b) := by
  unfold tbit
  rw [Int32.toBitVec_and, BitVec.getLsbD_and]
theorem tbit_0 (b : Int) : tbit (iv 0) b = false := by
  unfold tbit
  show (0#32).getLsbD _ = false
  simp
theorem tbit_shl {a b : Int} (h1 : 0 ≤ a) (h2 : a < 32) (h3 : 0 ≤ b) (h4 : b < 32) : tbit (iv 1 <<< (iv a &&& 31)) b = decide (b = a) := by
  unfold tbit
  rw [Int32.toBitVec_shiftLeft, sh_amt' h1 h2, BitVec.shiftLeft_eq', BitVec.getLsbD_shiftLeft]
  show (decide _ && !decide _ && (1#32).getLsbD _) = _
  rw [BitVec.getLsbD_one]
  have e : (BitVec.ofNat 32 a.toNat).toNat = a.toNat := by
    rw [BitVec.toNat_ofNat]; exact Nat.mod_eq_of_lt (by omega)
  rw [e]
  by_cases q : b = a
  · subst q; simp; omega
  · simp [q]; omega
/-! SUMS over ranges of integers -/
theorem sF_split (f : Int → Int) : ∀ (n m : Nat) (b : Int), sF f b (n + m) = sF f b n + sF f (b + n) m := by
  intro n
  induction n with
  | zero => intro m b; rw [Nat.zero_add, sF_zero]; simp
  | succ n ih =>
    intro m b
    rw [show n + 1 + m = (n + m) + 1 by omega, sF_succ, sF_succ, ih m (b + 1), show b + 1 + (n : Int) = b + ((n + 1 : Nat) : Int) by omega]
    omega
theorem sF_z {f : Int → Int} : ∀ (n : Nat) (b : Int), (∀ i : Int, b ≤ i → i < b + n → f i = 0) → sF f b n = 0 := by
  intro n
  induction n with
  | zero => intro b _; rfl
  | succ n ih =>
    intro b h
    rw [sF_succ, h b (by omega) (by omega), ih (b + 1) (fun i q1 q2 => h i (by omega) (by omega))]
    rfl
theorem sF_last (f : Int → Int) (n : Nat) (b : Int) : sF f b (n + 1) = sF f b n + f (b + n) := by
  rw [sF_split, sF_succ, sF_zero]; omega
theorem sF_shift (f : Int → Int) (d : Int) : ∀ (n : Nat) (b : Int), sF (fun i => f (i + d)) b n = sF f (b + d) n := by
  intro n
  induction n with
  | zero => intro b; rfl
  | succ n ih => intro b; rw [sF_succ, sF_succ, ih (b + 1), show b + 1 + d = b + d + 1 by omega]
theorem sF_mul (k : Int) (f : Int → Int) : ∀ (n : Nat) (b : Int), sF (fun i => k * f i) b n = k * sF f b n := by
  intro n
  induction n with
  | zero => intro b; simp [sF]
  | succ n ih => intro b; rw [sF_succ, sF_succ, ih, Int.mul_add]
theorem sF_swap (f : Int → Int → Int) (c : Int) (m : Nat) : ∀ (n : Nat) (b : Int), sF (fun i => sF (fun j => f i j) c m) b n = sF (fun j => sF (fun i => f i j) b n) c m := by
  intro n
  induction n with
  | zero => intro b; exact (sF_z m c (fun _ _ _ => rfl)).symm
  | succ n ih =>
    intro b
    rw [sF_succ, ih, ← sF_add]
    rfl
def Sr (f : Int → Int) (lo hi : Int) : Int := sF f lo (hi + 1 - lo).toNat
theorem Sr_none {f : Int → Int} {lo hi : Int} (h : hi < lo) : Sr f lo hi = 0 := by
  unfold Sr; rw [show (hi + 1 - lo).toNat = 0 by omega]; rfl
theorem Sr_first {f : Int → Int} {lo hi : Int} (h : lo ≤ hi) : Sr f lo hi = f lo + Sr f (lo + 1) hi := by
  unfold Sr
  rw [show (hi + 1 - lo).toNat = (hi + 1 - (lo + 1)).toNat + 1 by omega, sF_succ]
theorem Sr_last {f : Int → Int} {lo hi : Int} (h : lo ≤ hi) : Sr f lo hi = Sr f lo (hi - 1) + f hi := by
  unfold Sr
  rw [show (hi + 1 - lo).toNat = (hi - 1 + 1 - lo).toNat + 1 by omega, sF_last, show lo + ((hi - 1 + 1 - lo).toNat : Int) = hi by omega]
theorem Sr_split {f : Int → Int} {lo mid hi : Int} (h1 : lo ≤ mid + 1) (h2 : mid ≤ hi) : Sr f lo hi = Sr f lo mid + Sr f (mid + 1) hi := by
  unfold Sr
  rw [show (hi + 1 - lo).toNat = (mid + 1 - lo).toNat + (hi + 1 - (mid + 1)).toNat by omega, sF_split, show lo + ((mid + 1 - lo).toNat : Int) = mid + 1 by omega]
theorem Sr_big {f : Int → Int} {lo hi B : Int} {n : Nat} (h1 : B ≤ lo) (h2 : hi < B + n) : Sr f lo hi = sF (fun i => if lo ≤ i ∧ i ≤ hi then f i else 0) B n := by
  by_cases e : hi < lo
  · rw [Sr_none e, sF_z]
    intro i _ _
    exact if_neg (by omega)
  · have e1 : n = (lo - B).toNat + ((hi + 1 - lo).toNat + (B + n - (hi + 1)).toNat) := by omega
    rw [e1, sF_split, sF_split, sF_z (lo - B).toNat B (fun i _ _ => if_neg (by omega)), show B + ((lo - B).toNat : Int) = lo by omega, sF_z (B + n - (hi + 1)).toNat _ (fun i _ _ => if_neg (by omega))]
    unfold Sr
    rw [sF_congr (f := fun i => if lo ≤ i ∧ i ≤ hi then f i else 0) (g := f) (hi + 1 - lo).toNat lo (fun i _ _ => if_pos (by omega))]
    omega
theorem Sr_eq {f g : Int → Int} {lo hi lo' hi' : Int} (h : ∀ i : Int, (if lo ≤ i ∧ i ≤ hi then f i else 0) = (if lo' ≤ i ∧ i ≤ hi' then g i else 0)) : Sr f lo hi = Sr g lo' hi' := by
  rw [Sr_big (B := min lo lo') (n := (max hi hi' + 1 - min lo lo').toNat) (by omega) (by omega), Sr_big (lo := lo') (B := min lo lo') (n := (max hi hi' + 1 - min lo lo').toNat) (by omega) (by omega)]
  exact sF_congr _ _ (fun i _ _ => h i)
theorem Sr_congr {f g : Int → Int} {lo hi : Int} (h : ∀ i : Int, lo ≤ i → i ≤ hi → f i = g i) : Sr f lo hi = Sr g lo hi := sF_congr _ _ (fun i q1 q2 => h i q1 (by omega))
theorem Sr_z {f : Int → Int} {lo hi : Int} (h : ∀ i : Int, lo ≤ i → i ≤ hi → f i = 0) : Sr f lo hi = 0 := sF_z _ _ (fun i q1 q2 => h i q1 (by omega))
/-- a sum over a wider range of what is 0 outside -/
theorem Sr_wide {f g : Int → Int} {lo hi lo' hi' : Int} (h1 : lo' ≤ lo) (h2 : hi ≤ hi') (hc : ∀ i : Int, lo ≤ i → i ≤ hi → g i = f i) (hz : ∀ i : Int, lo' ≤ i → i ≤ hi' → ¬ (lo ≤ i ∧ i ≤ hi) → g i = 0) : Sr g lo' hi' = Sr f lo hi := by
  refine Sr_eq (fun i => ?_)
  by_cases e : lo ≤ i ∧ i ≤ hi
  · rw [if_pos e, if_pos (by omega)]; exact hc i e.1 e.2
  · rw [if_neg e]
    by_cases e2 : lo' ≤ i ∧ i ≤ hi'
    · rw [if_pos e2]; exact hz i e2.1 e2.2 e
    · rw [if_neg e2]
theorem Sr_shift (f : Int → Int) (d lo hi : Int) : Sr (fun i => f (i + d)) lo hi = Sr f (lo + d) (hi + d) := by
  unfold Sr
  rw [sF_shift, show (hi + d + 1 - (lo + d)).toNat = (hi + 1 - lo).toNat by omega]
theorem Sr_mul (k : Int) (f : Int → Int) (lo hi : Int) : Sr (fun i => k * f i) lo hi = k * Sr f lo hi := sF_mul k f _ _
theorem Sr_add {f g : Int → Int} {lo hi : Int} : Sr (fun i => f i + g i) lo hi = Sr f lo hi + Sr g lo hi := sF_add _ _
theorem Sr_sub {f g : Int → Int} {lo hi : Int} : Sr (fun i => f i - g i) lo hi = Sr f lo hi - Sr g lo hi := sF_sub _ _
theorem Sr_swap (f : Int → Int → Int) (a b c d : Int) : Sr (fun i => Sr (fun j => f i j) c d) a b = Sr (fun j => Sr (fun i => f i j) a b) c d := sF_swap f c _ _ a
theorem Sr_one {f : Int → Int} {lo hi j : Int} (h1 : lo ≤ j) (h2 : j ≤ hi) (hz : ∀ i : Int, lo ≤ i → i ≤ hi → i ≠ j → f i = 0) : Sr f lo hi = f j := by
  rw [Sr_wide (f := f) (lo := j) (hi := j) h1 h2 (fun i _ _ => rfl) (fun i q1 q2 q3 => hz i q1 q2 (by omega)), Sr_first (by omega), Sr_none (by omega)]
  omega
theorem Sr_nonneg {f : Int → Int} {lo hi : Int} (h : ∀ i : Int, lo ≤ i → i ≤ hi → 0 ≤ f i) : 0 ≤ Sr f lo hi := by
  have := sF_ge f 0 (hi + 1 - lo).toNat lo (fun i q1 q2 => h i q1 (by omega))
  unfold Sr
  omega
theorem Sr_le {f : Int → Int} {lo hi K : Int} (h0 : lo ≤ hi + 1) (h : ∀ i : Int, lo ≤ i → i ≤ hi → f i ≤ K) : Sr f lo hi ≤ K * (hi + 1 - lo) := by
  have := sF_le f K (hi + 1 - lo).toNat lo (fun i q1 q2 => h i q1 (by omega))
  rwa [Int.toNat_of_nonneg (by omega)] at this
theorem Sr_mono {f g : Int → Int} {lo hi : Int} (h : ∀ i : Int, lo ≤ i → i ≤ hi → f i ≤ g i) : Sr f lo hi ≤ Sr g lo hi := sF_mono _ _ (fun i q1 q2 => h i q1 (by omega))
theorem Sr_part {f : Int → Int} {lo hi lo' hi' : Int} (h1 : lo ≤ lo') (h2 : hi' ≤ hi) (h : ∀ i : Int, lo ≤ i → i ≤ hi → 0 ≤ f i) : Sr f lo' hi' ≤ Sr f lo hi := by
  rw [← Sr_wide (f := f) (g := fun i => if lo' ≤ i ∧ i ≤ hi' then f i else 0) h1 h2 (fun i q1 q2 => if_pos ⟨q1, q2⟩) (fun i _ _ q3 => if_neg q3)]
  refine Sr_mono (fun i q1 q2 => ?_)
  have := h i q1 q2
  show (if _ then _ else _) ≤ _
  split <;> omega
