/-! sums from a place on; bits -/
def sF (f : Int → Int) (b : Int) : Nat → Int
  | 0 => 0
  | n + 1 => f b + sF f (b + 1) n
theorem sF_zero (f : Int → Int) (b : Int) : sF f b 0 = 0 := rfl
theorem sF_succ (f : Int → Int) (b : Int) (n : Nat) : sF f b (n + 1) = f b + sF f (b + 1) n := rfl
theorem sF_ge (f : Int → Int) (lo : Int) : ∀ (n : Nat) (b : Int), (∀ i : Int, b ≤ i → i < b + n → lo ≤ f i) → lo * n ≤ sF f b n := by
  intro n
  induction n with
  | zero => intro b _; simp [sF]
  | succ n ih =>
    intro b h
    have h1 := h b (by omega) (by omega)
    have h2 := ih (b + 1) (fun i q1 q2 => h i (by omega) (by omega))
    rw [sF_succ]
    have e : lo * ((n + 1 : Nat) : Int) = lo * n + lo := by rw [Int.natCast_add, Int.mul_add]; simp
    omega
theorem sF_le (f : Int → Int) (hi : Int) : ∀ (n : Nat) (b : Int), (∀ i : Int, b ≤ i → i < b + n → f i ≤ hi) → sF f b n ≤ hi * n := by
  intro n
  induction n with
  | zero => intro b _; simp [sF]
  | succ n ih =>
    intro b h
    have h1 := h b (by omega) (by omega)
    have h2 := ih (b + 1) (fun i q1 q2 => h i (by omega) (by omega))
    rw [sF_succ]
    have e : hi * ((n + 1 : Nat) : Int) = hi * n + hi := by rw [Int.natCast_add, Int.mul_add]; simp
    omega
theorem sF_congr {f g : Int → Int} : ∀ (n : Nat) (b : Int), (∀ i : Int, b ≤ i → i < b + n → f i = g i) → sF f b n = sF g b n := by
  intro n
  induction n with
  | zero => intro b _; rfl
  | succ n ih =>
    intro b h
    rw [sF_succ, sF_succ, h b (by omega) (by omega), ih (b + 1) (fun i q1 q2 => h i (by omega) (by omega))]
theorem sF_add {f g : Int → Int} : ∀ (n : Nat) (b : Int), sF (fun i => f i + g i) b n = sF f b n + sF g b n := by
  intro n
  induction n with
  | zero => intro b; rfl
  | succ n ih => intro b; rw [sF_succ, sF_succ, sF_succ, ih]; omega
theorem sF_sub {f g : Int → Int} : ∀ (n : Nat) (b : Int), sF (fun i => f i - g i) b n = sF f b n - sF g b n := by
  intro n
  induction n with
  | zero => intro b; rfl
  | succ n ih => intro b; rw [sF_succ, sF_succ, sF_succ, ih]; omega
theorem sF_mono {f g : Int → Int} : ∀ (n : Nat) (b : Int), (∀ i : Int, b ≤ i → i < b + n → f i ≤ g i) → sF f b n ≤ sF g b n := by
  intro n
  induction n with
  | zero => intro b _; exact Int.le_refl _
  | succ n ih =>
    intro b h
    have h1 := h b (by omega) (by omega)
    have h2 := ih (b + 1) (fun i q1 q2 => h i (by omega) (by omega))
    rw [sF_succ, sF_succ]
    omega
/-- a sum above 0 has a part above 0 -/
theorem sF_pos {f : Int → Int} : ∀ (n : Nat) (b : Int), 0 < sF f b n → ∃ i : Int, b ≤ i ∧ i < b + n ∧ 0 < f i := by
  intro n
  induction n with
  | zero => intro b h; exact absurd h (by simp [sF])
  | succ n ih =>
    intro b h
    by_cases q : 0 < f b
    · exact ⟨b, by omega, by omega, q⟩
    · rw [sF_succ] at h
      obtain ⟨i, i1, i2, i3⟩ := ih (b + 1) (by omega)
      exact ⟨i, by omega, by omega, i3⟩
def tbit (x : Int32) (b : Int) : Bool := x.toBitVec.getLsbD b.toNat
theorem sh_amt : ∀ n : Fin 32, (iv (n.val : Int) &&& 31).toBitVec.smod 32 = BitVec.ofNat 32 n.val := by decide
theorem sh_amt' {b : Int} (h1 : 0 ≤ b) (h2 : b < 32) : (iv b &&& 31).toBitVec.smod 32 = BitVec.ofNat 32 b.toNat := by
  have := sh_amt ⟨b.toNat, by omega⟩
  simpa [Int.toNat_of_nonneg h1] using this
theorem and_one (y : BitVec 32) : (y &&& 1#32 = 0#32) ↔ y.getLsbD 0 = false := by
  constructor
  · intro h
    have := congrArg (fun z : BitVec 32 => z.getLsbD 0) h
    simpa using this
  · intro h
    apply BitVec.eq_of_getLsbD_eq
    intro i hi
    rw [BitVec.getLsbD_and, BitVec.getLsbD_one]
    by_cases e : i = 0
    · subst e; rw [h]; simp
    · simp [e]
theorem and_one' (y : BitVec 32) : (y &&& 1#32 = 1#32) ↔ y.getLsbD 0 = true := by
  constructor
  · intro h
    have := congrArg (fun z : BitVec 32 => z.getLsbD 0) h
    simpa using this
  · intro h
    apply BitVec.eq_of_getLsbD_eq
    intro i hi
    rw [BitVec.getLsbD_and, BitVec.getLsbD_one]
    by_cases e : i = 0
    · subst e; simp [h]
    · simp [e]
theorem shr_bit {x : Int32} {b : Int} (h1 : 0 ≤ b) (h2 : b < 32) : (x >>> (iv b &&& 31)).toBitVec.getLsbD 0 = tbit x b := by
  rw [Int32.toBitVec_shiftRight, sh_amt' h1 h2]
  unfold tbit
  rw [BitVec.sshiftRight_eq', BitVec.getLsbD_sshiftRight]
  have : b.toNat < 32 := by omega
  have e : (BitVec.ofNat 32 b.toNat).toNat = b.toNat := by rw [BitVec.toNat_ofNat]; exact Nat.mod_eq_of_lt (by omega)
  rw [e, if_pos (by omega), Nat.add_zero]
  show (true && _) = _
  rw [Bool.true_and]
theorem bit0 {x : Int32} {b : Int} (h1 : 0 ≤ b) (h2 : b < 32) : (((x >>> (iv b &&& 31)) &&& iv 1) = iv 0) = (tbit x b = false) := by
  apply propext
  rw [← shr_bit h1 h2, ← and_one, ← Int32.toBitVec_inj, Int32.toBitVec_and]
  rfl
theorem bit1 {x : Int32} {b : Int} (h1 : 0 ≤ b) (h2 : b < 32) : (((x >>> (iv b &&& 31)) &&& iv 1) = iv 1) = (tbit x b = true) := by
  apply propext
  rw [← shr_bit h1 h2, ← and_one', ← Int32.toBitVec_inj, Int32.toBitVec_and]
  rfl
theorem tbit_or (x y : Int32) (b : Int) : tbit (x ||| y) b = (tbit x b || tbit y b) := by
  unfold tbit
  rw [Int32.toBitVec_or, BitVec.getLsbD_or]
theorem tbit_and (x y : Int32) (b : Int) : tbit (x &&& y) b = (tbit x b && tbit y b) := by
  unfold tbit
  rw [Int32.toBitVec_and, BitVec.getLsbD_and]
theorem tbit_0 (b : Int) : tbit (iv 0) b = false := by
  unfold tbit
  show (0#32).getLsbD _ = false
  simp
theorem tbit_shl {a b : Int} (h1 : 0 ≤ a) (h2 : a < 32) (h3 : 0 ≤ b) (h4 : b < 32) : tbit (iv 1 <<< (iv a &&& 31)) b = decide (b = a) := by
  unfold tbit
  rw [Int32.toBitVec_shiftLeft, sh_amt' h1 h2, BitVec.shiftLeft_eq', BitVec.getLsbD_shiftLeft]
  show (decide _ && !decide _ && (1#32).getLsbD _) = _
  rw [BitVec.getLsbD_one]
  have e : (BitVec.ofNat 32 a.toNat).toNat = a.toNat := by
    rw [BitVec.toNat_ofNat]; exact Nat.mod_eq_of_lt (by omega)
  rw [e]
  by_cases q : b = a
  · subst q; simp; omega
  · simp [q]; omega
