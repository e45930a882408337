/-! bits of sets of eight -/
def ntzA (x0 x1 : Int32) : Int32 := if x0 ≤ iv 4 then x1 + x_iushr x0 (iv 1) else (x1 + iv 2) + x_iushr (x_iushr x0 (iv 2)) (iv 1)
def ntzB (x0 x1 : Int32) : Int32 := if x0 ≤ iv 16 then ntzA x0 x1 else ntzA (x_iushr x0 (iv 4)) (x1 + iv 4)
def ntzC (x0 x1 : Int32) : Int32 := if x0 ≤ iv 256 then ntzB x0 x1 else ntzB (x_iushr x0 (iv 8)) (x1 + iv 8)
def ntzP (x0 : Int32) : Int32 := if 0 < ((x0 ^^^ (iv (-1))) &&& (x0 - (iv 1))) then (if ((x0 ^^^ (iv (-1))) &&& (x0 - (iv 1))) ≤ iv 65536 then ntzC ((x0 ^^^ (iv (-1))) &&& (x0 - (iv 1))) (iv 1) else ntzC (x_iushr ((x0 ^^^ (iv (-1))) &&& (x0 - (iv 1))) (iv 16)) (iv 1 + iv 16)) else ((x0 ^^^ (iv (-1))) &&& (x0 - (iv 1))) &&& (iv 32)
theorem ntzA_eq (x y : Int32) (h : AH) : f_J6_numberOfTrailingZeros_0f7a4_62 x y h = some (ntzA x y, h) := by
  unfold f_J6_numberOfTrailingZeros_0f7a4_62 ntzA
  simp only [nm_eq]
  split <;> rfl
theorem ntzB_eq (x y : Int32) (h : AH) : f_J6_numberOfTrailingZeros_0f7a4_49 x y h = some (ntzB x y, h) := by
  unfold f_J6_numberOfTrailingZeros_0f7a4_49 ntzB
  simp only [nm_eq, ntzA_eq]
  split <;> rfl
theorem ntzC_eq (x y : Int32) (h : AH) : f_J6_numberOfTrailingZeros_0f7a4_34 x y h = some (ntzC x y, h) := by
  unfold f_J6_numberOfTrailingZeros_0f7a4_34 ntzC
  simp only [nm_eq, ntzB_eq]
  split <;> rfl
theorem ntz_eq (x : Int32) (h : AH) : f_J6_numberOfTrailingZeros_0f7a4 x h = some (ntzP x, h) := by
  unfold f_J6_numberOfTrailingZeros_0f7a4 ntzP
  simp only [nm_eq, ntzC_eq]
  split
  · split <;> rfl
  · rfl
def bcP (x0 : Int32) : Int32 :=
  let w1 := x0 - ((x_iushr x0 (iv 1)) &&& (iv 1431655765))
  let w2 := (w1 &&& (iv 858993459)) + ((x_iushr w1 (iv 2)) &&& (iv 858993459))
  let w3 := (w2 + (x_iushr w2 (iv 4))) &&& (iv 252645135)
  let w4 := w3 + (x_iushr w3 (iv 8))
  let w5 := w4 + (x_iushr w4 (iv 16))
  w5 &&& (iv 63)
theorem bc_eq (x : Int32) (h : AH) : f_J6_bitCount_0f7a4 x h = some (bcP x, h) := by
  unfold f_J6_bitCount_0f7a4 bcP
  simp only [nm_eq]
theorem ivb {d : Nat} (hd : d < 256) {j : Int} (j0 : 0 ≤ j) (j1 : j ≤ 11) : bt (iv (d : Int)) j ↔ d.testBit j.toNat = true := by
  rw [bt_iff _ j0 j1]
  have : (iv (d : Int)).toBitVec = BitVec.ofNat 32 d := by
    show BitVec.ofInt 32 (d : Int) = _
    exact BitVec.ofInt_natCast 32 d
  rw [this, BitVec.getLsbD_ofNat]
  have : j.toNat < 32 := by omega
  simp [this]
def tzN (d : Nat) : Nat := if d.testBit 0 then 0 else if d.testBit 1 then 1 else if d.testBit 2 then 2 else if d.testBit 3 then 3 else if d.testBit 4 then 4 else if d.testBit 5 then 5 else if d.testBit 6 then 6 else 7
theorem B1 : ∀ d : Fin 256, d.val = 0 ∨ (ntzP (iv (d.val : Int)) = iv (tzN d.val : Int) ∧ tzN d.val < 8 ∧ d.val.testBit (tzN d.val) = true ∧ (iv (d.val : Int) &&& (iv (d.val : Int) - iv 1)) = iv ((d.val &&& (d.val - 1) : Nat) : Int) ∧ (d.val &&& (d.val - 1)) < d.val ∧ ∀ j : Fin 12, (d.val &&& (d.val - 1)).testBit j.val = (d.val.testBit j.val && decide (j.val ≠ tzN d.val))) := by
  decide +kernel
theorem B2 : ∀ d : Fin 256, ∀ k : Fin 8, (iv (d.val : Int) ||| (iv 1 <<< (iv (k.val : Int) &&& 31))) = iv ((d.val ||| 2 ^ k.val : Nat) : Int) ∧ (d.val ||| 2 ^ k.val) < 256 := by
  decide +kernel
def onP (v : Int32) : Nat → Int32
  | 0 => iv 0
  | k + 1 => onP v k + ((v >>> (iv (k : Int) &&& 31)) &&& iv 1)
theorem B3 : ∀ d : Fin 256, bcP (iv (d.val : Int)) = onP (iv (d.val : Int)) 12 ∧ ∃ n : Fin 9, onP (iv (d.val : Int)) 12 = iv (n.val : Int) := by
  decide +kernel
