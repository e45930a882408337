/-! the law's loop -/
section Q
variable {w : WD} {A : Int → Nat} {h : AH}
def GoL (k18 : Nat → Nat → Nat → Int32 → AH → Option (Int32 × AH)) (p : Int) (h : AH) (X : Option (Int32 × AH)) : Prop := ∃ (h2 : AH) (w' : WD) (A' : Int → Nat), X = k18 2 3 91 (iv p + iv 6) h2 ∧ Sim w' A' h2 ∧ Ext h h2
theorem lgs (r : Int64) : (lg_cmp r r = 0) = True := by
  obtain ⟨z, rfl, z1, z2⟩ := jv_ex r
  have := lc_eq (a := z) (b := z) ⟨⟨z1, z2⟩, z1, z2⟩
  rw [eq_self] at this
  exact this
theorem of_iv (n : Nat) : Int32.ofNat n = iv (n : Int) := Int32.toBitVec_inj.1 (show BitVec.ofNat 32 n = BitVec.ofInt 32 (n : Int) from (BitVec.ofInt_natCast 32 n).symm)
theorem ib6 {p j : Int} {L : Nat} (p0 : 0 ≤ p) (j0 : 0 ≤ j) (hp : p + j < L) (hL : L ≤ 3072) : ib (iv p + iv j) L = true := by
  rw [iv_add]; exact ib_iv (by omega) hp (by omega)
theorem L_212 (hS : Sim w A h) {p : Int} (p0 : 0 ≤ p) (hp : p + 6 ≤ gN h 2) (hL : gN h 2 ≤ 3072) (k18 : Nat → Nat → Nat → Int32 → AH → Option (Int32 × AH)) : GoL k18 p h (f_L_law_212 k18 2 3 91 (iv p) h) := by
  obtain ⟨r, h1, h2, w', A', e1, e2, sim, ext, b1, b2, b3⟩ := M_feed hS (gI h 2 ((iv p + (iv 1))).toNatClampNeg) (gI h 2 ((iv p + (iv 2))).toNatClampNeg)
  refine ⟨h2, w', A', ?_, sim, ext⟩
  have i1 := ib6 (j := 1) p0 (by omega) (show p + 1 < (gN h 2 : Nat) by omega) hL
  have i2 := ib6 (j := 2) p0 (by omega) (show p + 2 < (gN h 2 : Nat) by omega) hL
  simp only [F_f_L_law_212, k_L_law_212_1, k_L_law_212_2, f_L_law_1917, i1, i2, K3 hS.F, e1, b1, b2, b3, e2, lgs, some_cb, nm_eq, true_and, and_true, and_self, ↓reduceIte]
theorem L_245 (hS : Sim w A h) {p : Int} (p0 : 0 ≤ p) (hp : p + 6 ≤ gN h 2) (hL : gN h 2 ≤ 3072) (k18 : Nat → Nat → Nat → Int32 → AH → Option (Int32 × AH)) : GoL k18 p h (f_L_law_245 k18 2 3 91 (iv p) h) := by
  obtain ⟨r, h1, h2, w', A', e1, e2, sim, ext, b1, b2, b3⟩ := M_matter hS
  refine ⟨h2, w', A', ?_, sim, ext⟩
  simp only [F_f_L_law_245, k_L_law_245_1, k_L_law_245_2, f_L_law_1917, some_cb, K3 hS.F, e1, b1, b2, b3, e2, lgs, some_cb, nm_eq, true_and, and_true, and_self, ↓reduceIte]
theorem L_258 (hS : Sim w A h) {p : Int} (p0 : 0 ≤ p) (hp : p + 6 ≤ gN h 2) (hL : gN h 2 ≤ 3072) (k18 : Nat → Nat → Nat → Int32 → AH → Option (Int32 × AH)) : GoL k18 p h (f_L_law_258 k18 2 3 91 (iv p) h) := by
  obtain ⟨r, h1, h2, w', A', e1, e2, sim, ext, b1, b2, b3⟩ := M_of hS (gI h 2 ((iv p + (iv 1))).toNatClampNeg) (gI h 2 ((iv p + (iv 2))).toNatClampNeg)
  refine ⟨h2, w', A', ?_, sim, ext⟩
  have i1 := ib6 (j := 1) p0 (by omega) (show p + 1 < (gN h 2 : Nat) by omega) hL
  have i2 := ib6 (j := 2) p0 (by omega) (show p + 2 < (gN h 2 : Nat) by omega) hL
  simp only [F_f_L_law_258, k_L_law_258_1, k_L_law_258_2, f_L_law_1917, i1, i2, K3 hS.F, e1, b1, b2, b3, e2, lgs, some_cb, nm_eq, true_and, and_true, and_self, ↓reduceIte]
theorem L_291 (hS : Sim w A h) {p : Int} (p0 : 0 ≤ p) (hp : p + 6 ≤ gN h 2) (hL : gN h 2 ≤ 3072) (k18 : Nat → Nat → Nat → Int32 → AH → Option (Int32 × AH)) : GoL k18 p h (f_L_law_291 k18 2 3 91 (iv p) h) := by
  obtain ⟨r, h1, h2, w', A', e1, e2, sim, ext, b1, b2, b3⟩ := M_sum hS (gI h 2 ((iv p + (iv 1))).toNatClampNeg) (gI h 2 ((iv p + (iv 2))).toNatClampNeg)
  refine ⟨h2, w', A', ?_, sim, ext⟩
  have i1 := ib6 (j := 1) p0 (by omega) (show p + 1 < (gN h 2 : Nat) by omega) hL
  have i2 := ib6 (j := 2) p0 (by omega) (show p + 2 < (gN h 2 : Nat) by omega) hL
  simp only [F_f_L_law_291, k_L_law_291_1, k_L_law_291_2, f_L_law_1917, i1, i2, K3 hS.F, e1, b1, b2, b3, e2, lgs, some_cb, nm_eq, true_and, and_true, and_self, ↓reduceIte]
theorem L_324 (hS : Sim w A h) {p : Int} (p0 : 0 ≤ p) (hp : p + 6 ≤ gN h 2) (hL : gN h 2 ≤ 3072) (k18 : Nat → Nat → Nat → Int32 → AH → Option (Int32 × AH)) : GoL k18 p h (f_L_law_324 k18 2 3 91 (iv p) h) := by
  obtain ⟨r, h1, h2, w', A', e1, e2, sim, ext, b1, b2, b3⟩ := M_many hS (gI h 2 ((iv p + (iv 1))).toNatClampNeg)
  refine ⟨h2, w', A', ?_, sim, ext⟩
  have i1 := ib6 (j := 1) p0 (by omega) (show p + 1 < (gN h 2 : Nat) by omega) hL
  simp only [F_f_L_law_324, k_L_law_324_1, k_L_law_324_2, f_L_law_1917, i1, K3 hS.F, e1, b1, b2, b3, e2, lgs, some_cb, nm_eq, true_and, and_true, and_self, ↓reduceIte]
theorem L_348 (hS : Sim w A h) {p : Int} (p0 : 0 ≤ p) (hp : p + 6 ≤ gN h 2) (hL : gN h 2 ≤ 3072) (k18 : Nat → Nat → Nat → Int32 → AH → Option (Int32 × AH)) : GoL k18 p h (f_L_law_348 k18 2 3 91 (iv p) h) := by
  obtain ⟨r, h1, h2, w', A', e1, e2, sim, ext, b1, b2, b3⟩ := M_table hS (gI h 2 ((iv p + (iv 1))).toNatClampNeg) ((x_lshl ((gI h 2 ((iv p + (iv 2))).toNatClampNeg)).toInt64 (iv 32)) ||| (((gI h 2 ((iv p + (iv 3))).toNatClampNeg)).toInt64 &&& (jv 4294967295))) (gI h 2 ((iv p + (iv 4))).toNatClampNeg)
  refine ⟨h2, w', A', ?_, sim, ext⟩
  have i1 := ib6 (j := 1) p0 (by omega) (show p + 1 < (gN h 2 : Nat) by omega) hL
  have i2 := ib6 (j := 2) p0 (by omega) (show p + 2 < (gN h 2 : Nat) by omega) hL
  have i3 := ib6 (j := 3) p0 (by omega) (show p + 3 < (gN h 2 : Nat) by omega) hL
  have i4 := ib6 (j := 4) p0 (by omega) (show p + 4 < (gN h 2 : Nat) by omega) hL
  simp only [F_f_L_law_348, k_L_law_348_1, k_L_law_348_2, f_L_law_1917, i1, i2, i3, i4, K3 hS.F, e1, b1, b2, b3, e2, lgs, some_cb, nm_eq, true_and, and_true, and_self, ↓reduceIte]
theorem L_421 (hS : Sim w A h) {p : Int} (p0 : 0 ≤ p) (hp : p + 6 ≤ gN h 2) (hL : gN h 2 ≤ 3072) (k18 : Nat → Nat → Nat → Int32 → AH → Option (Int32 × AH)) : GoL k18 p h (f_L_law_421 k18 2 3 91 (iv p) h) := by
  obtain ⟨r, h1, h2, w', A', e1, e2, sim, ext, b1, b2, b3⟩ := M_drawn hS (gI h 2 ((iv p + (iv 1))).toNatClampNeg) ((x_lshl ((gI h 2 ((iv p + (iv 2))).toNatClampNeg)).toInt64 (iv 32)) ||| (((gI h 2 ((iv p + (iv 3))).toNatClampNeg)).toInt64 &&& (jv 4294967295))) (gI h 2 ((iv p + (iv 4))).toNatClampNeg)
  refine ⟨h2, w', A', ?_, sim, ext⟩
  have i1 := ib6 (j := 1) p0 (by omega) (show p + 1 < (gN h 2 : Nat) by omega) hL
  have i2 := ib6 (j := 2) p0 (by omega) (show p + 2 < (gN h 2 : Nat) by omega) hL
  have i3 := ib6 (j := 3) p0 (by omega) (show p + 3 < (gN h 2 : Nat) by omega) hL
  have i4 := ib6 (j := 4) p0 (by omega) (show p + 4 < (gN h 2 : Nat) by omega) hL
  simp only [F_f_L_law_421, k_L_law_421_1, k_L_law_421_2, f_L_law_1917, i1, i2, i3, i4, K3 hS.F, e1, b1, b2, b3, e2, lgs, some_cb, nm_eq, true_and, and_true, and_self, ↓reduceIte]
theorem L_494 (hS : Sim w A h) {p : Int} (p0 : 0 ≤ p) (hp : p + 6 ≤ gN h 2) (hL : gN h 2 ≤ 3072) (k18 : Nat → Nat → Nat → Int32 → AH → Option (Int32 × AH)) : GoL k18 p h (f_L_law_494 k18 2 3 91 (iv p) h) := by
  obtain ⟨r, h1, h2, w', A', e1, e2, sim, ext, b1, b2, b3⟩ := M_may hS (gI h 2 ((iv p + (iv 1))).toNatClampNeg) (gI h 2 ((iv p + (iv 2))).toNatClampNeg) (gI h 2 ((iv p + (iv 3))).toNatClampNeg)
  refine ⟨h2, w', A', ?_, sim, ext⟩
  have i1 := ib6 (j := 1) p0 (by omega) (show p + 1 < (gN h 2 : Nat) by omega) hL
  have i2 := ib6 (j := 2) p0 (by omega) (show p + 2 < (gN h 2 : Nat) by omega) hL
  have i3 := ib6 (j := 3) p0 (by omega) (show p + 3 < (gN h 2 : Nat) by omega) hL
  simp only [F_f_L_law_494, k_L_law_494_1, k_L_law_494_2, f_L_law_1917, i1, i2, i3, K3 hS.F, e1, b1, b2, b3, e2, lgs, some_cb, nm_eq, true_and, and_true, and_self, ↓reduceIte]
theorem L_537 (hS : Sim w A h) {p : Int} (p0 : 0 ≤ p) (hp : p + 6 ≤ gN h 2) (hL : gN h 2 ≤ 3072) (k18 : Nat → Nat → Nat → Int32 → AH → Option (Int32 × AH)) : GoL k18 p h (f_L_law_537 k18 2 3 91 (iv p) h) := by
  obtain ⟨r, h1, h2, w', A', e1, e2, sim, ext, b1, b2, b3⟩ := M_open hS (gI h 2 ((iv p + (iv 1))).toNatClampNeg) (gI h 2 ((iv p + (iv 2))).toNatClampNeg) (gI h 2 ((iv p + (iv 3))).toNatClampNeg)
  refine ⟨h2, w', A', ?_, sim, ext⟩
  have i1 := ib6 (j := 1) p0 (by omega) (show p + 1 < (gN h 2 : Nat) by omega) hL
  have i2 := ib6 (j := 2) p0 (by omega) (show p + 2 < (gN h 2 : Nat) by omega) hL
  have i3 := ib6 (j := 3) p0 (by omega) (show p + 3 < (gN h 2 : Nat) by omega) hL
  simp only [F_f_L_law_537, k_L_law_537_1, k_L_law_537_2, f_L_law_1917, i1, i2, i3, K3 hS.F, e1, b1, b2, b3, e2, lgs, some_cb, nm_eq, true_and, and_true, and_self, ↓reduceIte]
theorem L_580 (hS : Sim w A h) {p : Int} (p0 : 0 ≤ p) (hp : p + 6 ≤ gN h 2) (hL : gN h 2 ≤ 3072) (k18 : Nat → Nat → Nat → Int32 → AH → Option (Int32 × AH)) : GoL k18 p h (f_L_law_580 k18 2 3 91 (iv p) h) := by
  obtain ⟨r, h1, h2, w', A', e1, e2, sim, ext, b1, b2, b3⟩ := M_ends hS (gI h 2 ((iv p + (iv 1))).toNatClampNeg) (gI h 2 ((iv p + (iv 2))).toNatClampNeg) (gI h 2 ((iv p + (iv 3))).toNatClampNeg)
  refine ⟨h2, w', A', ?_, sim, ext⟩
  have i1 := ib6 (j := 1) p0 (by omega) (show p + 1 < (gN h 2 : Nat) by omega) hL
  have i2 := ib6 (j := 2) p0 (by omega) (show p + 2 < (gN h 2 : Nat) by omega) hL
  have i3 := ib6 (j := 3) p0 (by omega) (show p + 3 < (gN h 2 : Nat) by omega) hL
  simp only [F_f_L_law_580, k_L_law_580_1, k_L_law_580_2, f_L_law_1917, i1, i2, i3, K3 hS.F, e1, b1, b2, b3, e2, lgs, some_cb, nm_eq, true_and, and_true, and_self, ↓reduceIte]
theorem L_623 (hS : Sim w A h) {p : Int} (p0 : 0 ≤ p) (hp : p + 6 ≤ gN h 2) (hL : gN h 2 ≤ 3072) (k18 : Nat → Nat → Nat → Int32 → AH → Option (Int32 × AH)) : GoL k18 p h (f_L_law_623 k18 2 3 91 (iv p) h) := by
  obtain ⟨r, h1, h2, w', A', e1, e2, sim, ext, b1, b2, b3⟩ := M_inAll hS (gI h 2 ((iv p + (iv 1))).toNatClampNeg) (gI h 2 ((iv p + (iv 2))).toNatClampNeg) (gI h 2 ((iv p + (iv 3))).toNatClampNeg)
  refine ⟨h2, w', A', ?_, sim, ext⟩
  have i1 := ib6 (j := 1) p0 (by omega) (show p + 1 < (gN h 2 : Nat) by omega) hL
  have i2 := ib6 (j := 2) p0 (by omega) (show p + 2 < (gN h 2 : Nat) by omega) hL
  have i3 := ib6 (j := 3) p0 (by omega) (show p + 3 < (gN h 2 : Nat) by omega) hL
  simp only [F_f_L_law_623, k_L_law_623_1, k_L_law_623_2, f_L_law_1917, i1, i2, i3, K3 hS.F, e1, b1, b2, b3, e2, lgs, some_cb, nm_eq, true_and, and_true, and_self, ↓reduceIte]
theorem L_666 (hS : Sim w A h) {p : Int} (p0 : 0 ≤ p) (hp : p + 6 ≤ gN h 2) (hL : gN h 2 ≤ 3072) (k18 : Nat → Nat → Nat → Int32 → AH → Option (Int32 × AH)) : GoL k18 p h (f_L_law_666 k18 2 3 91 (iv p) h) := by
  obtain ⟨r, h1, h2, w', A', e1, e2, sim, ext, b1, b2, b3⟩ := M_sure hS (gI h 2 ((iv p + (iv 1))).toNatClampNeg) (gI h 2 ((iv p + (iv 2))).toNatClampNeg)
  refine ⟨h2, w', A', ?_, sim, ext⟩
  have i1 := ib6 (j := 1) p0 (by omega) (show p + 1 < (gN h 2 : Nat) by omega) hL
  have i2 := ib6 (j := 2) p0 (by omega) (show p + 2 < (gN h 2 : Nat) by omega) hL
  simp only [F_f_L_law_666, k_L_law_666_1, k_L_law_666_2, f_L_law_1917, i1, i2, K3 hS.F, e1, b1, b2, b3, e2, lgs, some_cb, nm_eq, true_and, and_true, and_self, ↓reduceIte]
theorem L_699 (hS : Sim w A h) {p : Int} (p0 : 0 ≤ p) (hp : p + 6 ≤ gN h 2) (hL : gN h 2 ≤ 3072) (k18 : Nat → Nat → Nat → Int32 → AH → Option (Int32 × AH)) : GoL k18 p h (f_L_law_699 k18 2 3 91 (iv p) h) := by
  obtain ⟨r, h1, h2, w', A', e1, e2, sim, ext, b1, b2, b3⟩ := M_next hS (gI h 2 ((iv p + (iv 1))).toNatClampNeg) (gI h 2 ((iv p + (iv 2))).toNatClampNeg)
  refine ⟨h2, w', A', ?_, sim, ext⟩
  have i1 := ib6 (j := 1) p0 (by omega) (show p + 1 < (gN h 2 : Nat) by omega) hL
  have i2 := ib6 (j := 2) p0 (by omega) (show p + 2 < (gN h 2 : Nat) by omega) hL
  simp only [F_f_L_law_699, k_L_law_699_1, k_L_law_699_2, f_L_law_1917, i1, i2, K3 hS.F, e1, b1, b2, b3, e2, lgs, some_cb, nm_eq, true_and, and_true, and_self, ↓reduceIte]
theorem L_732 (hS : Sim w A h) {p : Int} (p0 : 0 ≤ p) (hp : p + 6 ≤ gN h 2) (hL : gN h 2 ≤ 3072) (k18 : Nat → Nat → Nat → Int32 → AH → Option (Int32 × AH)) : GoL k18 p h (f_L_law_732 k18 2 3 91 (iv p) h) := by
  obtain ⟨r, h1, h2, w', A', e1, e2, sim, ext, b1, b2, b3⟩ := M_opens hS (gI h 2 ((iv p + (iv 1))).toNatClampNeg) (gI h 2 ((iv p + (iv 2))).toNatClampNeg) (gI h 2 ((iv p + (iv 3))).toNatClampNeg)
  refine ⟨h2, w', A', ?_, sim, ext⟩
  have i1 := ib6 (j := 1) p0 (by omega) (show p + 1 < (gN h 2 : Nat) by omega) hL
  have i2 := ib6 (j := 2) p0 (by omega) (show p + 2 < (gN h 2 : Nat) by omega) hL
  have i3 := ib6 (j := 3) p0 (by omega) (show p + 3 < (gN h 2 : Nat) by omega) hL
  simp only [F_f_L_law_732, k_L_law_732_1, k_L_law_732_2, f_L_law_1917, i1, i2, i3, K3 hS.F, e1, b1, b2, b3, e2, lgs, some_cb, nm_eq, true_and, and_true, and_self, ↓reduceIte]
theorem L_775 (hS : Sim w A h) {p : Int} (p0 : 0 ≤ p) (hp : p + 6 ≤ gN h 2) (hL : gN h 2 ≤ 3072) (k18 : Nat → Nat → Nat → Int32 → AH → Option (Int32 × AH)) : GoL k18 p h (f_L_law_775 k18 2 3 91 (iv p) h) := by
  obtain ⟨r, h1, h2, w', A', e1, e2, sim, ext, b1, b2, b3⟩ := M_hold hS (gI h 2 ((iv p + (iv 1))).toNatClampNeg) (gI h 2 ((iv p + (iv 2))).toNatClampNeg) (gI h 2 ((iv p + (iv 3))).toNatClampNeg) (gI h 2 ((iv p + (iv 4))).toNatClampNeg) (gI h 2 ((iv p + (iv 5))).toNatClampNeg)
  refine ⟨h2, w', A', ?_, sim, ext⟩
  have i1 := ib6 (j := 1) p0 (by omega) (show p + 1 < (gN h 2 : Nat) by omega) hL
  have i2 := ib6 (j := 2) p0 (by omega) (show p + 2 < (gN h 2 : Nat) by omega) hL
  have i3 := ib6 (j := 3) p0 (by omega) (show p + 3 < (gN h 2 : Nat) by omega) hL
  have i4 := ib6 (j := 4) p0 (by omega) (show p + 4 < (gN h 2 : Nat) by omega) hL
  have i5 := ib6 (j := 5) p0 (by omega) (show p + 5 < (gN h 2 : Nat) by omega) hL
  simp only [F_f_L_law_775, k_L_law_775_1, k_L_law_775_2, f_L_law_1917, i1, i2, i3, i4, i5, K3 hS.F, e1, b1, b2, b3, e2, lgs, some_cb, nm_eq, true_and, and_true, and_self, ↓reduceIte]
theorem L_838 (hS : Sim w A h) {p : Int} (p0 : 0 ≤ p) (hp : p + 6 ≤ gN h 2) (hL : gN h 2 ≤ 3072) (k18 : Nat → Nat → Nat → Int32 → AH → Option (Int32 × AH)) : GoL k18 p h (f_L_law_838 k18 2 3 91 (iv p) h) := by
  obtain ⟨r, h1, h2, w', A', e1, e2, sim, ext, b1, b2, b3⟩ := M_by hS (gI h 2 ((iv p + (iv 1))).toNatClampNeg) (gI h 2 ((iv p + (iv 2))).toNatClampNeg) (gI h 2 ((iv p + (iv 3))).toNatClampNeg) (gI h 2 ((iv p + (iv 4))).toNatClampNeg)
  refine ⟨h2, w', A', ?_, sim, ext⟩
  have i1 := ib6 (j := 1) p0 (by omega) (show p + 1 < (gN h 2 : Nat) by omega) hL
  have i2 := ib6 (j := 2) p0 (by omega) (show p + 2 < (gN h 2 : Nat) by omega) hL
  have i3 := ib6 (j := 3) p0 (by omega) (show p + 3 < (gN h 2 : Nat) by omega) hL
  have i4 := ib6 (j := 4) p0 (by omega) (show p + 4 < (gN h 2 : Nat) by omega) hL
  simp only [F_f_L_law_838, k_L_law_838_1, k_L_law_838_2, f_L_law_1917, i1, i2, i3, i4, K3 hS.F, e1, b1, b2, b3, e2, lgs, some_cb, nm_eq, true_and, and_true, and_self, ↓reduceIte]
theorem L_891 (hS : Sim w A h) {p : Int} (p0 : 0 ≤ p) (hp : p + 6 ≤ gN h 2) (hL : gN h 2 ≤ 3072) (k18 : Nat → Nat → Nat → Int32 → AH → Option (Int32 × AH)) : GoL k18 p h (f_L_law_891 k18 2 3 91 (iv p) h) := by
  obtain ⟨r, h1, h2, w', A', e1, e2, sim, ext, b1, b2, b3⟩ := M_none hS (gI h 2 ((iv p + (iv 1))).toNatClampNeg) (gI h 2 ((iv p + (iv 2))).toNatClampNeg)
  refine ⟨h2, w', A', ?_, sim, ext⟩
  have i1 := ib6 (j := 1) p0 (by omega) (show p + 1 < (gN h 2 : Nat) by omega) hL
  have i2 := ib6 (j := 2) p0 (by omega) (show p + 2 < (gN h 2 : Nat) by omega) hL
  simp only [F_f_L_law_891, k_L_law_891_1, k_L_law_891_2, f_L_law_1917, i1, i2, K3 hS.F, e1, b1, b2, b3, e2, lgs, some_cb, nm_eq, true_and, and_true, and_self, ↓reduceIte]
theorem L_924 (hS : Sim w A h) {p : Int} (p0 : 0 ≤ p) (hp : p + 6 ≤ gN h 2) (hL : gN h 2 ≤ 3072) (k18 : Nat → Nat → Nat → Int32 → AH → Option (Int32 × AH)) : GoL k18 p h (f_L_law_924 k18 2 3 91 (iv p) h) := by
  obtain ⟨r, h1, h2, w', A', e1, e2, sim, ext, b1, b2, b3⟩ := M_claim hS (gI h 2 ((iv p + (iv 1))).toNatClampNeg) (gI h 2 ((iv p + (iv 2))).toNatClampNeg) (gI h 2 ((iv p + (iv 3))).toNatClampNeg) (gI h 2 ((iv p + (iv 4))).toNatClampNeg)
  refine ⟨h2, w', A', ?_, sim, ext⟩
  have i1 := ib6 (j := 1) p0 (by omega) (show p + 1 < (gN h 2 : Nat) by omega) hL
  have i2 := ib6 (j := 2) p0 (by omega) (show p + 2 < (gN h 2 : Nat) by omega) hL
  have i3 := ib6 (j := 3) p0 (by omega) (show p + 3 < (gN h 2 : Nat) by omega) hL
  have i4 := ib6 (j := 4) p0 (by omega) (show p + 4 < (gN h 2 : Nat) by omega) hL
  simp only [F_f_L_law_924, k_L_law_924_1, k_L_law_924_2, f_L_law_1917, i1, i2, i3, i4, K3 hS.F, e1, b1, b2, b3, e2, lgs, some_cb, nm_eq, true_and, and_true, and_self, ↓reduceIte]
theorem L_977 (hS : Sim w A h) {p : Int} (p0 : 0 ≤ p) (hp : p + 6 ≤ gN h 2) (hL : gN h 2 ≤ 3072) (k18 : Nat → Nat → Nat → Int32 → AH → Option (Int32 × AH)) : GoL k18 p h (f_L_law_977 k18 2 3 91 (iv p) h) := by
  obtain ⟨r, h1, h2, w', A', e1, e2, sim, ext, b1, b2, b3⟩ := M_must hS (gI h 2 ((iv p + (iv 1))).toNatClampNeg) (gI h 2 ((iv p + (iv 2))).toNatClampNeg) (gI h 2 ((iv p + (iv 3))).toNatClampNeg) (gI h 2 ((iv p + (iv 4))).toNatClampNeg)
  refine ⟨h2, w', A', ?_, sim, ext⟩
  have i1 := ib6 (j := 1) p0 (by omega) (show p + 1 < (gN h 2 : Nat) by omega) hL
  have i2 := ib6 (j := 2) p0 (by omega) (show p + 2 < (gN h 2 : Nat) by omega) hL
  have i3 := ib6 (j := 3) p0 (by omega) (show p + 3 < (gN h 2 : Nat) by omega) hL
  have i4 := ib6 (j := 4) p0 (by omega) (show p + 4 < (gN h 2 : Nat) by omega) hL
  simp only [F_f_L_law_977, k_L_law_977_1, k_L_law_977_2, f_L_law_1917, i1, i2, i3, i4, K3 hS.F, e1, b1, b2, b3, e2, lgs, some_cb, nm_eq, true_and, and_true, and_self, ↓reduceIte]
theorem L_1030 (hS : Sim w A h) {p : Int} (p0 : 0 ≤ p) (hp : p + 6 ≤ gN h 2) (hL : gN h 2 ≤ 3072) (k18 : Nat → Nat → Nat → Int32 → AH → Option (Int32 × AH)) : GoL k18 p h (f_L_law_1030 k18 2 3 91 (iv p) h) := by
  obtain ⟨r, h1, h2, w', A', e1, e2, sim, ext, b1, b2, b3⟩ := M_line hS (gI h 2 ((iv p + (iv 1))).toNatClampNeg) (gI h 2 ((iv p + (iv 2))).toNatClampNeg)
  refine ⟨h2, w', A', ?_, sim, ext⟩
  have i1 := ib6 (j := 1) p0 (by omega) (show p + 1 < (gN h 2 : Nat) by omega) hL
  have i2 := ib6 (j := 2) p0 (by omega) (show p + 2 < (gN h 2 : Nat) by omega) hL
  simp only [F_f_L_law_1030, k_L_law_1030_1, k_L_law_1030_2, f_L_law_1917, i1, i2, K3 hS.F, e1, b1, b2, b3, e2, lgs, some_cb, nm_eq, true_and, and_true, and_self, ↓reduceIte]
theorem L_1063 (hS : Sim w A h) {p : Int} (p0 : 0 ≤ p) (hp : p + 6 ≤ gN h 2) (hL : gN h 2 ≤ 3072) (k18 : Nat → Nat → Nat → Int32 → AH → Option (Int32 × AH)) : GoL k18 p h (f_L_law_1063 k18 2 3 91 (iv p) h) := by
  obtain ⟨r, h1, h2, w', A', e1, e2, sim, ext, b1, b2, b3⟩ := M_wrong hS (gI h 2 ((iv p + (iv 1))).toNatClampNeg) (gI h 2 ((iv p + (iv 2))).toNatClampNeg)
  refine ⟨h2, w', A', ?_, sim, ext⟩
  have i1 := ib6 (j := 1) p0 (by omega) (show p + 1 < (gN h 2 : Nat) by omega) hL
  have i2 := ib6 (j := 2) p0 (by omega) (show p + 2 < (gN h 2 : Nat) by omega) hL
  simp only [F_f_L_law_1063, k_L_law_1063_1, k_L_law_1063_2, f_L_law_1917, i1, i2, K3 hS.F, e1, b1, b2, b3, e2, lgs, some_cb, nm_eq, true_and, and_true, and_self, ↓reduceIte]
theorem L_1096 (hS : Sim w A h) {p : Int} (p0 : 0 ≤ p) (hp : p + 6 ≤ gN h 2) (hL : gN h 2 ≤ 3072) (k18 : Nat → Nat → Nat → Int32 → AH → Option (Int32 × AH)) : GoL k18 p h (f_L_law_1096 k18 2 3 91 (iv p) h) := by
  obtain ⟨r, h1, h2, w', A', e1, e2, sim, ext, b1, b2, b3⟩ := M_second hS (gI h 2 ((iv p + (iv 1))).toNatClampNeg) ((x_lshl ((gI h 2 ((iv p + (iv 2))).toNatClampNeg)).toInt64 (iv 32)) ||| (((gI h 2 ((iv p + (iv 3))).toNatClampNeg)).toInt64 &&& (jv 4294967295)))
  refine ⟨h2, w', A', ?_, sim, ext⟩
  have i1 := ib6 (j := 1) p0 (by omega) (show p + 1 < (gN h 2 : Nat) by omega) hL
  have i2 := ib6 (j := 2) p0 (by omega) (show p + 2 < (gN h 2 : Nat) by omega) hL
  have i3 := ib6 (j := 3) p0 (by omega) (show p + 3 < (gN h 2 : Nat) by omega) hL
  simp only [F_f_L_law_1096, k_L_law_1096_1, k_L_law_1096_2, f_L_law_1917, i1, i2, i3, K3 hS.F, e1, b1, b2, b3, e2, lgs, some_cb, nm_eq, true_and, and_true, and_self, ↓reduceIte]
theorem L_1159 (hS : Sim w A h) {p : Int} (p0 : 0 ≤ p) (hp : p + 6 ≤ gN h 2) (hL : gN h 2 ≤ 3072) (k18 : Nat → Nat → Nat → Int32 → AH → Option (Int32 × AH)) : GoL k18 p h (f_L_law_1159 k18 2 3 91 (iv p) h) := by
  obtain ⟨r, h1, h2, w', A', e1, e2, sim, ext, b1, b2, b3⟩ := M_split hS (gI h 2 ((iv p + (iv 1))).toNatClampNeg) (gI h 2 ((iv p + (iv 2))).toNatClampNeg) (gI h 2 ((iv p + (iv 3))).toNatClampNeg)
  refine ⟨h2, w', A', ?_, sim, ext⟩
  have i1 := ib6 (j := 1) p0 (by omega) (show p + 1 < (gN h 2 : Nat) by omega) hL
  have i2 := ib6 (j := 2) p0 (by omega) (show p + 2 < (gN h 2 : Nat) by omega) hL
  have i3 := ib6 (j := 3) p0 (by omega) (show p + 3 < (gN h 2 : Nat) by omega) hL
  simp only [F_f_L_law_1159, k_L_law_1159_1, k_L_law_1159_2, f_L_law_1917, i1, i2, i3, K3 hS.F, e1, b1, b2, b3, e2, lgs, some_cb, nm_eq, true_and, and_true, and_self, ↓reduceIte]
theorem L_1202 (hS : Sim w A h) {p : Int} (p0 : 0 ≤ p) (hp : p + 6 ≤ gN h 2) (hL : gN h 2 ≤ 3072) (k18 : Nat → Nat → Nat → Int32 → AH → Option (Int32 × AH)) : GoL k18 p h (f_L_law_1202 k18 2 3 91 (iv p) h) := by
  obtain ⟨r, h1, h2, w', A', e1, e2, sim, ext, b1, b2, b3⟩ := M_splits hS (gI h 2 ((iv p + (iv 1))).toNatClampNeg) (gI h 2 ((iv p + (iv 2))).toNatClampNeg)
  refine ⟨h2, w', A', ?_, sim, ext⟩
  have i1 := ib6 (j := 1) p0 (by omega) (show p + 1 < (gN h 2 : Nat) by omega) hL
  have i2 := ib6 (j := 2) p0 (by omega) (show p + 2 < (gN h 2 : Nat) by omega) hL
  simp only [F_f_L_law_1202, k_L_law_1202_1, k_L_law_1202_2, f_L_law_1917, i1, i2, K3 hS.F, e1, b1, b2, b3, e2, lgs, some_cb, nm_eq, true_and, and_true, and_self, ↓reduceIte]
theorem L_1235 (hS : Sim w A h) {p : Int} (p0 : 0 ≤ p) (hp : p + 6 ≤ gN h 2) (hL : gN h 2 ≤ 3072) (k18 : Nat → Nat → Nat → Int32 → AH → Option (Int32 × AH)) : GoL k18 p h (f_L_law_1235 k18 2 3 91 (iv p) h) := by
  obtain ⟨r, h1, h2, w', A', e1, e2, sim, ext, b1, b2, b3⟩ := M_changed hS (gI h 2 ((iv p + (iv 1))).toNatClampNeg) (gI h 2 ((iv p + (iv 2))).toNatClampNeg)
  refine ⟨h2, w', A', ?_, sim, ext⟩
  have i1 := ib6 (j := 1) p0 (by omega) (show p + 1 < (gN h 2 : Nat) by omega) hL
  have i2 := ib6 (j := 2) p0 (by omega) (show p + 2 < (gN h 2 : Nat) by omega) hL
  simp only [F_f_L_law_1235, k_L_law_1235_1, k_L_law_1235_2, f_L_law_1917, i1, i2, K3 hS.F, e1, b1, b2, b3, e2, lgs, some_cb, nm_eq, true_and, and_true, and_self, ↓reduceIte]
theorem L_1268 (hS : Sim w A h) {p : Int} (p0 : 0 ≤ p) (hp : p + 6 ≤ gN h 2) (hL : gN h 2 ≤ 3072) (k18 : Nat → Nat → Nat → Int32 → AH → Option (Int32 × AH)) : GoL k18 p h (f_L_law_1268 k18 2 3 91 (iv p) h) := by
  obtain ⟨r, h1, h2, w', A', e1, e2, sim, ext, b1, b2, b3⟩ := M_parted hS (gI h 2 ((iv p + (iv 1))).toNatClampNeg) (gI h 2 ((iv p + (iv 2))).toNatClampNeg) (gI h 2 ((iv p + (iv 3))).toNatClampNeg) (gI h 2 ((iv p + (iv 4))).toNatClampNeg)
  refine ⟨h2, w', A', ?_, sim, ext⟩
  have i1 := ib6 (j := 1) p0 (by omega) (show p + 1 < (gN h 2 : Nat) by omega) hL
  have i2 := ib6 (j := 2) p0 (by omega) (show p + 2 < (gN h 2 : Nat) by omega) hL
  have i3 := ib6 (j := 3) p0 (by omega) (show p + 3 < (gN h 2 : Nat) by omega) hL
  have i4 := ib6 (j := 4) p0 (by omega) (show p + 4 < (gN h 2 : Nat) by omega) hL
  simp only [F_f_L_law_1268, k_L_law_1268_1, k_L_law_1268_2, f_L_law_1917, i1, i2, i3, i4, K3 hS.F, e1, b1, b2, b3, e2, lgs, some_cb, nm_eq, true_and, and_true, and_self, ↓reduceIte]
theorem L_1321 (hS : Sim w A h) {p : Int} (p0 : 0 ≤ p) (hp : p + 6 ≤ gN h 2) (hL : gN h 2 ≤ 3072) (k18 : Nat → Nat → Nat → Int32 → AH → Option (Int32 × AH)) : GoL k18 p h (f_L_law_1321 k18 2 3 91 (iv p) h) := by
  obtain ⟨r, h1, h2, w', A', e1, e2, sim, ext, b1, b2, b3⟩ := M_weight hS (gI h 2 ((iv p + (iv 1))).toNatClampNeg) (gI h 2 ((iv p + (iv 2))).toNatClampNeg) (gI h 2 ((iv p + (iv 3))).toNatClampNeg)
  refine ⟨h2, w', A', ?_, sim, ext⟩
  have i1 := ib6 (j := 1) p0 (by omega) (show p + 1 < (gN h 2 : Nat) by omega) hL
  have i2 := ib6 (j := 2) p0 (by omega) (show p + 2 < (gN h 2 : Nat) by omega) hL
  have i3 := ib6 (j := 3) p0 (by omega) (show p + 3 < (gN h 2 : Nat) by omega) hL
  simp only [F_f_L_law_1321, k_L_law_1321_1, k_L_law_1321_2, f_L_law_1917, i1, i2, i3, K3 hS.F, e1, b1, b2, b3, e2, lgs, some_cb, nm_eq, true_and, and_true, and_self, ↓reduceIte]
theorem L_1364 (hS : Sim w A h) {p : Int} (p0 : 0 ≤ p) (hp : p + 6 ≤ gN h 2) (hL : gN h 2 ≤ 3072) (k18 : Nat → Nat → Nat → Int32 → AH → Option (Int32 × AH)) : GoL k18 p h (f_L_law_1364 k18 2 3 91 (iv p) h) := by
  obtain ⟨r, h1, h2, w', A', e1, e2, sim, ext, b1, b2, b3⟩ := M_likeliest hS (gI h 2 ((iv p + (iv 1))).toNatClampNeg) (gI h 2 ((iv p + (iv 2))).toNatClampNeg)
  refine ⟨h2, w', A', ?_, sim, ext⟩
  have i1 := ib6 (j := 1) p0 (by omega) (show p + 1 < (gN h 2 : Nat) by omega) hL
  have i2 := ib6 (j := 2) p0 (by omega) (show p + 2 < (gN h 2 : Nat) by omega) hL
  simp only [F_f_L_law_1364, k_L_law_1364_1, k_L_law_1364_2, f_L_law_1917, i1, i2, K3 hS.F, e1, b1, b2, b3, e2, lgs, some_cb, nm_eq, true_and, and_true, and_self, ↓reduceIte]
theorem L_1397 (hS : Sim w A h) {p : Int} (p0 : 0 ≤ p) (hp : p + 6 ≤ gN h 2) (hL : gN h 2 ≤ 3072) (k18 : Nat → Nat → Nat → Int32 → AH → Option (Int32 × AH)) : GoL k18 p h (f_L_law_1397 k18 2 3 91 (iv p) h) := by
  obtain ⟨r, h1, h2, w', A', e1, e2, sim, ext, b1, b2, b3⟩ := M_weighs hS (gI h 2 ((iv p + (iv 1))).toNatClampNeg) (gI h 2 ((iv p + (iv 2))).toNatClampNeg)
  refine ⟨h2, w', A', ?_, sim, ext⟩
  have i1 := ib6 (j := 1) p0 (by omega) (show p + 1 < (gN h 2 : Nat) by omega) hL
  have i2 := ib6 (j := 2) p0 (by omega) (show p + 2 < (gN h 2 : Nat) by omega) hL
  simp only [F_f_L_law_1397, k_L_law_1397_1, k_L_law_1397_2, f_L_law_1917, i1, i2, K3 hS.F, e1, b1, b2, b3, e2, lgs, some_cb, nm_eq, true_and, and_true, and_self, ↓reduceIte]
theorem L_1430 (hS : Sim w A h) {p : Int} (p0 : 0 ≤ p) (hp : p + 6 ≤ gN h 2) (hL : gN h 2 ≤ 3072) (k18 : Nat → Nat → Nat → Int32 → AH → Option (Int32 × AH)) : GoL k18 p h (f_L_law_1430 k18 2 3 91 (iv p) h) := by
  obtain ⟨r, h1, h2, w', A', e1, e2, sim, ext, b1, b2, b3⟩ := M_chance hS (gI h 2 ((iv p + (iv 1))).toNatClampNeg) (gI h 2 ((iv p + (iv 2))).toNatClampNeg) (gI h 2 ((iv p + (iv 3))).toNatClampNeg)
  refine ⟨h2, w', A', ?_, sim, ext⟩
  have i1 := ib6 (j := 1) p0 (by omega) (show p + 1 < (gN h 2 : Nat) by omega) hL
  have i2 := ib6 (j := 2) p0 (by omega) (show p + 2 < (gN h 2 : Nat) by omega) hL
  have i3 := ib6 (j := 3) p0 (by omega) (show p + 3 < (gN h 2 : Nat) by omega) hL
  simp only [F_f_L_law_1430, k_L_law_1430_1, k_L_law_1430_2, f_L_law_1917, i1, i2, i3, K3 hS.F, e1, b1, b2, b3, e2, lgs, some_cb, nm_eq, true_and, and_true, and_self, ↓reduceIte]
theorem L_1473 (hS : Sim w A h) {p : Int} (p0 : 0 ≤ p) (hp : p + 6 ≤ gN h 2) (hL : gN h 2 ≤ 3072) (k18 : Nat → Nat → Nat → Int32 → AH → Option (Int32 × AH)) : GoL k18 p h (f_L_law_1473 k18 2 3 91 (iv p) h) := by
  obtain ⟨r, h1, h2, w', A', e1, e2, sim, ext, b1, b2, b3⟩ := M_knowing hS (gI h 2 ((iv p + (iv 1))).toNatClampNeg)
  refine ⟨h2, w', A', ?_, sim, ext⟩
  have i1 := ib6 (j := 1) p0 (by omega) (show p + 1 < (gN h 2 : Nat) by omega) hL
  simp only [F_f_L_law_1473, k_L_law_1473_1, k_L_law_1473_2, f_L_law_1917, i1, K3 hS.F, e1, b1, b2, b3, e2, lgs, some_cb, nm_eq, true_and, and_true, and_self, ↓reduceIte]
theorem L_1496 (hS : Sim w A h) {p : Int} (p0 : 0 ≤ p) (hp : p + 6 ≤ gN h 2) (hL : gN h 2 ≤ 3072) (k18 : Nat → Nat → Nat → Int32 → AH → Option (Int32 × AH)) : GoL k18 p h (f_L_law_1496 k18 2 3 91 (iv p) h) := by
  obtain ⟨r, h1, h2, w', A', e1, e2, sim, ext, b1, b2, b3⟩ := M_act hS (gI h 2 ((iv p + (iv 1))).toNatClampNeg) (gI h 2 ((iv p + (iv 2))).toNatClampNeg) (gI h 2 ((iv p + (iv 3))).toNatClampNeg)
  refine ⟨h2, w', A', ?_, sim, ext⟩
  have i1 := ib6 (j := 1) p0 (by omega) (show p + 1 < (gN h 2 : Nat) by omega) hL
  have i2 := ib6 (j := 2) p0 (by omega) (show p + 2 < (gN h 2 : Nat) by omega) hL
  have i3 := ib6 (j := 3) p0 (by omega) (show p + 3 < (gN h 2 : Nat) by omega) hL
  simp only [F_f_L_law_1496, k_L_law_1496_1, k_L_law_1496_2, f_L_law_1917, i1, i2, i3, K3 hS.F, e1, b1, b2, b3, e2, lgs, some_cb, nm_eq, true_and, and_true, and_self, ↓reduceIte]
theorem L_1539 (hS : Sim w A h) {p : Int} (p0 : 0 ≤ p) (hp : p + 6 ≤ gN h 2) (hL : gN h 2 ≤ 3072) (k18 : Nat → Nat → Nat → Int32 → AH → Option (Int32 × AH)) : GoL k18 p h (f_L_law_1539 k18 2 3 91 (iv p) h) := by
  obtain ⟨r, h1, h2, w', A', e1, e2, sim, ext, b1, b2, b3⟩ := M_trace hS (gI h 2 ((iv p + (iv 1))).toNatClampNeg)
  refine ⟨h2, w', A', ?_, sim, ext⟩
  have i1 := ib6 (j := 1) p0 (by omega) (show p + 1 < (gN h 2 : Nat) by omega) hL
  simp only [F_f_L_law_1539, k_L_law_1539_1, k_L_law_1539_2, f_L_law_1917, i1, K3 hS.F, e1, b1, b2, b3, e2, lgs, some_cb, nm_eq, true_and, and_true, and_self, ↓reduceIte]
theorem L_1562 (hS : Sim w A h) {p : Int} (p0 : 0 ≤ p) (hp : p + 6 ≤ gN h 2) (hL : gN h 2 ≤ 3072) (k18 : Nat → Nat → Nat → Int32 → AH → Option (Int32 × AH)) : GoL k18 p h (f_L_law_1562 k18 2 3 91 (iv p) h) := by
  obtain ⟨r, h1, h2, w', A', e1, e2, sim, ext, b1, b2, b3⟩ := M_keep hS (gI h 2 ((iv p + (iv 1))).toNatClampNeg) (gI h 2 ((iv p + (iv 2))).toNatClampNeg)
  refine ⟨h2, w', A', ?_, sim, ext⟩
  have i1 := ib6 (j := 1) p0 (by omega) (show p + 1 < (gN h 2 : Nat) by omega) hL
  have i2 := ib6 (j := 2) p0 (by omega) (show p + 2 < (gN h 2 : Nat) by omega) hL
  simp only [F_f_L_law_1562, k_L_law_1562_1, k_L_law_1562_2, f_L_law_1917, i1, i2, K3 hS.F, e1, b1, b2, b3, e2, lgs, some_cb, nm_eq, true_and, and_true, and_self, ↓reduceIte]
theorem L_1595 (hS : Sim w A h) {p : Int} (p0 : 0 ≤ p) (hp : p + 6 ≤ gN h 2) (hL : gN h 2 ≤ 3072) (k18 : Nat → Nat → Nat → Int32 → AH → Option (Int32 × AH)) : GoL k18 p h (f_L_law_1595 k18 2 3 91 (iv p) h) := by
  obtain ⟨r, h1, h2, w', A', e1, e2, sim, ext, b1, b2, b3⟩ := M_row hS (gI h 2 ((iv p + (iv 1))).toNatClampNeg) (gI h 2 ((iv p + (iv 2))).toNatClampNeg) (gI h 2 ((iv p + (iv 3))).toNatClampNeg)
  refine ⟨h2, w', A', ?_, sim, ext⟩
  have i1 := ib6 (j := 1) p0 (by omega) (show p + 1 < (gN h 2 : Nat) by omega) hL
  have i2 := ib6 (j := 2) p0 (by omega) (show p + 2 < (gN h 2 : Nat) by omega) hL
  have i3 := ib6 (j := 3) p0 (by omega) (show p + 3 < (gN h 2 : Nat) by omega) hL
  simp only [F_f_L_law_1595, k_L_law_1595_1, k_L_law_1595_2, f_L_law_1917, i1, i2, i3, K3 hS.F, e1, b1, b2, b3, e2, lgs, some_cb, nm_eq, true_and, and_true, and_self, ↓reduceIte]
theorem L_1638 (hS : Sim w A h) {p : Int} (p0 : 0 ≤ p) (hp : p + 6 ≤ gN h 2) (hL : gN h 2 ≤ 3072) (k18 : Nat → Nat → Nat → Int32 → AH → Option (Int32 × AH)) : GoL k18 p h (f_L_law_1638 k18 2 3 91 (iv p) h) := by
  obtain ⟨r, h1, h2, w', A', e1, e2, sim, ext, b1, b2, b3⟩ := M_put hS (gI h 2 ((iv p + (iv 1))).toNatClampNeg) (gI h 2 ((iv p + (iv 2))).toNatClampNeg) ((x_lshl ((gI h 2 ((iv p + (iv 3))).toNatClampNeg)).toInt64 (iv 32)) ||| (((gI h 2 ((iv p + (iv 4))).toNatClampNeg)).toInt64 &&& (jv 4294967295)))
  refine ⟨h2, w', A', ?_, sim, ext⟩
  have i1 := ib6 (j := 1) p0 (by omega) (show p + 1 < (gN h 2 : Nat) by omega) hL
  have i2 := ib6 (j := 2) p0 (by omega) (show p + 2 < (gN h 2 : Nat) by omega) hL
  have i3 := ib6 (j := 3) p0 (by omega) (show p + 3 < (gN h 2 : Nat) by omega) hL
  have i4 := ib6 (j := 4) p0 (by omega) (show p + 4 < (gN h 2 : Nat) by omega) hL
  simp only [F_f_L_law_1638, k_L_law_1638_1, k_L_law_1638_2, f_L_law_1917, i1, i2, i3, i4, K3 hS.F, e1, b1, b2, b3, e2, lgs, some_cb, nm_eq, true_and, and_true, and_self, ↓reduceIte]
theorem L_1711 (hS : Sim w A h) {p : Int} (p0 : 0 ≤ p) (hp : p + 6 ≤ gN h 2) (hL : gN h 2 ≤ 3072) (k18 : Nat → Nat → Nat → Int32 → AH → Option (Int32 × AH)) : GoL k18 p h (f_L_law_1711 k18 2 3 91 (iv p) h) := by
  obtain ⟨r, h1, h2, w', A', e1, e2, sim, ext, b1, b2, b3⟩ := M_element hS (gI h 2 ((iv p + (iv 1))).toNatClampNeg) (gI h 2 ((iv p + (iv 2))).toNatClampNeg)
  refine ⟨h2, w', A', ?_, sim, ext⟩
  have i1 := ib6 (j := 1) p0 (by omega) (show p + 1 < (gN h 2 : Nat) by omega) hL
  have i2 := ib6 (j := 2) p0 (by omega) (show p + 2 < (gN h 2 : Nat) by omega) hL
  simp only [F_f_L_law_1711, k_L_law_1711_1, k_L_law_1711_2, f_L_law_1917, i1, i2, K3 hS.F, e1, b1, b2, b3, e2, lgs, some_cb, nm_eq, true_and, and_true, and_self, ↓reduceIte]
theorem L_1745 (hS : Sim w A h) {p : Int} (p0 : 0 ≤ p) (hp : p + 6 ≤ gN h 2) (hL : gN h 2 ≤ 3072) (k18 : Nat → Nat → Nat → Int32 → AH → Option (Int32 × AH)) : GoL k18 p h (f_L_law_1745 k18 2 3 91 (iv p) h) := by
  obtain ⟨r, h1, h2, w', A', e1, e2, sim, ext, b1, b2, b3⟩ := M_shift hS (gI h 2 ((iv p + (iv 1))).toNatClampNeg) (gI h 2 ((iv p + (iv 2))).toNatClampNeg) (gI h 2 ((iv p + (iv 3))).toNatClampNeg) (gI h 2 ((iv p + (iv 4))).toNatClampNeg) (gI h 2 ((iv p + (iv 5))).toNatClampNeg)
  refine ⟨h2, w', A', ?_, sim, ext⟩
  have i1 := ib6 (j := 1) p0 (by omega) (show p + 1 < (gN h 2 : Nat) by omega) hL
  have i2 := ib6 (j := 2) p0 (by omega) (show p + 2 < (gN h 2 : Nat) by omega) hL
  have i3 := ib6 (j := 3) p0 (by omega) (show p + 3 < (gN h 2 : Nat) by omega) hL
  have i4 := ib6 (j := 4) p0 (by omega) (show p + 4 < (gN h 2 : Nat) by omega) hL
  have i5 := ib6 (j := 5) p0 (by omega) (show p + 5 < (gN h 2 : Nat) by omega) hL
  simp only [F_f_L_law_1745, k_L_law_1745_1, k_L_law_1745_2, f_L_law_1917, i1, i2, i3, i4, i5, K3 hS.F, e1, b1, b2, b3, e2, lgs, some_cb, nm_eq, true_and, and_true, and_self, ↓reduceIte]
theorem L_1808 (hS : Sim w A h) {p : Int} (p0 : 0 ≤ p) (hp : p + 6 ≤ gN h 2) (hL : gN h 2 ≤ 3072) (k18 : Nat → Nat → Nat → Int32 → AH → Option (Int32 × AH)) : GoL k18 p h (f_L_law_1808 k18 2 3 91 (iv p) h) := by
  obtain ⟨r, h1, h2, w', A', e1, e2, sim, ext, b1, b2, b3⟩ := M_taken hS (gI h 2 ((iv p + (iv 1))).toNatClampNeg) (gI h 2 ((iv p + (iv 2))).toNatClampNeg)
  refine ⟨h2, w', A', ?_, sim, ext⟩
  have i1 := ib6 (j := 1) p0 (by omega) (show p + 1 < (gN h 2 : Nat) by omega) hL
  have i2 := ib6 (j := 2) p0 (by omega) (show p + 2 < (gN h 2 : Nat) by omega) hL
  simp only [F_f_L_law_1808, k_L_law_1808_1, k_L_law_1808_2, f_L_law_1917, i1, i2, K3 hS.F, e1, b1, b2, b3, e2, lgs, some_cb, nm_eq, true_and, and_true, and_self, ↓reduceIte]
theorem L_1841 (hS : Sim w A h) {p : Int} (p0 : 0 ≤ p) (hp : p + 6 ≤ gN h 2) (hL : gN h 2 ≤ 3072) (k18 : Nat → Nat → Nat → Int32 → AH → Option (Int32 × AH)) : GoL k18 p h (f_L_law_1841 k18 2 3 91 (iv p) h) := by
  obtain ⟨r, h1, h2, w', A', e1, e2, sim, ext, b1, b2, b3⟩ := M_boxes hS (gI h 2 ((iv p + (iv 1))).toNatClampNeg) (gI h 2 ((iv p + (iv 2))).toNatClampNeg) (gI h 2 ((iv p + (iv 3))).toNatClampNeg) (gI h 2 ((iv p + (iv 4))).toNatClampNeg)
  refine ⟨h2, w', A', ?_, sim, ext⟩
  have i1 := ib6 (j := 1) p0 (by omega) (show p + 1 < (gN h 2 : Nat) by omega) hL
  have i2 := ib6 (j := 2) p0 (by omega) (show p + 2 < (gN h 2 : Nat) by omega) hL
  have i3 := ib6 (j := 3) p0 (by omega) (show p + 3 < (gN h 2 : Nat) by omega) hL
  have i4 := ib6 (j := 4) p0 (by omega) (show p + 4 < (gN h 2 : Nat) by omega) hL
  simp only [F_f_L_law_1841, k_L_law_1841_1, k_L_law_1841_2, f_L_law_1917, i1, i2, i3, i4, K3 hS.F, e1, b1, b2, b3, e2, lgs, some_cb, nm_eq, true_and, and_true, and_self, ↓reduceIte]
theorem L_1894 (hS : Sim w A h) {p : Int} (p0 : 0 ≤ p) (hp : p + 6 ≤ gN h 2) (hL : gN h 2 ≤ 3072) (k18 : Nat → Nat → Nat → Int32 → AH → Option (Int32 × AH)) : GoL k18 p h (f_L_law_1894 k18 2 3 91 (iv p) h) := by
  obtain ⟨r, h1, h2, w', A', e1, e2, sim, ext, b1, b2, b3⟩ := M_count hS (gI h 2 ((iv p + (iv 1))).toNatClampNeg)
  refine ⟨h2, w', A', ?_, sim, ext⟩
  have i1 := ib6 (j := 1) p0 (by omega) (show p + 1 < (gN h 2 : Nat) by omega) hL
  simp only [F_f_L_law_1894, k_L_law_1894_1, k_L_law_1894_2, f_L_law_1917, i1, K3 hS.F, e1, b1, b2, b3, e2, lgs, some_cb, nm_eq, true_and, and_true, and_self, ↓reduceIte]
theorem L_end (hS : Sim w A h) {p : Int} (k18 : Nat → Nat → Nat → Int32 → AH → Option (Int32 × AH)) : GoL k18 p h (f_L_law_1917 k18 2 3 91 (iv p) h) := ⟨h, w, A, rfl, hS, Ext.rfl' h⟩
theorem L_one (hS : Sim w A h) {p : Int} (p0 : 0 ≤ p) (hp : p + 6 ≤ gN h 2) (hL : gN h 2 ≤ 3072) (k18 : Nat → Nat → Nat → Int32 → AH → Option (Int32 × AH)) : GoL k18 p h (b_L_law_18 k18 2 3 91 (iv p) h) := by
  have z : ¬ (Int32.ofNat (gN h 2) - iv 6 < iv p) := by
    rw [of_iv, iv_sub, iv_lt (by omega) (by omega) (by omega) (by omega)]; omega
  have z2 : ib (iv p) (gN h 2) = true := ib_iv p0 (by omega) (by omega)
  rw [F_b_L_law_18, if_pos rfl, if_neg z, if_pos ⟨rfl, z2⟩]
  generalize gI h 2 (iv p).toNatClampNeg &&& iv 63 = u
  by_cases e : u = iv 0
  · rw [if_pos e]; exact L_212 hS p0 hp hL k18
  rw [if_neg e]; clear e
  by_cases e : u = iv 1
  · rw [if_pos e]; exact L_245 hS p0 hp hL k18
  rw [if_neg e]; clear e
  by_cases e : u = iv 2
  · rw [if_pos e]; exact L_258 hS p0 hp hL k18
  rw [if_neg e]; clear e
  by_cases e : u = iv 3
  · rw [if_pos e]; exact L_291 hS p0 hp hL k18
  rw [if_neg e]; clear e
  by_cases e : u = iv 4
  · rw [if_pos e]; exact L_324 hS p0 hp hL k18
  rw [if_neg e]; clear e
  by_cases e : u = iv 5
  · rw [if_pos e]; exact L_348 hS p0 hp hL k18
  rw [if_neg e]; clear e
  by_cases e : u = iv 6
  · rw [if_pos e]; exact L_421 hS p0 hp hL k18
  rw [if_neg e]; clear e
  by_cases e : u = iv 7
  · rw [if_pos e]; exact L_494 hS p0 hp hL k18
  rw [if_neg e]; clear e
  by_cases e : u = iv 8
  · rw [if_pos e]; exact L_537 hS p0 hp hL k18
  rw [if_neg e]; clear e
  by_cases e : u = iv 9
  · rw [if_pos e]; exact L_580 hS p0 hp hL k18
  rw [if_neg e]; clear e
  by_cases e : u = iv 10
  · rw [if_pos e]; exact L_623 hS p0 hp hL k18
  rw [if_neg e]; clear e
  by_cases e : u = iv 11
  · rw [if_pos e]; exact L_666 hS p0 hp hL k18
  rw [if_neg e]; clear e
  by_cases e : u = iv 12
  · rw [if_pos e]; exact L_699 hS p0 hp hL k18
  rw [if_neg e]; clear e
  by_cases e : u = iv 13
  · rw [if_pos e]; exact L_732 hS p0 hp hL k18
  rw [if_neg e]; clear e
  by_cases e : u = iv 14
  · rw [if_pos e]; exact L_775 hS p0 hp hL k18
  rw [if_neg e]; clear e
  by_cases e : u = iv 15
  · rw [if_pos e]; exact L_838 hS p0 hp hL k18
  rw [if_neg e]; clear e
  by_cases e : u = iv 16
  · rw [if_pos e]; exact L_891 hS p0 hp hL k18
  rw [if_neg e]; clear e
  by_cases e : u = iv 17
  · rw [if_pos e]; exact L_924 hS p0 hp hL k18
  rw [if_neg e]; clear e
  by_cases e : u = iv 18
  · rw [if_pos e]; exact L_977 hS p0 hp hL k18
  rw [if_neg e]; clear e
  by_cases e : u = iv 19
  · rw [if_pos e]; exact L_1030 hS p0 hp hL k18
  rw [if_neg e]; clear e
  by_cases e : u = iv 20
  · rw [if_pos e]; exact L_1063 hS p0 hp hL k18
  rw [if_neg e]; clear e
  by_cases e : u = iv 21
  · rw [if_pos e]; exact L_1096 hS p0 hp hL k18
  rw [if_neg e]; clear e
  by_cases e : u = iv 22
  · rw [if_pos e]; exact L_1159 hS p0 hp hL k18
  rw [if_neg e]; clear e
  by_cases e : u = iv 23
  · rw [if_pos e]; exact L_1202 hS p0 hp hL k18
  rw [if_neg e]; clear e
  by_cases e : u = iv 24
  · rw [if_pos e]; exact L_1235 hS p0 hp hL k18
  rw [if_neg e]; clear e
  by_cases e : u = iv 25
  · rw [if_pos e]; exact L_1268 hS p0 hp hL k18
  rw [if_neg e]; clear e
  by_cases e : u = iv 26
  · rw [if_pos e]; exact L_1321 hS p0 hp hL k18
  rw [if_neg e]; clear e
  by_cases e : u = iv 27
  · rw [if_pos e]; exact L_1364 hS p0 hp hL k18
  rw [if_neg e]; clear e
  by_cases e : u = iv 28
  · rw [if_pos e]; exact L_1397 hS p0 hp hL k18
  rw [if_neg e]; clear e
  by_cases e : u = iv 29
  · rw [if_pos e]; exact L_1430 hS p0 hp hL k18
  rw [if_neg e]; clear e
  by_cases e : u = iv 30
  · rw [if_pos e]; exact L_1473 hS p0 hp hL k18
  rw [if_neg e]; clear e
  by_cases e : u = iv 31
  · rw [if_pos e]; exact L_1496 hS p0 hp hL k18
  rw [if_neg e]; clear e
  by_cases e : u = iv 32
  · rw [if_pos e]; exact L_1539 hS p0 hp hL k18
  rw [if_neg e]; clear e
  by_cases e : u = iv 33
  · rw [if_pos e]; exact L_1562 hS p0 hp hL k18
  rw [if_neg e]; clear e
  by_cases e : u = iv 34
  · rw [if_pos e]; exact L_1595 hS p0 hp hL k18
  rw [if_neg e]; clear e
  by_cases e : u = iv 35
  · rw [if_pos e]; exact L_1638 hS p0 hp hL k18
  rw [if_neg e]; clear e
  by_cases e : u = iv 36
  · rw [if_pos e]; exact L_1711 hS p0 hp hL k18
  rw [if_neg e]; clear e
  by_cases e : u = iv 37
  · rw [if_pos e]; exact L_1745 hS p0 hp hL k18
  rw [if_neg e]; clear e
  by_cases e : u = iv 38
  · rw [if_pos e]; exact L_1808 hS p0 hp hL k18
  rw [if_neg e]; clear e
  by_cases e : u = iv 39
  · rw [if_pos e]; exact L_1841 hS p0 hp hL k18
  rw [if_neg e]; clear e
  by_cases e : u = iv 40
  · rw [if_pos e]; exact L_1894 hS p0 hp hL k18
  rw [if_neg e]; clear e
  exact L_end hS k18
theorem law_lp {N : Nat} (hN : N ≤ 3072) : ∀ (n L : Nat) (p : Int) (h : AH) (w : WD) (A : Int → Nat), n < L → 0 ≤ p → (N : Int) < p + 6 * n + 6 → p ≤ N → Sim w A h → gN h 2 = N → ∃ h' : AH, lp b_L_law_18 (fun _ _ _ _ _ => none) L 2 3 91 (iv p) h = some (iv 1, h') ∧ gC h' ≤ gC h + 100 * n ∧ gS h' ≤ gS h + 500 * n := by
  intro n
  induction n with
  | zero =>
    intro L p h w A hL p0 hp pN hS hn
    obtain ⟨L, rfl⟩ : ∃ L', L = L' + 1 := ⟨L - 1, by omega⟩
    have z : Int32.ofNat (gN h 2) - iv 6 < iv p := by
      rw [of_iv, iv_sub, iv_lt (by omega) (by omega) (by omega) (by omega)]; omega
    exact ⟨h, by rw [lp_succ, F_b_L_law_18, if_pos rfl, if_pos z]; rfl, by omega, by omega⟩
  | succ n ih =>
    intro L p h w A hL p0 hp pN hS hn
    obtain ⟨L, rfl⟩ : ∃ L', L = L' + 1 := ⟨L - 1, by omega⟩
    by_cases y : p + 6 ≤ N
    · obtain ⟨h2, w', A', e, sim, ext⟩ := L_one hS p0 (by omega) (by omega) (lp b_L_law_18 (fun _ _ _ _ _ => none) L)
      obtain ⟨x1, x2, x3, -⟩ := ext
      obtain ⟨h', i1, i2, i3⟩ := ih L (p + 6) h2 w' A' (by omega) (by omega) (by omega) (by omega) sim (by omega)
      refine ⟨h', ?_, by omega, by omega⟩
      rw [lp_succ, e, iv_add]
      exact i1
    · have z : Int32.ofNat (gN h 2) - iv 6 < iv p := by
        rw [of_iv, iv_sub, iv_lt (by omega) (by omega) (by omega) (by omega)]; omega
      exact ⟨h, by rw [lp_succ, F_b_L_law_18, if_pos rfl, if_pos z]; rfl, by omega, by omega⟩
end Q
