/-! THE WORLD: what the reference's rows say, as integers; and how the class's cells say the same -/
abbrev WD : Type := (Nat → Int → Int) × (Int → Int64)
def wM (w : WD) : Int := w.1 91 0
def wT (w : WD) : Int := w.1 91 19
def wK (w : WD) : Int := w.1 91 20
def wBo (w : WD) : Int := w.1 91 23
def wGr (w : WD) (m : Int) : Int := w.1 92 m
def wCh (w : WD) (m : Int) : Int := w.1 93 m
def wBx (w : WD) (m : Int) : Int := w.1 94 m
def wG (w : WD) (x g : Int) : Int := w.1 95 (4 * x + g)
def wC (w : WD) (x k : Int) : Int := w.1 96 (3 * x + k)
def wV (w : WD) (x : Int) : Int := w.1 97 x
def wO (w : WD) (x : Int) : Int := w.1 98 x
def wSe (w : WD) (x p : Int) : Int := w.1 99 (12 * x + p)
def wS2 (w : WD) (x : Int) : Int := w.1 100 x
def wL (w : WD) (x k : Int) : Int := w.1 101 (3 * x + k)
def wW (w : WD) (m p : Int) : Int := w.1 102 (12 * m + p)
def wH (w : WD) (m : Int) : Int := w.1 103 m
def hSo (w : WD) (k : Int) : Int := w.1 104 k
def hCe (w : WD) (k : Int) : Int := w.1 105 k
def hBo (w : WD) (k : Int) : Int := w.1 106 k
def hOt (w : WD) (k : Int) : Int := w.1 107 k
def hMu (w : WD) (k : Int) : Int := w.1 108 k
def wTa (w : WD) (i : Int) : Int := w.1 109 i
def wKi (w : WD) (k : Int) : Int := w.1 110 k
def wTr (w : WD) (i : Int) : Int := w.1 111 i
def sIs (w : WD) (s : Int) : Int := w.1 112 s
def sSo (w : WD) (s : Int) : Int := w.1 113 s
def sSz (w : WD) (s : Int) : Int := w.1 114 s
def sEl (w : WD) (i : Int) : Int64 := w.2 i
/-- the reference's rows hold the world -/
def RR (w : WD) (h : AH) : Prop := (∀ (a : Nat) (z : Int), 92 ≤ a → a ≤ 114 → 0 ≤ z → gI h a z.toNat = iv (w.1 a z)) ∧ gI h 91 0 = iv (wM w) ∧ gI h 91 19 = iv (wT w) ∧ gI h 91 20 = iv (wK w) ∧ gI h 91 23 = iv (wBo w) ∧ ∀ z : Int, 0 ≤ z → gJ h 115 z.toNat = w.2 z
theorem RR_M {w : WD} {h : AH} (H : RR w h) : gI h 91 0 = iv (wM w) := H.2.1
theorem RR_T {w : WD} {h : AH} (H : RR w h) : gI h 91 19 = iv (wT w) := H.2.2.1
theorem RR_K {w : WD} {h : AH} (H : RR w h) : gI h 91 20 = iv (wK w) := H.2.2.2.1
theorem RR_Bo {w : WD} {h : AH} (H : RR w h) : gI h 91 23 = iv (wBo w) := H.2.2.2.2.1
theorem RR_Gr {w : WD} {h : AH} (H : RR w h) {m : Int} (z : 0 ≤ m) : gI h 92 m.toNat = iv (wGr w m) := H.1 92 _ (by decide) (by decide) z
theorem RR_Ch {w : WD} {h : AH} (H : RR w h) {m : Int} (z : 0 ≤ m) : gI h 93 m.toNat = iv (wCh w m) := H.1 93 _ (by decide) (by decide) z
theorem RR_Bx {w : WD} {h : AH} (H : RR w h) {m : Int} (z : 0 ≤ m) : gI h 94 m.toNat = iv (wBx w m) := H.1 94 _ (by decide) (by decide) z
theorem RR_G {w : WD} {h : AH} (H : RR w h) {x g : Int} (z : 0 ≤ 4 * x + g) : gI h 95 (4 * x + g).toNat = iv (wG w x g) := H.1 95 _ (by decide) (by decide) z
theorem RR_C {w : WD} {h : AH} (H : RR w h) {x k : Int} (z : 0 ≤ 3 * x + k) : gI h 96 (3 * x + k).toNat = iv (wC w x k) := H.1 96 _ (by decide) (by decide) z
theorem RR_G0 {w : WD} {h : AH} (H : RR w h) {x : Int} (z : 0 ≤ 4 * x) : gI h 95 (4 * x).toNat = iv (wG w x 0) := by have := RR_G H (x := x) (g := 0) (by omega); rwa [Int.add_zero] at this
theorem RR_C0 {w : WD} {h : AH} (H : RR w h) {x : Int} (z : 0 ≤ 3 * x) : gI h 96 (3 * x).toNat = iv (wC w x 0) := by have := RR_C H (x := x) (k := 0) (by omega); rwa [Int.add_zero] at this
theorem RR_V {w : WD} {h : AH} (H : RR w h) {x : Int} (z : 0 ≤ x) : gI h 97 x.toNat = iv (wV w x) := H.1 97 _ (by decide) (by decide) z
theorem RR_O {w : WD} {h : AH} (H : RR w h) {x : Int} (z : 0 ≤ x) : gI h 98 x.toNat = iv (wO w x) := H.1 98 _ (by decide) (by decide) z
theorem RR_Se {w : WD} {h : AH} (H : RR w h) {x p : Int} (z : 0 ≤ 12 * x + p) : gI h 99 (12 * x + p).toNat = iv (wSe w x p) := H.1 99 _ (by decide) (by decide) z
theorem RR_S2 {w : WD} {h : AH} (H : RR w h) {x : Int} (z : 0 ≤ x) : gI h 100 x.toNat = iv (wS2 w x) := H.1 100 _ (by decide) (by decide) z
theorem RR_L {w : WD} {h : AH} (H : RR w h) {x k : Int} (z : 0 ≤ 3 * x + k) : gI h 101 (3 * x + k).toNat = iv (wL w x k) := H.1 101 _ (by decide) (by decide) z
theorem RR_W {w : WD} {h : AH} (H : RR w h) {m p : Int} (z : 0 ≤ 12 * m + p) : gI h 102 (12 * m + p).toNat = iv (wW w m p) := H.1 102 _ (by decide) (by decide) z
theorem RR_H {w : WD} {h : AH} (H : RR w h) {m : Int} (z : 0 ≤ m) : gI h 103 m.toNat = iv (wH w m) := H.1 103 _ (by decide) (by decide) z
theorem RR_hSo {w : WD} {h : AH} (H : RR w h) {k : Int} (z : 0 ≤ k) : gI h 104 k.toNat = iv (hSo w k) := H.1 104 _ (by decide) (by decide) z
theorem RR_hCe {w : WD} {h : AH} (H : RR w h) {k : Int} (z : 0 ≤ k) : gI h 105 k.toNat = iv (hCe w k) := H.1 105 _ (by decide) (by decide) z
theorem RR_hBo {w : WD} {h : AH} (H : RR w h) {k : Int} (z : 0 ≤ k) : gI h 106 k.toNat = iv (hBo w k) := H.1 106 _ (by decide) (by decide) z
theorem RR_hOt {w : WD} {h : AH} (H : RR w h) {k : Int} (z : 0 ≤ k) : gI h 107 k.toNat = iv (hOt w k) := H.1 107 _ (by decide) (by decide) z
theorem RR_hMu {w : WD} {h : AH} (H : RR w h) {k : Int} (z : 0 ≤ k) : gI h 108 k.toNat = iv (hMu w k) := H.1 108 _ (by decide) (by decide) z
theorem RR_Ta {w : WD} {h : AH} (H : RR w h) {i : Int} (z : 0 ≤ i) : gI h 109 i.toNat = iv (wTa w i) := H.1 109 _ (by decide) (by decide) z
theorem RR_Ki {w : WD} {h : AH} (H : RR w h) {k : Int} (z : 0 ≤ k) : gI h 110 k.toNat = iv (wKi w k) := H.1 110 _ (by decide) (by decide) z
theorem RR_Tr {w : WD} {h : AH} (H : RR w h) {i : Int} (z : 0 ≤ i) : gI h 111 i.toNat = iv (wTr w i) := H.1 111 _ (by decide) (by decide) z
theorem RR_Is {w : WD} {h : AH} (H : RR w h) {s : Int} (z : 0 ≤ s) : gI h 112 s.toNat = iv (sIs w s) := H.1 112 _ (by decide) (by decide) z
theorem RR_So {w : WD} {h : AH} (H : RR w h) {s : Int} (z : 0 ≤ s) : gI h 113 s.toNat = iv (sSo w s) := H.1 113 _ (by decide) (by decide) z
theorem RR_Sz {w : WD} {h : AH} (H : RR w h) {s : Int} (z : 0 ≤ s) : gI h 114 s.toNat = iv (sSz w s) := H.1 114 _ (by decide) (by decide) z
theorem RR_El {w : WD} {h : AH} (H : RR w h) {i : Int} (z : 0 ≤ i) : gJ h 115 i.toNat = sEl w i := H.2.2.2.2.2 _ z
/-- ranges of the world -/
def lvM (w : WD) (m : Int) : Prop := 0 ≤ m ∧ m < wM w
def wP (w : WD) (m x g : Int) : Int := if g < wGr w m then wG w x g else 0
def heldOK (w : WD) (m k : Int) : Prop := (0 ≤ hSo w k ∧ hSo w k ≤ 3) ∧ (0 ≤ hCe w k ∧ hCe w k / 10 < wGr w m ∧ hCe w k % 10 < wCh w m) ∧ (0 ≤ hBo w k ∧ hBo w k < wBx w m) ∧ (0 ≤ hOt w k ∧ hOt w k ≤ 99) ∧ (0 ≤ hMu w k ∧ hMu w k ≤ 999) ∧ (2 ≤ hSo w k → hOt w k < wBx w m ∧ hOt w k ≠ hBo w k)
def matOK (w : WD) (m : Int) : Prop := (2 ≤ wGr w m ∧ wGr w m ≤ 4) ∧ (2 ≤ wCh w m ∧ wCh w m ≤ 3) ∧ (0 ≤ wBx w m ∧ wBx w m ≤ 12) ∧ (0 ≤ wH w m ∧ wH w m ≤ 8) ∧ (∀ p : Int, 0 ≤ p → p < 12 → -99 ≤ wW w m p ∧ wW w m p ≤ 99) ∧ ∀ k : Int, 0 ≤ k → k < wH w m → heldOK w m (12 * m + k)
def boxOK (w : WD) (m x : Int) : Prop := (∀ g : Int, 0 ≤ g → g < 4 → 0 ≤ wP w m x g ∧ wP w m x g ≤ 99) ∧ (∀ k : Int, 0 ≤ k → k < 3 → 0 ≤ wC w x k ∧ wC w x k ≤ 99) ∧ (wCh w m = 2 → wC w x 2 = 0) ∧ (wV w x = wP w m x 0 + wP w m x 1 + wP w m x 2 + wP w m x 3) ∧ (wV w x = wC w x 0 + wC w x 1 + wC w x 2) ∧ (wO w x = 0 ∨ wO w x = 1) ∧ (wO w x = 1 → ∀ p : Int, 0 ≤ p → p < 3 * wGr w m → 0 ≤ wSe w x p ∧ wSe w x p ≤ 99 ∧ (wCh w m ≤ p % 3 → wSe w x p = 0)) ∧ (wS2 w x = 0 ∨ wS2 w x = 1) ∧ (wS2 w x = 1 → ∀ k : Int, 0 ≤ k → k < 3 → 0 ≤ wL w x k ∧ wL w x k ≤ 999)
def shOK (w : WD) (s : Int) : Prop := (-1 ≤ sIs w s ∧ sIs w s < wK w) ∧ (-1 ≤ sSo w s ∧ sSo w s ≤ 4) ∧ (0 ≤ sSz w s ∧ sSz w s ≤ 60) ∧ (0 ≤ sSo w s → sIs w s = -1)
def WI (w : WD) : Prop := (0 ≤ wM w ∧ wM w ≤ 4) ∧ (0 ≤ wT w ∧ wT w ≤ 200) ∧ (0 ≤ wK w ∧ wK w ≤ 50) ∧ (∀ i : Int, 0 ≤ i → i < 200 → 0 ≤ wTa w i ∧ wTa w i ≤ 255) ∧ (∀ k : Int, 0 ≤ k → k < wK w → 0 ≤ wKi w k ∧ wKi w k ≤ 6) ∧ (∀ m : Int, lvM w m → matOK w m) ∧ (∀ m b : Int, lvM w m → 0 ≤ b → b < wBx w m → boxOK w m (12 * m + b)) ∧ (∀ s : Int, 0 ≤ s → s < 6 → shOK w s) ∧ 0 ≤ wBo w ∧ wBo w ≤ 100000
/-- the class's cells -/
def ObM (w : WD) (A : Int → Nat) (h : AH) (m : Int) : Prop := gK h (A m) = 106 ∧ gI h (A m) 0 = iv (wGr w m) ∧ gI h (A m) 1 = iv (wCh w m) ∧ gI h (A m) 5 = iv (wBx w m) ∧ gI h (A m) 6 = iv (wH w m) ∧ gR h (A m) 2 = A m + 1 ∧ gR h (A m) 3 = A m + 2 ∧ gR h (A m) 4 = A m + 3 ∧ gK h (A m + 1) = 10 ∧ gN h (A m + 1) = 12 ∧ gK h (A m + 2) = 11 ∧ gN h (A m + 2) = 8 ∧ gK h (A m + 3) = 1 ∧ gN h (A m + 3) = 12 ∧ (∀ p : Int, 0 ≤ p → p < 12 → gI h (A m + 3) p.toNat = iv (wW w m p)) ∧ (∀ b : Int, 0 ≤ b → b < wBx w m → gR h (A m + 1) b.toNat = A (10 + (12 * m + b))) ∧ ∀ k : Int, 0 ≤ k → k < wH w m → gR h (A m + 2) k.toNat = A (60 + (12 * m + k))
def ObB (w : WD) (A : Int → Nat) (h : AH) (m x : Int) : Prop := gK h (A (10 + x)) = 100 ∧ gR h (A (10 + x)) 0 = A m ∧ gR h (A (10 + x)) 1 = A (10 + x) + 1 ∧ gR h (A (10 + x)) 2 = A (10 + x) + 2 ∧ gR h (A (10 + x)) 3 = A (10 + x) + 3 ∧ gR h (A (10 + x)) 4 = A (10 + x) + 4 ∧ (gK h (A (10 + x) + 1) = 1 ∧ gN h (A (10 + x) + 1) = 4) ∧ (gK h (A (10 + x) + 2) = 1 ∧ gN h (A (10 + x) + 2) = 3) ∧ (gK h (A (10 + x) + 3) = 1 ∧ gN h (A (10 + x) + 3) = 3) ∧ (gK h (A (10 + x) + 4) = 1 ∧ gN h (A (10 + x) + 4) = 12) ∧
  (∀ g : Int, 0 ≤ g → g < 4 → gI h (A (10 + x) + 1) g.toNat = iv (wP w m x g)) ∧ (∀ k : Int, 0 ≤ k → k < 3 → gI h (A (10 + x) + 2) k.toNat = iv (wC w x k)) ∧ (∀ k : Int, 0 ≤ k → k < 3 → (wS2 w x = 1 → gI h (A (10 + x) + 3) k.toNat = iv (wL w x k)) ∧ (wCh w m ≤ k → gI h (A (10 + x) + 3) k.toNat = iv 0)) ∧ (∀ p : Int, 0 ≤ p → p < 3 * wGr w m → gI h (A (10 + x) + 4) p.toNat = iv (if wO w x = 1 then wSe w x p else 0)) ∧
  gI h (A (10 + x)) 5 = iv (wV w x) ∧ gI h (A (10 + x)) 6 = iv (wS2 w x) ∧ gI h (A (10 + x)) 7 = iv (wO w x)
def ObH (w : WD) (A : Int → Nat) (h : AH) (k : Int) : Prop := gK h (A (60 + k)) = 101 ∧ gI h (A (60 + k)) 0 = iv (hSo w k) ∧ gI h (A (60 + k)) 1 = iv (hCe w k / 10 * 3 + hCe w k % 10) ∧ gI h (A (60 + k)) 2 = iv (hBo w k) ∧ gI h (A (60 + k)) 3 = iv (hOt w k) ∧ gI h (A (60 + k)) 4 = iv (hMu w k)
def ObK (w : WD) (A : Int → Nat) (h : AH) (k : Int) : Prop := gK h (A (110 + k)) = 102 ∧ gI h (A (110 + k)) 0 = iv k ∧ gI h (A (110 + k)) 1 = iv (wKi w k) ∧ gR h (A (110 + k)) 2 = 10
def soR (so : Int) (v : Int64) : Prop := (so = 1 → -32768 ≤ v.toInt ∧ v.toInt ≤ 32767) ∧ (so = 2 → -2147483648 ≤ v.toInt ∧ v.toInt ≤ 2147483647)
def ObS (w : WD) (A : Int → Nat) (h : AH) (s : Int) : Prop := gI h (79 + 2 * s.toNat) 2 = iv (sSo w s) ∧ (0 ≤ sSo w s → gI h (79 + 2 * s.toNat) 3 = iv (sSz w s)) ∧ gR h (79 + 2 * s.toNat) 1 = (if sIs w s < 0 then 0 else A (110 + sIs w s)) ∧ ∀ i : Int, 0 ≤ i → i < 60 → gJ h (80 + 2 * s.toNat) i.toNat = sEl w (60 * s + i) ∧ soR (sSo w s) (sEl w (60 * s + i))
def Cls (w : WD) (A : Int → Nat) (h : AH) : Prop := gI h 3 9 = iv (wM w) ∧ gI h 3 10 = iv (wK w) ∧ gI h 4 2 = iv (wT w) ∧ (∀ i : Int, 0 ≤ i → i < 200 → gI h 5 i.toNat = iv (wTa w i)) ∧ (∀ i : Int, 0 ≤ i → i < 24 → gI h 11 i.toNat = iv (wTr w i)) ∧ gI h 10 1 = iv (wBo w) ∧ (∀ m : Int, lvM w m → gR h 7 m.toNat = A m) ∧ ∀ k : Int, 0 ≤ k → k < wK w → gR h 8 k.toNat = A (110 + k)
/-- the cells that live, and that they lie apart -/
def lvq (w : WD) (q : Int) : Prop := lvM w q ∨ (∃ m b : Int, lvM w m ∧ 0 ≤ b ∧ b < wBx w m ∧ q = 10 + (12 * m + b)) ∨ (∃ m k : Int, lvM w m ∧ 0 ≤ k ∧ k < wH w m ∧ q = 60 + (12 * m + k)) ∨ ∃ k : Int, 0 ≤ k ∧ k < wK w ∧ q = 110 + k
def sz (q : Int) : Nat := if q < 10 then 4 else if q < 60 then 5 else 1
def Sep (w : WD) (A : Int → Nat) (h : AH) : Prop := ∀ q : Int, lvq w q → 121 ≤ A q ∧ A q + sz q ≤ gC h ∧ ∀ q' : Int, lvq w q' → q ≠ q' → A q + sz q ≤ A q' ∨ A q' + sz q' ≤ A q
/-- the tables of a box, counted; what the class keeps of it -/
def cnX (w : WD) (m x : Int) : Int := cn [wP w m x 0, wP w m x 1, wP w m x 2, wP w m x 3] (wC w x 0) (wC w x 1) (wC w x 2)
def WyOK (w : WD) (A : Int → Nat) (h : AH) : Prop := ∀ m b : Int, lvM w m → 0 ≤ b → b < wBx w m → gJ h (A (10 + (12 * m + b))) 8 = jv 0 ∨ gJ h (A (10 + (12 * m + b))) 8 = jv (cnX w m (12 * m + b))
/-- what the reference's methods need -/
def QS (w : WD) (h : AH) : Prop := Fix h ∧ RR w h ∧ WI w
def Sim (w : WD) (A : Int → Nat) (h : AH) : Prop := Fix h ∧ RR w h ∧ WI w ∧ Cls w A h ∧ (∀ m : Int, lvM w m → ObM w A h m) ∧ (∀ m b : Int, lvM w m → 0 ≤ b → b < wBx w m → ObB w A h m (12 * m + b)) ∧ (∀ m k : Int, lvM w m → 0 ≤ k → k < wH w m → ObH w A h (12 * m + k)) ∧ (∀ k : Int, 0 ≤ k → k < wK w → ObK w A h k) ∧ (∀ s : Int, 0 ≤ s → s < 6 → ObS w A h s) ∧ Sep w A h ∧ 121 ≤ gC h ∧ WyOK w A h
/-! parts of what the class's cells hold, one by one -/
section P
variable {w : WD} {A : Int → Nat} {h : AH} {m x : Int}
theorem oB_k (H : ObB w A h m x) : gK h (A (10 + x)) = 100 := H.1
theorem oB_0 (H : ObB w A h m x) : gR h (A (10 + x)) 0 = A m := H.2.1
theorem oB_1 (H : ObB w A h m x) : gR h (A (10 + x)) 1 = A (10 + x) + 1 := H.2.2.1
theorem oB_2 (H : ObB w A h m x) : gR h (A (10 + x)) 2 = A (10 + x) + 2 := H.2.2.2.1
theorem oB_3 (H : ObB w A h m x) : gR h (A (10 + x)) 3 = A (10 + x) + 3 := H.2.2.2.2.1
theorem oB_4 (H : ObB w A h m x) : gR h (A (10 + x)) 4 = A (10 + x) + 4 := H.2.2.2.2.2.1
theorem oB_k1 (H : ObB w A h m x) : gK h (A (10 + x) + 1) = 1 := H.2.2.2.2.2.2.1.1
theorem oB_n1 (H : ObB w A h m x) : gN h (A (10 + x) + 1) = 4 := H.2.2.2.2.2.2.1.2
theorem oB_k2 (H : ObB w A h m x) : gK h (A (10 + x) + 2) = 1 := H.2.2.2.2.2.2.2.1.1
theorem oB_n2 (H : ObB w A h m x) : gN h (A (10 + x) + 2) = 3 := H.2.2.2.2.2.2.2.1.2
theorem oB_k3 (H : ObB w A h m x) : gK h (A (10 + x) + 3) = 1 := H.2.2.2.2.2.2.2.2.1.1
theorem oB_n3 (H : ObB w A h m x) : gN h (A (10 + x) + 3) = 3 := H.2.2.2.2.2.2.2.2.1.2
theorem oB_k4 (H : ObB w A h m x) : gK h (A (10 + x) + 4) = 1 := H.2.2.2.2.2.2.2.2.2.1.1
theorem oB_n4 (H : ObB w A h m x) : gN h (A (10 + x) + 4) = 12 := H.2.2.2.2.2.2.2.2.2.1.2
theorem oB_d1 (H : ObB w A h m x) {g : Int} (g0 : 0 ≤ g) (g1 : g < 4) : gI h (A (10 + x) + 1) g.toNat = iv (wP w m x g) := H.2.2.2.2.2.2.2.2.2.2.1 g g0 g1
theorem oB_d2 (H : ObB w A h m x) {k : Int} (g0 : 0 ≤ k) (g1 : k < 3) : gI h (A (10 + x) + 2) k.toNat = iv (wC w x k) := H.2.2.2.2.2.2.2.2.2.2.2.1 k g0 g1
theorem oB_d3 (H : ObB w A h m x) (e : wS2 w x = 1) {k : Int} (g0 : 0 ≤ k) (g1 : k < 3) : gI h (A (10 + x) + 3) k.toNat = iv (wL w x k) := (H.2.2.2.2.2.2.2.2.2.2.2.2.1 k g0 g1).1 e
theorem oB_d4 (H : ObB w A h m x) {p : Int} (g0 : 0 ≤ p) (g1 : p < 3 * wGr w m) : gI h (A (10 + x) + 4) p.toNat = iv (if wO w x = 1 then wSe w x p else 0) := H.2.2.2.2.2.2.2.2.2.2.2.2.2.1 p g0 g1
theorem oB_5 (H : ObB w A h m x) : gI h (A (10 + x)) 5 = iv (wV w x) := H.2.2.2.2.2.2.2.2.2.2.2.2.2.2.1
theorem oB_6 (H : ObB w A h m x) : gI h (A (10 + x)) 6 = iv (wS2 w x) := H.2.2.2.2.2.2.2.2.2.2.2.2.2.2.2.1
theorem oB_7 (H : ObB w A h m x) : gI h (A (10 + x)) 7 = iv (wO w x) := H.2.2.2.2.2.2.2.2.2.2.2.2.2.2.2.2
theorem oM_k (H : ObM w A h m) : gK h (A m) = 106 := H.1
theorem oM_0 (H : ObM w A h m) : gI h (A m) 0 = iv (wGr w m) := H.2.1
theorem oM_1 (H : ObM w A h m) : gI h (A m) 1 = iv (wCh w m) := H.2.2.1
theorem oM_5 (H : ObM w A h m) : gI h (A m) 5 = iv (wBx w m) := H.2.2.2.1
theorem oM_6 (H : ObM w A h m) : gI h (A m) 6 = iv (wH w m) := H.2.2.2.2.1
theorem oM_2 (H : ObM w A h m) : gR h (A m) 2 = A m + 1 := H.2.2.2.2.2.1
theorem oM_3 (H : ObM w A h m) : gR h (A m) 3 = A m + 2 := H.2.2.2.2.2.2.1
theorem oM_4 (H : ObM w A h m) : gR h (A m) 4 = A m + 3 := H.2.2.2.2.2.2.2.1
theorem oM_k1 (H : ObM w A h m) : gK h (A m + 1) = 10 := H.2.2.2.2.2.2.2.2.1
theorem oM_n1 (H : ObM w A h m) : gN h (A m + 1) = 12 := H.2.2.2.2.2.2.2.2.2.1
theorem oM_k2 (H : ObM w A h m) : gK h (A m + 2) = 11 := H.2.2.2.2.2.2.2.2.2.2.1
theorem oM_n2 (H : ObM w A h m) : gN h (A m + 2) = 8 := H.2.2.2.2.2.2.2.2.2.2.2.1
theorem oM_k3 (H : ObM w A h m) : gK h (A m + 3) = 1 := H.2.2.2.2.2.2.2.2.2.2.2.2.1
theorem oM_n3 (H : ObM w A h m) : gN h (A m + 3) = 12 := H.2.2.2.2.2.2.2.2.2.2.2.2.2.1
theorem oM_w (H : ObM w A h m) {p : Int} (g0 : 0 ≤ p) (g1 : p < 12) : gI h (A m + 3) p.toNat = iv (wW w m p) := H.2.2.2.2.2.2.2.2.2.2.2.2.2.2.1 p g0 g1
theorem oM_b (H : ObM w A h m) {b : Int} (g0 : 0 ≤ b) (g1 : b < wBx w m) : gR h (A m + 1) b.toNat = A (10 + (12 * m + b)) := H.2.2.2.2.2.2.2.2.2.2.2.2.2.2.2.1 b g0 g1
theorem oM_h (H : ObM w A h m) {k : Int} (g0 : 0 ≤ k) (g1 : k < wH w m) : gR h (A m + 2) k.toNat = A (60 + (12 * m + k)) := H.2.2.2.2.2.2.2.2.2.2.2.2.2.2.2.2 k g0 g1
theorem oB_v (H : boxOK w m x) {g : Int} (g0 : 0 ≤ g) (g1 : g < 4) : 0 ≤ wP w m x g ∧ wP w m x g ≤ 99 := H.1 g g0 g1
theorem oB_c (H : boxOK w m x) {k : Int} (g0 : 0 ≤ k) (g1 : k < 3) : 0 ≤ wC w x k ∧ wC w x k ≤ 99 := H.2.1 k g0 g1
theorem oB_g (H : boxOK w m x) {g : Int} (g0 : 0 ≤ g) (g1 : g < wGr w m) (g2 : g < 4) : 0 ≤ wG w x g ∧ wG w x g ≤ 99 := by
  have := H.1 g g0 g2
  rwa [show wP w m x g = wG w x g from if_pos g1] at this
theorem oB_dg (H : ObB w A h m x) {g : Int} (g0 : 0 ≤ g) (g1 : g < wGr w m) (g2 : g < 4) : gI h (A (10 + x) + 1) g.toNat = iv (wG w x g) := by
  have := oB_d1 H g0 g2
  rwa [show wP w m x g = wG w x g from if_pos g1] at this
end P
