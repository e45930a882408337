/-! a box opened: what is seen in it -/
section Q
variable {w w' : WD} {A A' : Int → Nat} {h h' h1 : AH} {m b s i x : Int}
theorem mvRow_ok {g rest : Int} (g0 : 0 ≤ g) : ∀ (n : Nat) (k : Int), 0 ≤ k → mvRow w s i m x g rest n k = -2 → (∀ k' : Int, k ≤ k' → k' < k + n → ¬ wrong0 w s i m x g k') ∧ rest = -2 := by
  intro n
  induction n with
  | zero => intro k k0 e; exact ⟨fun k' y z => by omega, e⟩
  | succ n ih =>
    intro k k0 e
    by_cases z : wrong0 w s i m x g k
    · rw [mvRow_pos z] at e; omega
    · rw [mvRow_neg z] at e
      obtain ⟨i1, i2⟩ := ih (k + 1) (by omega) e
      refine ⟨fun k' y y2 => ?_, i2⟩
      by_cases q : k' = k
      · rw [q]; exact z
      · exact i1 k' (by omega) (by omega)
theorem mvAll_ok : ∀ (n : Nat) (g : Int), 0 ≤ g → mvAll w s i m x n g = -2 → ∀ g' k : Int, g ≤ g' → g' < g + n → 0 ≤ k → k < wCh w m → ¬ wrong0 w s i m x g' k := by
  intro n
  induction n with
  | zero => intro g g0 e g' k y z; omega
  | succ n ih =>
    intro g g0 e g' k y z k0 k1
    obtain ⟨r1, r2⟩ := mvRow_ok g0 (wCh w m).toNat 0 (by omega) e
    by_cases q : g' = g
    · rw [q]; exact r1 k k0 (by omega)
    · exact ih (g + 1) (by omega) r2 g' k (by omega) (by omega) k0 k1
theorem jv_inj {a c : Int} (a0 : -9223372036854775808 ≤ a ∧ a ≤ 9223372036854775807) (c0 : -9223372036854775808 ≤ c ∧ c ≤ 9223372036854775807) (e : jv a = jv c) : a = c := by
  have := congrArg Int64.toInt e
  rwa [jv_int a0.1 a0.2, jv_int c0.1 c0.2] at this
/-- the q-th element from i on, as a number -/
def opE (w : WD) (s i : Int) (q : Nat) : Int := (sEl w (60 * s + i + q)).toInt
theorem op_rng (hS : Sim w A h) (hl : lvM w m) (b0 : 0 ≤ b) (tb : b < wBx w m) (s0 : 0 ≤ s) (s1 : s < 6) (i0 : 0 ≤ i) (i1 : i + wGr w m * wCh w m ≤ 60) (so : sSo w s = 2) (ok : mvAll w s i m (12 * m + b) (wGr w m).toNat 0 = -2) {C G : Nat} (hC : (C : Int) = wCh w m) (hG : (G : Int) = wGr w m) : ∀ q : Nat, q < G * C → 0 ≤ opE w s i q ∧ opE w s i q ≤ 99 := by
  obtain ⟨⟨gg1, gg2⟩, ⟨gc1, gc2⟩, -⟩ := hS.W.mat hl
  have e : ∀ q : Nat, q < G * C → ∃ z : Int, sEl w (60 * s + i + q) = jv z ∧ opE w s i q = z ∧ -2147483648 ≤ z ∧ z ≤ 2147483647 := fun q hq => by
    have hb : i + (G : Int) * C ≤ 60 := by rw [hG, hC]; omega
    have hq' : (q : Int) < G * C := by exact_mod_cast hq
    have r := ((hS.S s0 s1).2.2.2 (i + q) (by omega) (by omega)).2.2 so
    rw [← Int.add_assoc] at r
    exact ⟨(sEl w (60 * s + i + q)).toInt, (jv_self _).symm, rfl, r⟩
  have nw0 := mvAll_ok (wGr w m).toNat 0 (by omega) ok
  have pos : ∀ g k : Nat, g < G → k < C → 0 ≤ opE w s i (C * g + k) := fun g k hg hk => by
    have hlt : C * g + k < G * C := by
      have : C * (g + 1) ≤ C * G := Nat.mul_le_mul_left C hg
      rw [Nat.mul_comm G C]; rw [Nat.mul_add] at this; omega
    obtain ⟨z, e1, e2, e3, e4⟩ := e _ hlt
    have n1 := nw0 g k (by omega) (by omega) (by omega) (by omega)
    rw [e2]
    by_cases q : 0 ≤ z
    · exact q
    · refine absurd (Or.inl ?_) n1
      unfold wrE
      rw [show 60 * s + i + wCh w m * (g : Int) + (k : Int) = 60 * s + i + ((C * g + k : Nat) : Int) by rw [← hC]; push_cast; omega, e1, lc_ge (by omega)]
      exact q
  have row : ∀ g : Nat, g < G → wrR w s i m g = jv (wG w (12 * m + b) g) := fun g hg => by
    have n1 := nw0 g (wCh w m - 1) (by omega) (by omega) (by omega) (by omega)
    by_cases q : lg_cmp (wrR w s i m g) (jv (wG w (12 * m + b) g)) = iv 0
    · obtain ⟨z, e1, e2, e3⟩ := jv_ex (wrR w s i m g)
      have bg := oB_g (hS.W.box hl b0 tb) (g := g) (by omega) (by omega) (by omega)
      rw [e1, lc_eq (by omega)] at q
      rw [e1, q]
    · exact absurd (Or.inr (Or.inl ⟨rfl, q⟩)) n1
  intro q hq
  have bg : ∀ g : Nat, g < G → 0 ≤ wG w (12 * m + b) g ∧ wG w (12 * m + b) g ≤ 99 := fun g hg => oB_g (hS.W.box hl b0 tb) (g := g) (by omega) (by omega) (by omega)
  rcases (show C = 2 ∨ C = 3 by omega) with c2 | c2 <;> subst c2
  · have hg : q / 2 < G := by omega
    have r := row _ hg
    have bb := bg _ hg
    obtain ⟨z0, x1, x2, x3, x4⟩ := e (2 * (q / 2) + 0) (by omega)
    obtain ⟨z1, y1, y2, y3, y4⟩ := e (2 * (q / 2) + 1) (by omega)
    have p0 := pos (q / 2) 0 hg (by omega)
    have p1 := pos (q / 2) 1 hg (by omega)
    have er : wrR w s i m (q / 2 : Nat) = jv 0 + wrE w s i m (q / 2 : Nat) 0 + wrE w s i m (q / 2 : Nat) 1 := by
      unfold wrR
      rw [← hC]
      rfl
    unfold wrE at er
    rw [show 60 * s + i + wCh w m * ((q / 2 : Nat) : Int) + 0 = 60 * s + i + ((2 * (q / 2) + 0 : Nat) : Int) by rw [← hC]; push_cast; omega, show 60 * s + i + wCh w m * ((q / 2 : Nat) : Int) + 1 = 60 * s + i + ((2 * (q / 2) + 1 : Nat) : Int) by rw [← hC]; push_cast; omega, x1, y1, r, jv_add, jv_add] at er
    have := jv_inj (by omega) (by omega) er
    rcases (show q = 2 * (q / 2) + 0 ∨ q = 2 * (q / 2) + 1 by omega) with t | t <;> rw [t] <;> omega
  · have hg : q / 3 < G := by omega
    have r := row _ hg
    have bb := bg _ hg
    obtain ⟨z0, x1, x2, x3, x4⟩ := e (3 * (q / 3) + 0) (by omega)
    obtain ⟨z1, y1, y2, y3, y4⟩ := e (3 * (q / 3) + 1) (by omega)
    obtain ⟨z2, u1, u2, u3, u4⟩ := e (3 * (q / 3) + 2) (by omega)
    have p0 := pos (q / 3) 0 hg (by omega)
    have p1 := pos (q / 3) 1 hg (by omega)
    have p2 := pos (q / 3) 2 hg (by omega)
    have er : wrR w s i m (q / 3 : Nat) = jv 0 + wrE w s i m (q / 3 : Nat) 0 + wrE w s i m (q / 3 : Nat) 1 + wrE w s i m (q / 3 : Nat) 2 := by
      unfold wrR
      rw [← hC]
      rfl
    unfold wrE at er
    rw [show 60 * s + i + wCh w m * ((q / 3 : Nat) : Int) + 0 = 60 * s + i + ((3 * (q / 3) + 0 : Nat) : Int) by rw [← hC]; push_cast; omega, show 60 * s + i + wCh w m * ((q / 3 : Nat) : Int) + 1 = 60 * s + i + ((3 * (q / 3) + 1 : Nat) : Int) by rw [← hC]; push_cast; omega, show 60 * s + i + wCh w m * ((q / 3 : Nat) : Int) + 2 = 60 * s + i + ((3 * (q / 3) + 2 : Nat) : Int) by rw [← hC]; push_cast; omega, x1, y1, u1, r, jv_add, jv_add, jv_add] at er
    have := jv_inj (by omega) (by omega) er
    rcases (show q = 3 * (q / 3) + 0 ∨ q = 3 * (q / 3) + 1 ∨ q = 3 * (q / 3) + 2 by omega) with t | t | t <;> rw [t] <;> omega
/-- the heaps and the world after the first q elements -/
def opC (h : AH) (B C : Nat) (E : Nat → Int) : Nat → AH
  | 0 => h
  | q + 1 => sI (opC h B C E q) (B + 4) (3 * (q / C) + q % C) (iv (E q))
def opQ (h : AH) (x : Int) (C : Nat) (E : Nat → Int) : Nat → AH
  | 0 => h
  | q + 1 => sI (opQ h x C E q) 99 (12 * x + (3 * (q / C) + q % C : Nat)).toNat (iv (E q))
def opW (w : WD) (x : Int) (C : Nat) (E : Nat → Int) : Nat → WD
  | 0 => w
  | q + 1 => wZ (opW w x C E q) 99 (12 * x + (3 * (q / C) + q % C : Nat)) (E q)
/-- nothing in the third place -/
def opQ2 (h : AH) (x : Int) : Nat → AH
  | 0 => h
  | g + 1 => sI (opQ2 h x g) 99 (12 * x + (3 * g + 2 : Nat)).toNat (iv 0)
def opW2 (w : WD) (x : Int) : Nat → WD
  | 0 => w
  | g + 1 => wZ (opW2 w x g) 99 (12 * x + (3 * g + 2 : Nat)) 0
section R
variable {B C : Nat} {E : Nat → Int}
theorem opC_K (q a : Nat) : gK (opC h B C E q) a = gK h a := by
  induction q with
  | zero => rfl
  | succ q ih => exact ih
theorem opC_N (q a : Nat) : gN (opC h B C E q) a = gN h a := by
  induction q with
  | zero => rfl
  | succ q ih => exact ih
theorem opC_R (q a j : Nat) : gR (opC h B C E q) a j = gR h a j := by
  induction q with
  | zero => rfl
  | succ q ih => exact ih
theorem opC_J (q a j : Nat) : gJ (opC h B C E q) a j = gJ h a j := by
  induction q with
  | zero => rfl
  | succ q ih => exact ih
theorem opC_C (q : Nat) : gC (opC h B C E q) = gC h := by
  induction q with
  | zero => rfl
  | succ q ih => exact ih
theorem opC_S (q : Nat) : gS (opC h B C E q) = gS h := by
  induction q with
  | zero => rfl
  | succ q ih => exact ih
theorem opC_I (q : Nat) {a j : Nat} (z : a ≠ B + 4) : gI (opC h B C E q) a j = gI h a j := by
  induction q with
  | zero => rfl
  | succ q ih => exact (gI_sIo _ _ (Or.inl z)).trans ih
theorem opC_v (hC : C = 2 ∨ C = 3) (q p : Nat) : gI (opC h B C E q) (B + 4) p = if p % 3 < C ∧ p / 3 * C + p % 3 < q then iv (E (p / 3 * C + p % 3)) else gI h (B + 4) p := by
  induction q with
  | zero => rw [if_neg (by omega)]; rfl
  | succ q ih =>
    show gI (sI (opC h B C E q) (B + 4) (3 * (q / C) + q % C) (iv (E q))) (B + 4) p = _
    by_cases z : p = 3 * (q / C) + q % C
    · have e1 : p % 3 < C ∧ p / 3 * C + p % 3 = q := by rcases hC with y | y <;> subst y <;> omega
      rw [z, gI_sIs, ← z, if_pos (by omega), e1.2]
    · rw [gI_sIo _ _ (Or.inr z), ih]
      by_cases y : p % 3 < C ∧ p / 3 * C + p % 3 < q
      · rw [if_pos y, if_pos (by omega)]
      · rw [if_neg y, if_neg (by intro u; apply y; refine ⟨u.1, ?_⟩; rcases hC with y | y <;> subst y <;> omega)]
theorem opQ_K (q a : Nat) : gK (opQ h x C E q) a = gK h a := by
  induction q with
  | zero => rfl
  | succ q ih => exact ih
theorem opQ_N (q a : Nat) : gN (opQ h x C E q) a = gN h a := by
  induction q with
  | zero => rfl
  | succ q ih => exact ih
theorem opQ_R (q a j : Nat) : gR (opQ h x C E q) a j = gR h a j := by
  induction q with
  | zero => rfl
  | succ q ih => exact ih
theorem opQ_J (q a j : Nat) : gJ (opQ h x C E q) a j = gJ h a j := by
  induction q with
  | zero => rfl
  | succ q ih => exact ih
theorem opQ_C (q : Nat) : gC (opQ h x C E q) = gC h := by
  induction q with
  | zero => rfl
  | succ q ih => exact ih
theorem opQ_S (q : Nat) : gS (opQ h x C E q) = gS h := by
  induction q with
  | zero => rfl
  | succ q ih => exact ih
theorem opQ_I (q : Nat) {a j : Nat} (z : a ≠ 99) : gI (opQ h x C E q) a j = gI h a j := by
  induction q with
  | zero => rfl
  | succ q ih => exact (gI_sIo _ _ (Or.inl z)).trans ih
theorem opQ2_K (q a : Nat) : gK (opQ2 h x q) a = gK h a := by
  induction q with
  | zero => rfl
  | succ q ih => exact ih
theorem opQ2_N (q a : Nat) : gN (opQ2 h x q) a = gN h a := by
  induction q with
  | zero => rfl
  | succ q ih => exact ih
theorem opQ2_R (q a j : Nat) : gR (opQ2 h x q) a j = gR h a j := by
  induction q with
  | zero => rfl
  | succ q ih => exact ih
theorem opQ2_J (q a j : Nat) : gJ (opQ2 h x q) a j = gJ h a j := by
  induction q with
  | zero => rfl
  | succ q ih => exact ih
theorem opQ2_C (q : Nat) : gC (opQ2 h x q) = gC h := by
  induction q with
  | zero => rfl
  | succ q ih => exact ih
theorem opQ2_S (q : Nat) : gS (opQ2 h x q) = gS h := by
  induction q with
  | zero => rfl
  | succ q ih => exact ih
theorem opQ2_I (q : Nat) {a j : Nat} (z : a ≠ 99) : gI (opQ2 h x q) a j = gI h a j := by
  induction q with
  | zero => rfl
  | succ q ih => exact (gI_sIo _ _ (Or.inl z)).trans ih
theorem opQ_RR (H : RR w h) (x0 : 0 ≤ x) (q : Nat) : RR (opW w x C E q) (opQ h x C E q) := by
  induction q with
  | zero => exact H
  | succ q ih => exact RR_wZ ih (by omega) (by omega) (by omega)
theorem opQ2_RR (H : RR w h) (x0 : 0 ≤ x) (q : Nat) : RR (opW2 w x q) (opQ2 h x q) := by
  induction q with
  | zero => exact H
  | succ q ih => exact RR_wZ ih (by omega) (by omega) (by omega)
theorem opW_o (q : Nat) {a : Nat} {z : Int} (y : a ≠ 99) : (opW w x C E q).1 a z = w.1 a z := by
  induction q with
  | zero => rfl
  | succ q ih => exact (wZ_o _ (Or.inl y)).trans ih
theorem opW_2 (q : Nat) : (opW w x C E q).2 = w.2 := by
  induction q with
  | zero => rfl
  | succ q ih => exact ih
theorem opW2_o (q : Nat) {a : Nat} {z : Int} (y : a ≠ 99) : (opW2 w x q).1 a z = w.1 a z := by
  induction q with
  | zero => rfl
  | succ q ih => exact (wZ_o _ (Or.inl y)).trans ih
theorem opW2_2 (q : Nat) : (opW2 w x q).2 = w.2 := by
  induction q with
  | zero => rfl
  | succ q ih => exact ih
theorem opW_v (hC : C = 2 ∨ C = 3) (q p : Nat) : (opW w x C E q).1 99 (12 * x + p) = if p % 3 < C ∧ p / 3 * C + p % 3 < q then E (p / 3 * C + p % 3) else w.1 99 (12 * x + p) := by
  induction q with
  | zero => rw [if_neg (by omega)]; rfl
  | succ q ih =>
    show (wZ (opW w x C E q) 99 (12 * x + (3 * (q / C) + q % C : Nat)) (E q)).1 99 (12 * x + p) = _
    by_cases z : p = 3 * (q / C) + q % C
    · have e1 : p % 3 < C ∧ p / 3 * C + p % 3 = q := by rcases hC with y | y <;> subst y <;> omega
      rw [← z, wZ_at, if_pos (by omega), e1.2]
    · rw [wZ_o _ (Or.inr (by omega)), ih]
      by_cases y : p % 3 < C ∧ p / 3 * C + p % 3 < q
      · rw [if_pos y, if_pos (by omega)]
      · rw [if_neg y, if_neg (by intro u; apply y; refine ⟨u.1, ?_⟩; rcases hC with y | y <;> subst y <;> omega)]
theorem opW_f {n : Nat} (hC : C = 2 ∨ C = 3) (hn : n ≤ 4 * C) (q : Nat) (hq : q ≤ n) {z : Int} (y : z < 12 * x ∨ 12 * x + 12 ≤ z) : (opW w x C E q).1 99 z = w.1 99 z := by
  induction q with
  | zero => rfl
  | succ q ih =>
    have : 3 * (q / C) + q % C < 12 := by rcases hC with u | u <;> subst u <;> omega
    exact (wZ_o _ (Or.inr (by omega))).trans (ih (by omega))
theorem opW2_v (g p : Nat) : (opW2 w x g).1 99 (12 * x + p) = if p % 3 = 2 ∧ p / 3 < g then 0 else w.1 99 (12 * x + p) := by
  induction g with
  | zero => rw [if_neg (by omega)]; rfl
  | succ g ih =>
    show (wZ (opW2 w x g) 99 (12 * x + (3 * g + 2 : Nat)) 0).1 99 (12 * x + p) = _
    by_cases z : p = 3 * g + 2
    · rw [← z, wZ_at, if_pos (by omega)]
    · rw [wZ_o _ (Or.inr (by omega)), ih]
      by_cases y : p % 3 = 2 ∧ p / 3 < g
      · rw [if_pos y, if_pos (by omega)]
      · rw [if_neg y, if_neg (by omega)]
theorem opW2_f (g : Nat) (hg : g ≤ 4) {z : Int} (y : z < 12 * x ∨ 12 * x + 12 ≤ z) : (opW2 w x g).1 99 z = w.1 99 z := by
  induction g with
  | zero => rfl
  | succ g ih => exact (wZ_o _ (Or.inr (by omega))).trans (ih (by omega))
end R
end Q
