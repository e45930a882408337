/-! a box more: the heap that it makes -/
def suU (u : Nat → Int) : Nat → Int
  | 0 => 0
  | n + 1 => suU u n + u n
def fiC (h : AH) (c : Nat) (u : Nat → Int) : Nat → AH
  | 0 => h
  | n + 1 => sI (fiC h c u n) c n (iv (u n))
def bxN (h : AH) (M : Nat) : AH := sR (sR (nw (sR (nw (sR (nw (sR (nw (nw h 100 9) 1 4) (gC h) 1 (gC h + 1)) 1 3) (gC h) 2 (gC h + 2)) 1 3) (gC h) 3 (gC h + 3)) 1 12) (gC h) 4 (gC h + 4)) (gC h) 0 M
/-- one box more in the cells: M the matter, b its boxes so far, u the sums -/
def abC (h : AH) (M b G C : Nat) (u : Nat → Int) : AH := sR (sI (fiC (fiC (bxN (sI h M 5 (iv (b + 1))) M) (gC h + 1) u G) (gC h + 2) (fun k => u (G + k)) C) (gC h) 5 (iv (suU u G))) (M + 1) b (gC h)
section R
variable {h : AH} {c M b G C : Nat} {u : Nat → Int}
theorem suU_rng (n : Nat) : (∀ j, j < n → 0 ≤ u j ∧ u j ≤ 99) → 0 ≤ suU u n ∧ suU u n ≤ 99 * n := by
  induction n with
  | zero => exact fun _ => ⟨Int.le_refl _, by simp [suU]⟩
  | succ n ih =>
    intro hu
    have := ih (fun j hj => hu j (by omega))
    have := hu n (by omega)
    show 0 ≤ suU u n + u n ∧ suU u n + u n ≤ 99 * ((n + 1 : Nat) : Int)
    omega
theorem fiC_K (n a : Nat) : gK (fiC h c u n) a = gK h a := by
  induction n with
  | zero => rfl
  | succ n ih => exact ih
theorem fiC_N (n a : Nat) : gN (fiC h c u n) a = gN h a := by
  induction n with
  | zero => rfl
  | succ n ih => exact ih
theorem fiC_R (n a i : Nat) : gR (fiC h c u n) a i = gR h a i := by
  induction n with
  | zero => rfl
  | succ n ih => exact ih
theorem fiC_J (n a i : Nat) : gJ (fiC h c u n) a i = gJ h a i := by
  induction n with
  | zero => rfl
  | succ n ih => exact ih
theorem fiC_C (n : Nat) : gC (fiC h c u n) = gC h := by
  induction n with
  | zero => rfl
  | succ n ih => exact ih
theorem fiC_S (n : Nat) : gS (fiC h c u n) = gS h := by
  induction n with
  | zero => rfl
  | succ n ih => exact ih
theorem fiC_I (n : Nat) {a i : Nat} (z : a ≠ c) : gI (fiC h c u n) a i = gI h a i := by
  induction n with
  | zero => rfl
  | succ n ih => exact (gI_sIo _ _ (Or.inl z)).trans ih
theorem fiC_v (n i : Nat) : gI (fiC h c u n) c i = if i < n then iv (u i) else gI h c i := by
  induction n with
  | zero => rw [if_neg (by omega)]; rfl
  | succ n ih =>
    show gI (sI (fiC h c u n) c n (iv (u n))) c i = _
    by_cases q : i = n
    · rw [q, gI_sIs, if_pos (by omega)]
    · rw [gI_sIo _ _ (Or.inr q), ih]
      by_cases y : i < n
      · rw [if_pos y, if_pos (by omega)]
      · rw [if_neg y, if_neg (by omega)]
theorem gK_nwi (h : AH) (k n a : Nat) : gK (nw h k n) a = if a = gC h then k else gK h a := rfl
theorem gN_nwi (h : AH) (k n a : Nat) : gN (nw h k n) a = if a = gC h then n else gN h a := rfl
theorem gI_nwi (h : AH) (k n a i : Nat) : gI (nw h k n) a i = if a = gC h then iv 0 else gI h a i := rfl
theorem gJ_nwi (h : AH) (k n a i : Nat) : gJ (nw h k n) a i = if a = gC h then jv 0 else gJ h a i := rfl
theorem gR_nwi (h : AH) (k n a i : Nat) : gR (nw h k n) a i = if a = gC h then 0 else gR h a i := rfl
theorem gR_sRi (h : AH) (a i v b j : Nat) : gR (sR h a i v) b j = if b = a ∧ j = i then v else gR h b j := rfl
theorem gS_nw (h : AH) (k n : Nat) : gS (nw h k n) = gS h + n := rfl
theorem gS_sR (h : AH) (a i v : Nat) : gS (sR h a i v) = gS h := rfl
theorem gS_sI (h : AH) (a i : Nat) (v : Int32) : gS (sI h a i v) = gS h := rfl
theorem bxN_C : gC (bxN h M) = gC h + 5 := by simp only [bxN, gC_sR, gC_nw, Nat.add_assoc, Nat.reduceAdd]
theorem bxN_S : gS (bxN h M) = gS h + 31 := by simp only [bxN, gS_sR, gS_nw, Nat.add_assoc, Nat.reduceAdd]
theorem bxN_K (a : Nat) : gK (bxN h M) a = if a = gC h + 4 then 1 else if a = gC h + 3 then 1 else if a = gC h + 2 then 1 else if a = gC h + 1 then 1 else if a = gC h then 100 else gK h a := by simp only [bxN, gK_sR, gK_nwi, gC_sR, gC_nw, Nat.add_assoc, Nat.reduceAdd]; rfl
theorem bxN_N (a : Nat) : gN (bxN h M) a = if a = gC h + 4 then 12 else if a = gC h + 3 then 3 else if a = gC h + 2 then 3 else if a = gC h + 1 then 4 else if a = gC h then 9 else gN h a := by simp only [bxN, gN_sR, gN_nwi, gC_sR, gC_nw, Nat.add_assoc, Nat.reduceAdd]; rfl
theorem bxN_I (a i : Nat) : gI (bxN h M) a i = if a = gC h + 4 then iv 0 else if a = gC h + 3 then iv 0 else if a = gC h + 2 then iv 0 else if a = gC h + 1 then iv 0 else if a = gC h then iv 0 else gI h a i := by simp only [bxN, gI_sR, gI_nwi, gC_sR, gC_nw, Nat.add_assoc, Nat.reduceAdd]; rfl
theorem bxN_J (a i : Nat) : gJ (bxN h M) a i = if a = gC h + 4 then jv 0 else if a = gC h + 3 then jv 0 else if a = gC h + 2 then jv 0 else if a = gC h + 1 then jv 0 else if a = gC h then jv 0 else gJ h a i := by simp only [bxN, gJ_sR, gJ_nwi, gC_sR, gC_nw, Nat.add_assoc, Nat.reduceAdd]; rfl
theorem bxN_R (a i : Nat) : gR (bxN h M) a i = if a = gC h ∧ i = 0 then M else if a = gC h ∧ i = 4 then gC h + 4 else if a = gC h + 4 then 0 else if a = gC h ∧ i = 3 then gC h + 3 else if a = gC h + 3 then 0 else if a = gC h ∧ i = 2 then gC h + 2 else if a = gC h + 2 then 0 else if a = gC h ∧ i = 1 then gC h + 1 else if a = gC h + 1 then 0 else if a = gC h then 0 else gR h a i := by simp only [bxN, gR_sRi, gR_nwi, gC_sR, gC_nw, Nat.add_assoc, Nat.reduceAdd]; rfl
theorem abC_C : gC (abC h M b G C u) = gC h + 5 := by
  unfold abC
  rw [gC_sR, gC_sI, fiC_C, fiC_C, bxN_C, gC_sI]
theorem abC_S : gS (abC h M b G C u) = gS h + 31 := by
  unfold abC
  rw [gS_sR, gS_sI, fiC_S, fiC_S, bxN_S, gS_sI]
theorem abC_K (a : Nat) : gK (abC h M b G C u) a = gK (bxN (sI h M 5 (iv (b + 1))) M) a := by
  unfold abC
  rw [gK_sR, gK_sI, fiC_K, fiC_K]
theorem abC_N (a : Nat) : gN (abC h M b G C u) a = gN (bxN (sI h M 5 (iv (b + 1))) M) a := by
  unfold abC
  rw [gN_sR, gN_sI, fiC_N, fiC_N]
theorem abC_J (a i : Nat) : gJ (abC h M b G C u) a i = gJ (bxN (sI h M 5 (iv (b + 1))) M) a i := by
  unfold abC
  rw [gJ_sR, gJ_sI, fiC_J, fiC_J]
theorem abC_R (a i : Nat) : gR (abC h M b G C u) a i = if a = M + 1 ∧ i = b then gC h else gR (bxN (sI h M 5 (iv (b + 1))) M) a i := by
  unfold abC
  rw [gR_sRi, gR_sI, fiC_R, fiC_R]
theorem abC_I (a i : Nat) : gI (abC h M b G C u) a i = gI (sI (fiC (fiC (bxN (sI h M 5 (iv (b + 1))) M) (gC h + 1) u G) (gC h + 2) (fun k => u (G + k)) C) (gC h) 5 (iv (suU u G))) a i := by
  unfold abC
  rw [gI_sR]
/-- what stood stands, but for the matter's count and its list -/
theorem abC_low (hM : M + 4 ≤ gC h) (a : Nat) (ha : a < gC h) : gK (abC h M b G C u) a = gK h a ∧ gN (abC h M b G C u) a = gN h a ∧ (∀ i, (a ≠ M ∨ i ≠ 5) → gI (abC h M b G C u) a i = gI h a i) ∧ (∀ i, gJ (abC h M b G C u) a i = gJ h a i) ∧ ∀ i, (a ≠ M + 1 ∨ i ≠ b) → gR (abC h M b G C u) a i = gR h a i := by
  refine ⟨?_, ?_, fun i y => ?_, fun i => ?_, fun i y => ?_⟩
  · rw [abC_K, bxN_K, gC_sI, if_neg (by omega), if_neg (by omega), if_neg (by omega), if_neg (by omega), if_neg (by omega), gK_sI]
  · rw [abC_N, bxN_N, gC_sI, if_neg (by omega), if_neg (by omega), if_neg (by omega), if_neg (by omega), if_neg (by omega), gN_sI]
  · rw [abC_I, gI_sIo _ _ (by omega), fiC_I _ (by omega), fiC_I _ (by omega), bxN_I, gC_sI, if_neg (by omega), if_neg (by omega), if_neg (by omega), if_neg (by omega), if_neg (by omega), gI_sIo _ _ y]
  · rw [abC_J, bxN_J, gC_sI, if_neg (by omega), if_neg (by omega), if_neg (by omega), if_neg (by omega), if_neg (by omega), gJ_sI]
  · rw [abC_R, if_neg (by omega), bxN_R, gC_sI, if_neg (by omega), if_neg (by omega), if_neg (by omega), if_neg (by omega), if_neg (by omega), if_neg (by omega), if_neg (by omega), if_neg (by omega), if_neg (by omega), if_neg (by omega), gR_sI]
theorem abC_5 (hM : M + 4 ≤ gC h) : gI (abC h M b G C u) M 5 = iv (b + 1) := by
  rw [abC_I, gI_sIo _ _ (by omega), fiC_I _ (by omega), fiC_I _ (by omega), bxN_I, gC_sI, if_neg (by omega), if_neg (by omega), if_neg (by omega), if_neg (by omega), if_neg (by omega), gI_sIs]
theorem abC_b : gR (abC h M b G C u) (M + 1) b = gC h := by
  rw [abC_R, if_pos ⟨rfl, rfl⟩]
/-- the cells of the box -/
theorem abC_new (hM : M + 4 ≤ gC h) : gK (abC h M b G C u) (gC h) = 100 ∧ gR (abC h M b G C u) (gC h) 0 = M ∧ gR (abC h M b G C u) (gC h) 1 = gC h + 1 ∧ gR (abC h M b G C u) (gC h) 2 = gC h + 2 ∧ gR (abC h M b G C u) (gC h) 3 = gC h + 3 ∧ gR (abC h M b G C u) (gC h) 4 = gC h + 4 ∧ (gK (abC h M b G C u) (gC h + 1) = 1 ∧ gN (abC h M b G C u) (gC h + 1) = 4) ∧ (gK (abC h M b G C u) (gC h + 2) = 1 ∧ gN (abC h M b G C u) (gC h + 2) = 3) ∧ (gK (abC h M b G C u) (gC h + 3) = 1 ∧ gN (abC h M b G C u) (gC h + 3) = 3) ∧ (gK (abC h M b G C u) (gC h + 4) = 1 ∧ gN (abC h M b G C u) (gC h + 4) = 12) ∧ (∀ i, gI (abC h M b G C u) (gC h + 1) i = if i < G then iv (u i) else iv 0) ∧ (∀ i, gI (abC h M b G C u) (gC h + 2) i = if i < C then iv (u (G + i)) else iv 0) ∧ (∀ i, gI (abC h M b G C u) (gC h + 3) i = iv 0) ∧ (∀ i, gI (abC h M b G C u) (gC h + 4) i = iv 0) ∧ gI (abC h M b G C u) (gC h) 5 = iv (suU u G) ∧ gI (abC h M b G C u) (gC h) 6 = iv 0 ∧ gI (abC h M b G C u) (gC h) 7 = iv 0 ∧ gJ (abC h M b G C u) (gC h) 8 = jv 0 := by
  have z : ∀ a i, gC h ≤ a → a ≤ gC h + 4 → gI (bxN (sI h M 5 (iv (b + 1))) M) a i = iv 0 := fun a i y1 y2 => by
    rw [bxN_I, gC_sI]
    by_cases q4 : a = gC h + 4
    · rw [if_pos q4]
    · rw [if_neg q4]
      by_cases q3 : a = gC h + 3
      · rw [if_pos q3]
      · rw [if_neg q3]
        by_cases q2 : a = gC h + 2
        · rw [if_pos q2]
        · rw [if_neg q2]
          by_cases q1 : a = gC h + 1
          · rw [if_pos q1]
          · rw [if_neg q1, if_pos (by omega)]
  refine ⟨?_, ?_, ?_, ?_, ?_, ?_, ⟨?_, ?_⟩, ⟨?_, ?_⟩, ⟨?_, ?_⟩, ⟨?_, ?_⟩, fun i => ?_, fun i => ?_, fun i => ?_, fun i => ?_, ?_, ?_, ?_, ?_⟩
  · rw [abC_K, bxN_K, gC_sI, if_neg (by omega), if_neg (by omega), if_neg (by omega), if_neg (by omega), if_pos rfl]
  · rw [abC_R, if_neg (by omega), bxN_R, gC_sI, if_pos ⟨rfl, rfl⟩]
  · rw [abC_R, if_neg (by omega), bxN_R, gC_sI, if_neg (by omega), if_neg (by omega), if_neg (by omega), if_neg (by omega), if_neg (by omega), if_neg (by omega), if_neg (by omega), if_pos ⟨rfl, rfl⟩]
  · rw [abC_R, if_neg (by omega), bxN_R, gC_sI, if_neg (by omega), if_neg (by omega), if_neg (by omega), if_neg (by omega), if_neg (by omega), if_pos ⟨rfl, rfl⟩]
  · rw [abC_R, if_neg (by omega), bxN_R, gC_sI, if_neg (by omega), if_neg (by omega), if_neg (by omega), if_pos ⟨rfl, rfl⟩]
  · rw [abC_R, if_neg (by omega), bxN_R, gC_sI, if_neg (by omega), if_pos ⟨rfl, rfl⟩]
  · rw [abC_K, bxN_K, gC_sI, if_neg (by omega), if_neg (by omega), if_neg (by omega), if_pos rfl]
  · rw [abC_N, bxN_N, gC_sI, if_neg (by omega), if_neg (by omega), if_neg (by omega), if_pos rfl]
  · rw [abC_K, bxN_K, gC_sI, if_neg (by omega), if_neg (by omega), if_pos rfl]
  · rw [abC_N, bxN_N, gC_sI, if_neg (by omega), if_neg (by omega), if_pos rfl]
  · rw [abC_K, bxN_K, gC_sI, if_neg (by omega), if_pos rfl]
  · rw [abC_N, bxN_N, gC_sI, if_neg (by omega), if_pos rfl]
  · rw [abC_K, bxN_K, gC_sI, if_pos rfl]
  · rw [abC_N, bxN_N, gC_sI, if_pos rfl]
  · rw [abC_I, gI_sIo _ _ (by omega), fiC_I _ (by omega), fiC_v, z _ _ (by omega) (by omega)]
  · rw [abC_I, gI_sIo _ _ (by omega), fiC_v, fiC_I _ (by omega), z _ _ (by omega) (by omega)]
  · rw [abC_I, gI_sIo _ _ (by omega), fiC_I _ (by omega), fiC_I _ (by omega), z _ _ (by omega) (by omega)]
  · rw [abC_I, gI_sIo _ _ (by omega), fiC_I _ (by omega), fiC_I _ (by omega), z _ _ (by omega) (by omega)]
  · rw [abC_I, gI_sIs]
  · rw [abC_I, gI_sIo _ _ (by omega), fiC_I _ (by omega), fiC_I _ (by omega), z _ _ (by omega) (by omega)]
  · rw [abC_I, gI_sIo _ _ (by omega), fiC_I _ (by omega), fiC_I _ (by omega), z _ _ (by omega) (by omega)]
  · rw [abC_J, bxN_J, gC_sI, if_neg (by omega), if_neg (by omega), if_neg (by omega), if_neg (by omega), if_pos rfl]
end R
