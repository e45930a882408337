/-! COUNTS of tables: rows of groups, three choices -/
def cn : List Int → Int → Int → Int → Int
  | [], a, b, c => if a = 0 ∧ b = 0 ∧ c = 0 then 1 else 0
  | r :: rs, a, b, c => Sr (fun p => Sr (fun q => cn rs (a - p) (b - q) (c - (r - p - q))) 0 (r - p)) 0 r
def on (r a b c : Int) : Int := Sr (fun p => Sr (fun q => if p ≤ a ∧ q ≤ b ∧ r - p - q ≤ c then 1 else 0) 0 (r - p)) 0 r
theorem cn_cons (r : Int) (rs : List Int) (a b c : Int) : cn (r :: rs) a b c = Sr (fun p => Sr (fun q => cn rs (a - p) (b - q) (c - (r - p - q))) 0 (r - p)) 0 r := rfl
theorem cn_nil (a b c : Int) : cn [] a b c = if a = 0 ∧ b = 0 ∧ c = 0 then 1 else 0 := rfl
theorem cn_nonneg : ∀ (rs : List Int) (a b c : Int), 0 ≤ cn rs a b c := by
  intro rs
  induction rs with
  | nil => intro a b c; rw [cn_nil]; split <;> omega
  | cons r rs ih => intro a b c; rw [cn_cons]; exact Sr_nonneg (fun p _ _ => Sr_nonneg (fun q _ _ => ih _ _ _))
theorem cn_neg : ∀ (rs : List Int) (a b c : Int), (a < 0 ∨ b < 0 ∨ c < 0) → cn rs a b c = 0 := by
  intro rs
  induction rs with
  | nil => intro a b c h; rw [cn_nil]; exact if_neg (by omega)
  | cons r rs ih => intro a b c h; rw [cn_cons]; exact Sr_z (fun p _ _ => Sr_z (fun q _ _ => ih _ _ _ (by omega)))
theorem cn_one (s a b c : Int) : cn [s] a b c = if 0 ≤ a ∧ 0 ≤ b ∧ 0 ≤ c ∧ a + b + c = s then 1 else 0 := by
  rw [cn_cons]
  by_cases h : 0 ≤ a ∧ 0 ≤ b ∧ 0 ≤ c ∧ a + b + c = s
  · rw [if_pos h, Sr_one (j := a) (by omega) (by omega) (fun p _ _ hp => Sr_z (fun q _ _ => by rw [cn_nil]; exact if_neg (by omega))), Sr_one (j := b) (by omega) (by omega) (fun q _ _ hq => by rw [cn_nil]; exact if_neg (by omega)), cn_nil]
    exact if_pos (by omega)
  · rw [if_neg h]
    exact Sr_z (fun p _ _ => Sr_z (fun q _ _ => by rw [cn_nil]; exact if_neg (by omega)))
theorem cn_two {r s a b c : Int} (h : a + b + c = r + s) : cn [r, s] a b c = on r a b c := by
  rw [cn_cons]
  refine Sr_congr (fun p _ _ => Sr_congr (fun q _ _ => ?_))
  rw [cn_one]
  by_cases e : p ≤ a ∧ q ≤ b ∧ r - p - q ≤ c
  · rw [if_pos e, if_pos (by omega)]
  · rw [if_neg e, if_neg (by omega)]
theorem cn_merge {r0 r1 : Int} (rs : List Int) (a b c : Int) (h0 : 0 ≤ r0) (h1 : 0 ≤ r1) : cn (r0 :: r1 :: rs) a b c = Sr (fun i => Sr (fun j => on r0 i j (r0 + r1 - i - j) * cn rs (a - i) (b - j) (c - (r0 + r1 - i - j))) 0 (r0 + r1 - i)) 0 (r0 + r1) := by
  let F : Int → Int → Int := fun i j => cn rs (a - i) (b - j) (c - (r0 + r1 - i - j))
  let H : Int → Int → Int → Int → Int := fun p q i j => if p + q ≤ r0 ∧ p ≤ i ∧ q ≤ j ∧ i - p + (j - q) ≤ r1 then F i j else 0
  have e1 : ∀ p q : Int, 0 ≤ p → 0 ≤ q → p + q ≤ r0 → cn (r1 :: rs) (a - p) (b - q) (c - (r0 - p - q)) = Sr (fun i => Sr (fun j => H p q i j) 0 (r0 + r1)) 0 (r0 + r1) := by
    intro p q p0 q0 hpq
    have s1 : cn (r1 :: rs) (a - p) (b - q) (c - (r0 - p - q)) = Sr (fun p1 => (fun i => Sr (fun j => F i j) q (r1 - (i - p) + q)) (p1 + p)) 0 r1 := by
      rw [cn_cons]
      refine Sr_congr (fun p1 _ _ => ?_)
      show Sr (fun q1 => cn rs (a - p - p1) (b - q - q1) (c - (r0 - p - q) - (r1 - p1 - q1))) 0 (r1 - p1) = Sr (fun j => F (p1 + p) j) q (r1 - (p1 + p - p) + q)
      have t := Sr_shift (fun j => F (p1 + p) j) q 0 (r1 - p1)
      rw [Int.zero_add] at t
      rw [show r1 - (p1 + p - p) + q = (r1 - p1) + q by omega, ← t]
      refine Sr_congr (fun q1 _ _ => ?_)
      show cn rs _ _ _ = cn rs _ _ _
      rw [show a - p - p1 = a - (p1 + p) by omega, show b - q - q1 = b - (q1 + q) by omega, show c - (r0 - p - q) - (r1 - p1 - q1) = c - (r0 + r1 - (p1 + p) - (q1 + q)) by omega]
    rw [s1]
    refine (Sr_shift (fun i => Sr (fun j => F i j) q (r1 - (i - p) + q)) p 0 r1).trans ?_
    rw [Int.zero_add]
    refine (Sr_wide (by omega) (by omega) (fun i i0 i1 => ?_) (fun i i0 i1 i2 => ?_)).symm
    · exact Sr_wide (by omega) (by omega) (fun j j0 j1 => if_pos (by omega)) (fun j j0 j1 j2 => if_neg (by omega))
    · exact Sr_z (fun j j0 j1 => if_neg (by omega))
  have e2 : cn (r0 :: r1 :: rs) a b c = Sr (fun p => Sr (fun q => Sr (fun i => Sr (fun j => H p q i j) 0 (r0 + r1)) 0 (r0 + r1)) 0 r0) 0 r0 := by
    rw [cn_cons]
    refine Sr_congr (fun p p0 p1 => ?_)
    refine (Sr_wide (by omega) (by omega) (fun q q0 q1 => (e1 p q p0 q0 (by omega)).symm) (fun q q0 q1 q2 => ?_)).symm
    exact Sr_z (fun i _ _ => Sr_z (fun j _ _ => if_neg (by omega)))
  have e3 : Sr (fun p => Sr (fun q => Sr (fun i => Sr (fun j => H p q i j) 0 (r0 + r1)) 0 (r0 + r1)) 0 r0) 0 r0 = Sr (fun i => Sr (fun j => Sr (fun p => Sr (fun q => H p q i j) 0 r0) 0 r0) 0 (r0 + r1)) 0 (r0 + r1) := by
    have t1 : ∀ p : Int, Sr (fun q => Sr (fun i => Sr (fun j => H p q i j) 0 (r0 + r1)) 0 (r0 + r1)) 0 r0 = Sr (fun i => Sr (fun q => Sr (fun j => H p q i j) 0 (r0 + r1)) 0 r0) 0 (r0 + r1) := fun p => Sr_swap (fun q i => Sr (fun j => H p q i j) 0 (r0 + r1)) 0 r0 0 (r0 + r1)
    rw [Sr_congr (fun p _ _ => t1 p)]
    rw [Sr_swap (fun p i => Sr (fun q => Sr (fun j => H p q i j) 0 (r0 + r1)) 0 r0) 0 r0 0 (r0 + r1)]
    refine Sr_congr (fun i _ _ => ?_)
    have t2 : ∀ p : Int, Sr (fun q => Sr (fun j => H p q i j) 0 (r0 + r1)) 0 r0 = Sr (fun j => Sr (fun q => H p q i j) 0 r0) 0 (r0 + r1) := fun p => Sr_swap (fun q j => H p q i j) 0 r0 0 (r0 + r1)
    rw [Sr_congr (fun p _ _ => t2 p)]
    exact Sr_swap (fun p j => Sr (fun q => H p q i j) 0 r0) 0 r0 0 (r0 + r1)
  rw [e2, e3]
  refine Sr_congr (fun i i0 i1 => ?_)
  refine Sr_wide (by omega) (by omega) (fun j j0 j1 => ?_) (fun j j0 j1 j2 => Sr_z (fun p _ _ => Sr_z (fun q _ _ => if_neg (by omega))))
  show _ = on r0 i j (r0 + r1 - i - j) * F i j
  rw [Int.mul_comm]
  unfold on
  rw [← Sr_mul]
  refine Sr_congr (fun p p0 p1 => ?_)
  rw [← Sr_mul]
  refine Sr_wide (by omega) (by omega) (fun q q0 q1 => ?_) (fun q q0 q1 q2 => if_neg (by omega))
  by_cases e : p ≤ i ∧ q ≤ j ∧ r0 - p - q ≤ r0 + r1 - i - j
  · rw [if_pos e, Int.mul_one]; exact if_pos (by omega)
  · rw [if_neg e, Int.mul_zero]; exact if_neg (by omega)
/-! closed forms -/
def th (r : Int) : Int := if r < 0 then 0 else (r + 1) * (r + 2) / 2
theorem th_neg {r : Int} (h : r < 0) : th r = 0 := if_pos h
theorem th_nn {r : Int} (h : 0 ≤ r) : th r = (r + 1) * (r + 2) / 2 := if_neg (by omega)
theorem th_step (r : Int) : th r - th (r - 1) = if r < 0 then 0 else r + 1 := by
  by_cases h : r < 0
  · rw [if_pos h, th_neg h, th_neg (by omega)]; rfl
  · rw [if_neg h, th_nn (by omega)]
    have e : (r + 1) * (r + 2) = r * (r + 1) + 2 * (r + 1) := by
      rw [show r + 2 = r + 1 + 1 by omega, Int.mul_add, Int.mul_one, Int.mul_comm r (r + 1), show (2 : Int) * (r + 1) = (r + 1) + (r + 1) by omega, Int.add_mul (a := r) (b := 1) (c := r + 1), Int.mul_comm (r + 1) r, Int.one_mul]
      omega
    by_cases z : r = 0
    · subst z; rfl
    · rw [th_nn (by omega), show r - 1 + 1 = r by omega, show r - 1 + 2 = r + 1 by omega, e]
      generalize r * (r + 1) = y
      omega
theorem cnt_le (u : Int) : ∀ n : Nat, Sr (fun q => if q ≤ u then 1 else 0) 0 (n - 1) = (if u < 0 then 0 else u + 1) - (if u - n < 0 then 0 else u - n + 1) := by
  intro n
  induction n with
  | zero => rw [Sr_none (by omega)]; simp
  | succ n ih =>
    rw [Sr_last (by omega), show ((n + 1 : Nat) : Int) - 1 - 1 = n - 1 by omega, ih]
    show _ + (if _ then _ else _) = _
    repeat' split
    all_goals omega
theorem sum_pos (t : Int) : ∀ n : Nat, Sr (fun p => if t - p < 0 then 0 else t - p + 1) 0 (n - 1) = th t - th (t - n) := by
  intro n
  induction n with
  | zero => rw [Sr_none (by omega)]; simp
  | succ n ih =>
    rw [Sr_last (by omega), show ((n + 1 : Nat) : Int) - 1 - 1 = n - 1 by omega, ih, show ((n + 1 : Nat) : Int) - 1 = n by omega]
    have := th_step (t - n)
    show _ + (if t - (n : Int) < 0 then 0 else t - (n : Int) + 1) = _
    rw [← this, show t - ((n + 1 : Nat) : Int) = t - n - 1 by omega]
    omega
theorem under_eq {P Q : Int} (t : Int) (hP : -1 ≤ P) (hQ : -1 ≤ Q) : Sr (fun p => Sr (fun q => if p + q ≤ t then 1 else 0) 0 Q) 0 P = th t - th (t - P - 1) - th (t - Q - 1) + th (t - P - Q - 2) := by
  have e1 : Sr (fun p => Sr (fun q => if p + q ≤ t then 1 else 0) 0 Q) 0 P = Sr (fun p => (if t - p < 0 then 0 else t - p + 1) - (if t - Q - 1 - p < 0 then 0 else t - Q - 1 - p + 1)) 0 P := by
    refine Sr_congr (fun p _ _ => ?_)
    have := cnt_le (t - p) (Q + 1).toNat
    rw [show ((Q + 1).toNat : Int) = Q + 1 by omega, show Q + 1 - 1 = Q by omega, show t - p - (Q + 1) = t - Q - 1 - p by omega] at this
    rw [← this]
    refine Sr_congr (fun q _ _ => ?_)
    by_cases e : q ≤ t - p
    · rw [if_pos e, if_pos (by omega)]
    · rw [if_neg e, if_neg (by omega)]
  rw [e1, Sr_sub]
  have a1 := sum_pos t (P + 1).toNat
  have a2 := sum_pos (t - Q - 1) (P + 1).toNat
  rw [show ((P + 1).toNat : Int) = P + 1 by omega, show P + 1 - 1 = P by omega] at a1 a2
  rw [a1, a2, show t - (P + 1) = t - P - 1 by omega, show t - Q - 1 - (P + 1) = t - P - Q - 2 by omega]
  omega
theorem on_under {r a b c : Int} (hc : -1 ≤ c) : on r a b c = Sr (fun p => Sr (fun q => if p + q ≤ r then 1 else 0) 0 b) 0 a - Sr (fun p => Sr (fun q => if p + q ≤ r - c - 1 then 1 else 0) 0 b) 0 a := by
  rw [← Sr_sub]
  unfold on
  refine Sr_eq (fun p => ?_)
  by_cases p0 : 0 ≤ p
  · by_cases pa : p ≤ a
    · rw [if_pos (show 0 ≤ p ∧ p ≤ a from ⟨p0, pa⟩), ← Sr_sub]
      by_cases pr : p ≤ r
      · rw [if_pos (show 0 ≤ p ∧ p ≤ r from ⟨p0, pr⟩)]
        refine Sr_eq (fun q => ?_)
        repeat' split
        all_goals omega
      · rw [if_neg (by omega)]
        refine (Sr_z (fun q _ _ => ?_)).symm
        rw [if_neg (by omega), if_neg (by omega)]; rfl
    · rw [if_neg (show ¬ (0 ≤ p ∧ p ≤ a) by omega)]
      split
      · exact Sr_z (fun q _ _ => if_neg (by omega))
      · rfl
  · rw [if_neg (by omega), if_neg (by omega)]
theorem on_closed {r a b c : Int} (ha : -1 ≤ a) (hb : -1 ≤ b) (hc : -1 ≤ c) (hr : r ≤ a + b + c + 2) : on r a b c = th r - th (r - a - 1) - th (r - b - 1) - th (r - c - 1) + th (r - a - b - 2) + th (r - a - c - 2) + th (r - b - c - 2) := by
  rw [on_under hc, under_eq r ha hb, under_eq (r - c - 1) ha hb, show r - c - 1 - a - 1 = r - a - c - 2 by omega, show r - c - 1 - b - 1 = r - b - c - 2 by omega, show r - c - 1 - a - b - 2 = r - c - a - b - 3 by omega, th_neg (show r - c - a - b - 3 < 0 by omega)]
  omega
theorem th_nonneg (r : Int) : 0 ≤ th r := by
  by_cases h : r < 0
  · rw [th_neg h]; exact Int.le_refl _
  · rw [th_nn (by omega)]
    exact Int.ediv_nonneg (Int.mul_nonneg (by omega) (by omega)) (by omega)
theorem cn_le_cons {r K a b c : Int} {rs : List Int} (h0 : 0 ≤ r) (h1 : r ≤ 99) (hK : 0 ≤ K) (h : ∀ a b c : Int, cn rs a b c ≤ K) : cn (r :: rs) a b c ≤ 10000 * K := by
  rw [cn_cons]
  have s1 : ∀ p : Int, 0 ≤ p → p ≤ r → Sr (fun q => cn rs (a - p) (b - q) (c - (r - p - q))) 0 (r - p) ≤ 100 * K := fun p p0 p1 => by
    have := Sr_le (f := fun q => cn rs (a - p) (b - q) (c - (r - p - q))) (lo := 0) (hi := r - p) (K := K) (by omega) (fun q _ _ => h _ _ _)
    have t : K * (r - p + 1 - 0) ≤ K * 100 := Int.mul_le_mul_of_nonneg_left (by omega) hK
    omega
  have := Sr_le (f := fun p => Sr (fun q => cn rs (a - p) (b - q) (c - (r - p - q))) 0 (r - p)) (lo := 0) (hi := r) (K := 100 * K) (by omega) s1
  have t : 100 * K * (r + 1 - 0) ≤ 100 * K * 100 := Int.mul_le_mul_of_nonneg_left (by omega) (by omega)
  omega
theorem cn1_le (s a b c : Int) : cn [s] a b c ≤ 1 := by rw [cn_one]; split <;> omega
theorem cn4_le {r0 r1 r2 r3 : Int} (h0 : 0 ≤ r0 ∧ r0 ≤ 99) (h1 : 0 ≤ r1 ∧ r1 ≤ 99) (h2 : 0 ≤ r2 ∧ r2 ≤ 99) (a b c : Int) : cn [r0, r1, r2, r3] a b c ≤ 1000000000000 :=
  cn_le_cons h0.1 h0.2 (by omega) (fun a b c => cn_le_cons h1.1 h1.2 (by omega) (fun a b c => cn_le_cons h2.1 h2.2 (by omega) (fun a b c => cn1_le r3 a b c)))
/-- rows of 0 at the end change nothing -/
theorem cn_zero (a b c : Int) : cn [0] a b c = cn [] a b c := by
  rw [cn_one, cn_nil]
  by_cases h : a = 0 ∧ b = 0 ∧ c = 0
  · rw [if_pos h, if_pos (by omega)]
  · rw [if_neg h, if_neg (by omega)]
theorem cn_tail : ∀ (rs : List Int) {t t' : List Int}, (∀ a b c : Int, cn t a b c = cn t' a b c) → ∀ a b c : Int, cn (rs ++ t) a b c = cn (rs ++ t') a b c := by
  intro rs t t' h
  induction rs with
  | nil => exact h
  | cons r rs ih => intro a b c; rw [List.cons_append, List.cons_append, cn_cons, cn_cons]; exact Sr_congr (fun p _ _ => Sr_congr (fun q _ _ => ih _ _ _))
theorem cn_lead {r : Int} (h : r = 0) (rs : List Int) (a b c : Int) : cn (r :: rs) a b c = cn rs a b c := by
  subst h
  rw [cn_cons, Sr_one (j := 0) (by omega) (by omega) (fun p _ _ hp => by omega), Sr_one (j := 0) (by omega) (by omega) (fun p _ _ hp => by omega)]
  simp
