theorem sF_refl (f : Int → Int) (K : Int) : ∀ (n : Nat) (b : Int), sF (fun i => f (K - i)) b n = sF f (K - b - n + 1) n := by
  intro n
  induction n with
  | zero => intro b; rfl
  | succ n ih =>
    intro b
    rw [sF_succ, ih, sF_last, show K - b - ((n + 1 : Nat) : Int) + 1 = K - (b + 1) - n + 1 by omega, show K - (b + 1) - (n : Int) + 1 + n = K - b by omega]
    omega
theorem Sr_refl (f : Int → Int) (K lo hi : Int) : Sr (fun i => f (K - i)) lo hi = Sr f (K - hi) (K - lo) := by
  unfold Sr
  by_cases e : hi + 1 < lo
  · rw [show (hi + 1 - lo).toNat = 0 by omega, show (K - lo + 1 - (K - hi)).toNat = 0 by omega]; rfl
  · rw [sF_refl, show (K - lo + 1 - (K - hi)).toNat = (hi + 1 - lo).toNat by omega, show K - lo - ((hi + 1 - lo).toNat : Int) + 1 = K - hi by omega]
/-- how many stand in two ranges at once -/
theorem cnt_in {P lo hi : Int} : Sr (fun q => if lo ≤ q ∧ q ≤ hi then 1 else 0) 0 P = if max 0 lo ≤ min P hi then min P hi - max 0 lo + 1 else 0 := by
  have e : Sr (fun q => if lo ≤ q ∧ q ≤ hi then 1 else 0) 0 P = Sr (fun _ => 1) (max 0 lo) (min P hi) := by
    refine Sr_wide (by omega) (by omega) (fun q q0 q1 => if_pos (by omega)) (fun q q0 q1 q2 => if_neg (by omega))
  rw [e]
  by_cases z : max 0 lo ≤ min P hi
  · rw [if_pos z]
    have a1 := Sr_le (f := fun _ => (1 : Int)) (lo := max 0 lo) (hi := min P hi) (K := 1) (by omega) (fun _ _ _ => Int.le_refl _)
    have a2 := sF_ge (fun _ => (1 : Int)) 1 (min P hi + 1 - max 0 lo).toNat (max 0 lo) (fun _ _ _ => Int.le_refl _)
    unfold Sr at a1 ⊢
    omega
  · rw [if_neg z, Sr_none (by omega)]
/-- ways for four groups, with a choice of the first group held -/
def wwK (P s b own d : Int) : Int := if max 0 (b - d + own - s) ≤ min P (b - d) then min P (b - d) - max 0 (b - d + own - s) + 1 else 0
theorem ww4 {P s a b r2 r3 : Int} (F : Int → Int → Int) (hF : ∀ x y : Int, F x y = cn [r2, r3] x y (r2 + r3 - x - y)) : Sr (fun q => cn [s, r2, r3] a (b - q) (s + r2 + r3 - a - b + q)) 0 P = Sr (fun x => Sr (fun d => if a - x ≤ s then F x d * wwK P s b (a - x) d else 0) 0 b) 0 a := by
  have hz : ∀ x y : Int, (x < 0 ∨ y < 0) → F x y = 0 := fun x y h => by rw [hF, cn_neg _ _ _ _ (by omega)]
  have e1 : Sr (fun q => cn [s, r2, r3] a (b - q) (s + r2 + r3 - a - b + q)) 0 P = Sr (fun own => Sr (fun q => Sr (fun y => F (a - own) (b - q - y)) 0 (s - own)) 0 P) 0 s := by
    have t : ∀ q : Int, cn [s, r2, r3] a (b - q) (s + r2 + r3 - a - b + q) = Sr (fun own => Sr (fun y => F (a - own) (b - q - y)) 0 (s - own)) 0 s := fun q => by
      rw [cn_cons]
      refine Sr_congr (fun own _ _ => Sr_congr (fun y _ _ => ?_))
      rw [hF]
      congr 1
      omega
    rw [Sr_congr (fun q _ _ => t q)]
    exact Sr_swap (fun q own => Sr (fun y => F (a - own) (b - q - y)) 0 (s - own)) 0 P 0 s
  have e2 : ∀ own : Int, 0 ≤ own → own ≤ s → Sr (fun q => Sr (fun y => F (a - own) (b - q - y)) 0 (s - own)) 0 P = Sr (fun d => F (a - own) d * wwK P s b own d) 0 b := by
    intro own o0 o1
    have t : ∀ q : Int, 0 ≤ q → Sr (fun y => F (a - own) (b - q - y)) 0 (s - own) = Sr (fun d => if b - q - (s - own) ≤ d ∧ d ≤ b - q then F (a - own) d else 0) 0 b := fun q q0 => by
      rw [Sr_refl (fun z => F (a - own) z) (b - q) 0 (s - own), Int.sub_zero]
      refine Sr_eq (fun d => ?_)
      by_cases d0 : 0 ≤ d
      · by_cases d1 : b - q - (s - own) ≤ d ∧ d ≤ b - q
        · rw [if_pos d1, if_pos (by omega)]
        · rw [if_neg d1]
          split <;> rfl
      · rw [if_neg (show ¬ (0 ≤ d ∧ d ≤ b) by omega)]
        split
        · exact hz _ _ (by omega)
        · rfl
    rw [Sr_congr (fun q q0 _ => t q q0), Sr_swap (fun q d => if b - q - (s - own) ≤ d ∧ d ≤ b - q then F (a - own) d else 0) 0 P 0 b]
    refine Sr_congr (fun d d0 d1 => ?_)
    have u : wwK P s b own d = Sr (fun q => if b - d - (s - own) ≤ q ∧ q ≤ b - d then 1 else 0) 0 P := by
      rw [cnt_in, show b - d - (s - own) = b - d + own - s by omega]; rfl
    rw [u, ← Sr_mul]
    refine Sr_congr (fun q _ _ => ?_)
    by_cases v : b - d - (s - own) ≤ q ∧ q ≤ b - d
    · rw [if_pos v, if_pos (by omega), Int.mul_one]
    · rw [if_neg v, if_neg (by omega), Int.mul_zero]
  rw [e1, Sr_congr e2]
  have e3 : Sr (fun own => Sr (fun d => F (a - own) d * wwK P s b own d) 0 b) 0 s = Sr (fun own => (fun x => Sr (fun d => F x d * wwK P s b (a - x) d) 0 b) (a - own)) 0 s := Sr_congr (fun own _ _ => Sr_congr (fun d _ _ => by rw [show a - (a - own) = own by omega]))
  rw [e3]
  refine (Sr_refl (fun x => Sr (fun d => F x d * wwK P s b (a - x) d) 0 b) a 0 s).trans ?_
  rw [Int.sub_zero]
  refine Sr_eq (fun x => ?_)
  by_cases x0 : 0 ≤ x ∧ x ≤ a
  · rw [if_pos x0]
    by_cases x1 : a - x ≤ s
    · rw [if_pos (by omega)]
      exact Sr_congr (fun d _ _ => (if_pos x1).symm)
    · rw [if_neg (by omega)]
      exact (Sr_z (fun d _ _ => if_neg x1)).symm
  · rw [if_neg x0]
    split
    · exact Sr_z (fun d _ _ => by rw [hz _ _ (by omega), Int.zero_mul])
    · rfl
