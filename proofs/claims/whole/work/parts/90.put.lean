/-! an element put -/
def wJ (w : WD) (z : Int) (x : Int64) : WD := (w.1, fun j => if j = z then x else w.2 j)
section Q
variable {w : WD} {A : Int → Nat} {h h1 : AH}
theorem QS.sJ (hS : QS w h) {a i : Nat} {v : Int64} (ha : a ≠ 115) : QS w (sJ h a i v) := by
  obtain ⟨f, ⟨q1, q2, q3, q4, q5, q6⟩, hw⟩ := hS
  exact ⟨f, ⟨q1, q2, q3, q4, q5, fun z hz => by rw [gJ_sJo _ _ (Or.inl (by omega)), q6 z hz]⟩, hw⟩
theorem Sim_put (hS : Sim w A h) {s i : Int} {x : Int64} (s0 : 0 ≤ s ∧ s < 6) (i0 : 0 ≤ i ∧ i < 60) (hx : soR (sSo w s) x) : Sim (wJ w (60 * s + i) x) A (sJ (sJ h (80 + 2 * s.toNat) i.toNat x) 115 (60 * s + i).toNat x) := by
  obtain ⟨q1, q2, q3, q4, q5, q6⟩ := hS.R
  refine ⟨hS.F, ⟨q1, q2, q3, q4, q5, fun z hz => ?_⟩, hS.W, hS.C, fun m hm => hS.M hm, fun m b hm b0 b1 => hS.B hm b0 b1, fun m k hm k0 k1 => hS.H hm k0 k1, fun k k0 k1 => hS.K k0 k1, fun j j0 j1 => ?_, hS.sep, hS.gc, fun m b hm b0 b1 => ?_⟩
  · show _ = if z = 60 * s + i then x else w.2 z
    by_cases e : z = 60 * s + i
    · rw [if_pos e, e, gJ_sJs]
    · rw [if_neg e, gJ_sJo _ _ (Or.inr (by omega)), gJ_sJo _ _ (Or.inl (by omega)), q6 z hz]
  · obtain ⟨r1, r2, r3, r4⟩ := hS.S j0 j1
    refine ⟨r1, r2, r3, fun k k0 k1 => ?_⟩
    show gJ (sJ (sJ h (80 + 2 * s.toNat) i.toNat x) 115 (60 * s + i).toNat x) (80 + 2 * j.toNat) k.toNat = (if 60 * j + k = 60 * s + i then x else w.2 (60 * j + k)) ∧ soR (sSo w j) (if 60 * j + k = 60 * s + i then x else w.2 (60 * j + k))
    rw [gJ_sJo _ _ (Or.inl (by omega))]
    by_cases e : j = s ∧ k = i
    · rw [e.1, e.2, if_pos rfl, gJ_sJs]; exact ⟨rfl, hx⟩
    · rw [if_neg (by omega), gJ_sJo _ _ (by omega)]; exact r4 k k0 k1
  · have z := hS.aB hm b0 b1
    rw [gJ_sJo _ _ (Or.inl (by omega)), gJ_sJo _ _ (Or.inl (by omega))]
    exact hS.wy m b hm b0 b1
theorem soR_0 (so : Int) : soR so (jv 0) := ⟨fun _ => by rw [jv_int (by omega) (by omega)]; omega, fun _ => by rw [jv_int (by omega) (by omega)]; omega⟩
theorem soR_1 (v : Int16) {so : Int} (e : so = 1) : soR so (v.toInt32).toInt64 := ⟨fun _ => by
  have h1 := v.le_toInt
  have h2 := v.toInt_lt
  rw [Int32.toInt_toInt64, Int16.toInt_toInt32]
  omega, fun q => by omega⟩
theorem soR_2 (v : Int32) {so : Int} (e : so = 2) : soR so v.toInt64 := ⟨fun q => by omega, fun _ => by
  have h1 := v.le_toInt
  have h2 := v.toInt_lt
  rw [Int32.toInt_toInt64]
  omega⟩
theorem soR_o (v : Int64) {so : Int} (e : so ≠ 1 ∧ so ≠ 2) : soR so v := ⟨fun q => by omega, fun q => by omega⟩
/-- what a sort keeps of a number -/
def cutZ (so : Int) (v : Int64) : Int64 := if so = 0 then ((v.toInt32).toInt8.toInt32).toInt64 else if so = 1 then ((v.toInt32).toInt16.toInt32).toInt64 else if so = 2 then (v.toInt32).toInt64 else if so = 3 then v else if lg_cmp v (jv 0) = 0 then jv 0 else jv 1
end Q
