/-! the law answers 1, in its room -/
theorem law_fin {L : Nat} (hL : L ≤ 3072) (xs : Nat → Int32) : ∃ h1 : AH, f_L_law 2 (h0 L xs) = some (1, h1) ∧ gC h1 ≤ 600003 ∧ gS h1 ≤ 7302250 := by
  have g1 : gC (dnH (h0 L xs) oL) = 121 := by rw [cH_ok, s_C, s_cnt.1]
  have g2 : gS (dnH (h0 L xs) oL) ≤ 10000 := by rw [tH_ok]; exact s_cnt.2
  obtain ⟨h', e1, e2, e3⟩ := law_lp hL 512 FU 0 (dnH (h0 L xs) oL) w00 (fun _ => 0) (FU_gt (by omega)) (by omega) (by omega) (by omega) s_Sim s_N2
  refine ⟨h', ?_, by omega, by omega⟩
  rw [law_start]
  exact e1
