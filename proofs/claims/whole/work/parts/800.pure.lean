
theorem law_pure (g : GX) (hL : jL g ≤ 3072) : ∃ ah' : AH, f_L_law g [] = some (1, ah') ∧ ah'.length = 77 := by
  sorry
