/-! ===== mean ===== -/
theorem n64_ne0 {n : Nat} (h0 : 0 < n) (h : n < 2 ^ 31) : ¬ Int32.toInt64 (nI n) = 0 := fun e => by
  have := congrArg Int64.toInt e
  rw [Int32.toInt_toInt64, nI_toInt h] at this
  simp at this
  omega
theorem ag_mean {s : ST} (hI : Inv s) (a0 : Int32) : ∃ (v : Int32) (s1 s2 : ST), f_X5_mean (some 0) a0 (HP s) = some (v, HP s1) ∧ f_X6_mean (some 60) a0 (HP s1) = some (v, HP s2) ∧ Inv s2 := by
  rcases ix6 a0 with h0 | ⟨i, hi, rfl⟩
  · refine ⟨-1, s, s, ?_, ?_, hI⟩
    · simp only [f_X5_mean, gR_0_0, Option.bind_some, p5_rowNo s h0, if_true]
    · simp only [f_X6_mean, isRow_no h0, Option.bind_some, if_true]
  have hz := hI.2.1.1 i hi
  have hi10 : i < 10 := by omega
  have hm : lm i = 40 := lm_r hi
  rcases hz with ⟨z1, z2⟩ | ⟨n, hn, z1, z2, z3⟩
  · have z1 : sI s (32 * lc i + 1) = -1 := z1
    refine ⟨-3, fnd5 s 1, fnd6 (fnd5 s 1) 1, ?_, ?_, inv_find hI 1⟩
    · simp only [f_X5_mean, gR_0_0, Option.bind_some, p5_rowAt s hi rfl, reduceCtorEq, if_false, ln_q s hi10, if_true, p2_missT s hi10 z1, n10, qO_0, p5_find (x := 1) s 1 rfl (by omega) (by omega)]
    · simp only [f_X6_mean, isRow_yes hi, Option.bind_some, n10, if_false, gR_60_7, gA66 _ hi, sV5 s 1 (show 66 ≠ 15 by omega), z2, if_neg (show ¬ (0 : Int32) ≤ -1 by decide), qO_60, if_true, p6_find (x := 1) _ 1 rfl (by omega)]
  have z1 : sI s (32 * lc i + 1) = nI n := z1
  by_cases hn0 : n = 0
  · subst hn0
    refine ⟨-3, fnd5 s 4, fnd6 (fnd5 s 4) 4, ?_, ?_, inv_find hI 4⟩
    · simp only [f_X5_mean, gR_0_0, Option.bind_some, p5_rowAt s hi rfl, reduceCtorEq, if_false, ln_q s hi10, if_true, p2_missF s hi10 z1 (by omega), ln_z s hi10, z1, if_pos (show nI 0 = 0 from rfl), qO_0, p5_find (x := 4) s 4 rfl (by omega) (by omega)]
    · simp only [f_X6_mean, isRow_yes hi, Option.bind_some, n10, if_false, gR_60_7, gA66 _ hi, sV5 s 4 (show 66 ≠ 15 by omega), z2, if_pos (nI_pos' (show 0 < 2 ^ 31 by omega)), if_pos (show nI 0 = 0 from rfl), qO_60, if_true, p6_find (x := 4) _ 4 rfl (by omega)]
  · have en : ¬ nI n = 0 := nI_ne0 (by omega) (by omega)
    have e64 := n64_ne0 (show 0 < n by omega) (show n < 2 ^ 31 by omega)
    have l5 : jloop (f_X2_meanCut_b4 (some (lc i))) jfuel (0, 0) (HP s) = some (.inr (fold (fun j a => a + Int32.toInt64 (sV s (lc i + 1) j)) n 0 0, HP s)) := by
      refine jfold (n := n) (fun j a => a + Int32.toInt64 (sV s (lc i + 1) j)) (fun a => ?_) (fun j a hj => ?_) n jfuel 0 0 (by omega) (by unfold jfuel; omega)
      · simp only [f_X2_meanCut_b4, ln_z s hi10, Option.bind_some, z1, if_pos (nI_le (Nat.le_refl n) (show n < 2 ^ 31 by omega))]
      · simp only [f_X2_meanCut_b4, ln_z s hi10, Option.bind_some, z1, if_neg (nI_ge hj (show n < 2 ^ 31 by omega)), ln_q s hi10, if_true, p2_get s hi10 z1 (by omega) hj, nI_1]
    have ec : fold (fun j a => a + Int32.toInt64 (sV s 67 (40 * i + j))) n 0 (0 : Int64) = fold (fun j a => a + Int32.toInt64 (sV s (lc i + 1) j)) n 0 0 := fold_congr n 0 0 (fun k b _ hk => by
      have hz : sV s (lc i + 1) k = sV s 67 (40 * i + k) := z3 k (by omega)
      rw [hz])
    have l6 : ∀ w, jloop (f_X6_mean_b44 (some 60) (nI i)) jfuel (0, 0) (HP (uI s 11 w)) = some (.inr (fold (fun j a => a + Int32.toInt64 (sV s (lc i + 1) j)) n 0 0, HP (uI s 11 w))) := by
      intro w
      rw [← ec]
      refine jfold (n := n) (fun j a => a + Int32.toInt64 (sV s 67 (40 * i + j))) (fun a => ?_) (fun j a hj => ?_) n jfuel 0 0 (by omega) (by unfold jfuel; omega)
      · simp only [f_X6_mean_b44, gR_60_7, Option.bind_some, gA66 _ hi, sV_uI, z2, if_pos (nI_le (Nat.le_refl n) (show n < 2 ^ 31 by omega))]
      · simp only [f_X6_mean_b44, gR_60_7, Option.bind_some, gA66 _ hi, sV_uI, z2, if_neg (nI_ge hj (show n < 2 ^ 31 by omega)), gR_60_8, gA67 _ hi (show j < 40 by omega), nI_1]
    have h := inv_tell hI (Int64.toInt32 (fold (fun j a => a + Int32.toInt64 (sV s (lc i + 1) j)) n 0 0 / Int32.toInt64 (nI n)))
    refine ⟨1, uI s 11 (Int64.toInt32 (fold (fun j a => a + Int32.toInt64 (sV s (lc i + 1) j)) n 0 0 / Int32.toInt64 (nI n))), _, ?_, ?_, h⟩
    · simp only [f_X5_mean, f_X2_meanCut, gR_0_0, Option.bind_some, p5_rowAt s hi rfl, reduceCtorEq, if_false, ln_q s hi10, if_true, p2_missF s hi10 z1 (show n < 2 ^ 31 by omega), ln_z s hi10, z1, if_neg en, l5, if_neg (nI_nle (show 0 < n by omega) (show n < 2 ^ 31 by omega)), if_neg e64, sF_0_11]
    · simp only [f_X6_mean, isRow_yes hi, Option.bind_some, n10, if_false, gR_60_7, gA66 _ hi, sV_uI, z2, if_pos (nI_pos' (show n < 2 ^ 31 by omega)), if_neg en, l6, if_neg e64, qO_60, if_true, p6_tell]
