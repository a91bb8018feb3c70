/-! ===== copy ===== -/
theorem add64 (a b : Int32) : (Int32.toInt64 a + Int32.toInt64 b).toInt = a.toInt + b.toInt := by
  rw [Int64.toInt_add, Int32.toInt_toInt64, Int32.toInt_toInt64]
  have h1 := Int32.toInt_lt a
  have h2 := Int32.le_toInt a
  have h3 := Int32.toInt_lt b
  have h4 := Int32.le_toInt b
  apply Int.bmod_eq_of_le <;> omega
theorem cpS_f (s : ST) {k a b m : Nat} (h : a + m < b ∨ b ≤ a) : uV (cpS s k a k b m) k (b + m) (sV (cpS s k a k b m) k (a + m)) = cpS s k a k b (m + 1) := ST_ext (fun _ => rfl) rfl (fun j i => by
  simp only [sV_uV, sV_cpS]
  by_cases e : j = k
  · subst e
    simp only [if_true]
    by_cases ei : i = b + m
    · subst ei
      rw [if_pos rfl, if_neg (by omega), if_pos (by omega), show a + (b + m - b) = a + m by omega]
    · rw [if_neg ei]
      by_cases hc : b ≤ i ∧ i < b + m
      · rw [if_pos hc, if_pos (by omega)]
      · rw [if_neg hc, if_neg (by omega)]
  · simp only [e, if_false]) rfl
theorem cpS_b (s : ST) {k a b m : Nat} (h : a ≤ b ∨ b + 1 + m ≤ a) : uV (cpS s k (a + 1) k (b + 1) m) k b (sV (cpS s k (a + 1) k (b + 1) m) k a) = cpS s k a k b (m + 1) := ST_ext (fun _ => rfl) rfl (fun j i => by
  simp only [sV_uV, sV_cpS]
  by_cases e : j = k
  · subst e
    simp only [if_true]
    by_cases ei : i = b
    · subst ei
      rw [if_pos rfl, if_neg (by omega), if_pos (by omega), show a + (i - i) = a by omega]
    · rw [if_neg ei]
      by_cases hc : b + 1 ≤ i ∧ i < b + 1 + m
      · rw [if_pos hc, if_pos (by omega), show a + 1 + (i - (b + 1)) = a + (i - b) by omega]
      · rw [if_neg hc, if_neg (by omega)]
  · simp only [e, if_false]) rfl
theorem p2_span (s : ST) {i z : Nat} (h : i < 10) (hz : sI s (32 * lc i + 1) = nI z) (hn : z ≤ lm i) (x m : Int32) : f_X2_holdsSpan (some (lc i)) x m (HP s) = some (if 0 ≤ x.toInt ∧ 0 ≤ m.toInt ∧ x.toInt + m.toInt ≤ z then 1 else 0, HP s) := by
  have hl := lm_pos i
  have e1 : lA (HP s) (some (lc i + 1)) = some (nI (lm i)) := by rw [HP_lAn s (ln_pos h), ln_len h]
  have e2 : (if nI (lm i) < nI z then nI (lm i) else nI z) = nI z := if_neg (nI_nlt hn (by omega))
  unfold f_X2_holdsSpan
  by_cases h0 : x < 0
  · rw [if_pos h0, if_neg (by have := toInt_neg h0; omega)]
  · rw [if_neg h0]
    have k0 : ¬ x.toInt < (0 : Int32).toInt := fun q => h0 (Int32.lt_iff_toInt_lt.mpr q)
    by_cases h1 : m < 0
    · rw [if_pos h1, if_neg (by have := toInt_neg h1; omega)]
    · rw [if_neg h1]
      have k1 : ¬ m.toInt < (0 : Int32).toInt := fun q => h1 (Int32.lt_iff_toInt_lt.mpr q)
      simp only [ln_z s h, ln_p s h, Option.bind_some, hz, e1, e2, lgc_gt, add64, Int32.toInt_toInt64, nI_toInt (show z < 2 ^ 31 by omega)]
      simp at k0 k1
      by_cases h2 : (z : Int) < x.toInt + m.toInt
      · rw [if_pos h2, if_neg (by omega)]
      · rw [if_neg h2, if_pos (by omega)]
theorem p6_span (s : ST) {i z : Nat} (h : i < 6) (hz : sV s 66 i = nI z) (hn : z ≤ 40) (x m : Int32) : f_X6_isSpan (some 60) (nI i) x m (HP s) = some (if 0 ≤ x.toInt ∧ x.toInt + m.toInt ≤ z then 1 else 0, HP s) := by
  unfold f_X6_isSpan
  by_cases h0 : x < 0
  · rw [if_pos h0, if_neg (by have := toInt_neg h0; omega)]
  · rw [if_neg h0]
    have k0 : ¬ x.toInt < (0 : Int32).toInt := fun q => h0 (Int32.lt_iff_toInt_lt.mpr q)
    simp at k0
    simp only [gR_60_7, Option.bind_some, gA66 s h, hz, lgc_gt, add64, Int32.toInt_toInt64, nI_toInt (show z < 2 ^ 31 by omega)]
    by_cases h2 : (z : Int) < x.toInt + m.toInt
    · rw [if_pos h2, if_neg (by omega)]
    · rw [if_neg h2, if_pos (by omega)]
theorem e40x (i x j : Nat) : ((40 * nI i) + nI x) + nI j = nI (40 * i + x + j) := by rw [e40, nI_add]
theorem s67 (s : ST) {k : Nat} (hk : k < 240) (v : Int32) : sA (HP s) (some 67) (nI k) v = some (HP (uV s 67 k v)) := HP_sAn s v (show k < hLen 67 from hk) (by omega)
theorem g67 (s : ST) {k : Nat} (hk : k < 240) : gA (HP s) (some 67) (nI k) = some (sV s 67 k) := HP_gAn s (show k < hLen 67 from hk) (by omega)
theorem p6_copyF (s : ST) {i x i' y m : Nat} (hi : i < 6) (hi' : i' < 6) (hx : x + m ≤ 40) (hy : y + m ≤ 40) (hyx : y ≤ x) : jloop (f_X6_copy_b96 (some 60) (nI i) (nI x) (nI i') (nI y) (nI m) 0) jfuel 0 (HP s) = some (.inr ((), HP (cpS s 67 (40 * i + x) 67 (40 * i' + y) m))) := by
  have l : jloop (f_X6_copy_b96 (some 60) (nI i) (nI x) (nI i') (nI y) (nI m) 0) jfuel (nI 0) (HP (cpS s 67 (40 * i + x) 67 (40 * i' + y) 0)) = some (.inr ((), HP (cpS s 67 (40 * i + x) 67 (40 * i' + y) m))) := by
    refine jseq (n := m) (fun j => nI j) (fun j => HP (cpS s 67 (40 * i + x) 67 (40 * i' + y) j)) ?_ (fun j hj => ?_) m jfuel 0 (by omega) (by unfold jfuel; omega)
    · simp only [f_X6_copy_b96, if_pos (nI_le (Nat.le_refl m) (show m < 2 ^ 31 by omega))]
    · simp only [f_X6_copy_b96, f_X6_copy_b96_j120, if_neg (nI_ge hj (show m < 2 ^ 31 by omega)), if_true, gR_60_8, Option.bind_some, e40x, g67 _ (show 40 * i + x + j < 240 by omega), s67 _ (show 40 * i' + y + j < 240 by omega), nI_1, cpS_f s (k := 67) (a := 40 * i + x) (b := 40 * i' + y) (m := j) (by omega)]
  rw [cpS_0] at l
  exact l
theorem p6_copyB (s : ST) {i x i' y m : Nat} (hi : i < 6) (hi' : i' < 6) (hx : x + m ≤ 40) (hy : y + m ≤ 40) (hyx : x < y) : jloop (f_X6_copy_b96 (some 60) (nI i) (nI x) (nI i') (nI y) (nI m) 1) jfuel 0 (HP s) = some (.inr ((), HP (cpS s 67 (40 * i + x) 67 (40 * i' + y) m))) := by
  have l : jloop (f_X6_copy_b96 (some 60) (nI i) (nI x) (nI i') (nI y) (nI m) 1) jfuel (nI 0) (HP (cpS s 67 (40 * i + x + (m - 0)) 67 (40 * i' + y + (m - 0)) 0)) = some (.inr ((), HP (cpS s 67 (40 * i + x + (m - m)) 67 (40 * i' + y + (m - m)) m))) := by
    refine jseq (n := m) (fun j => nI j) (fun j => HP (cpS s 67 (40 * i + x + (m - j)) 67 (40 * i' + y + (m - j)) j)) ?_ (fun j hj => ?_) m jfuel 0 (by omega) (by unfold jfuel; omega)
    · simp only [f_X6_copy_b96, if_pos (nI_le (Nat.le_refl m) (show m < 2 ^ 31 by omega))]
    · have e : (nI m - 1) - nI j = nI (m - (j + 1)) := by
        rw [show nI m - 1 = nI (m - 1) from pk_sub (a := m) (b := 1) (by omega), pk_sub (by omega), show m - 1 - j = m - (j + 1) by omega]
      have e1 : 40 * i + x + (m - j) = 40 * i + x + (m - (j + 1)) + 1 := by omega
      have e2 : 40 * i' + y + (m - j) = 40 * i' + y + (m - (j + 1)) + 1 := by omega
      simp only [f_X6_copy_b96, f_X6_copy_b96_j120, if_neg (nI_ge hj (show m < 2 ^ 31 by omega)), n10, if_false, gR_60_8, Option.bind_some, e, e40x, g67 _ (show 40 * i + x + (m - (j + 1)) < 240 by omega), s67 _ (show 40 * i' + y + (m - (j + 1)) < 240 by omega), nI_1, e1, e2, cpS_b s (k := 67) (a := 40 * i + x + (m - (j + 1))) (b := 40 * i' + y + (m - (j + 1))) (m := j) (by omega)]
  rw [cpS_0, show m - m = 0 by omega, Nat.add_zero, Nat.add_zero] at l
  exact l
theorem inv_copy {s : ST} (hI : Inv s) {i i' z z' x y m : Nat} (hi : i < 6) (hi' : i' < 6) (hz : z ≤ 40) (z1 : sI s (32 * lc i + 1) = nI z) (z2 : sV s 66 i = nI z) (z3 : ∀ k, k < z → sV s (lc i + 1) k = sV s 67 (40 * i + k)) (hz' : z' ≤ 40) (w1 : sI s (32 * lc i' + 1) = nI z') (w2 : sV s 66 i' = nI z') (w3 : ∀ k, k < z' → sV s (lc i' + 1) k = sV s 67 (40 * i' + k)) (hx : x + m ≤ z) (hy : y + m ≤ z') : Inv (cpS (cpS s (lc i + 1) x (lc i' + 1) y m) 67 (40 * i + x) 67 (40 * i' + y) m) := by
  obtain ⟨hA, hR, hM⟩ := hI
  have el : lc i' = 28 + 2 * i' := rfl
  refine ⟨InvA_same ((SameT.uA (by unfold TyT; omega)).trans (SameT.uA (by unfold TyT; omega))) hA, ?_, InvM_same (s := s) (SameM_of (s := s) (fun k _ => rfl) rfl (by rw [sV_cpSne (by omega), sV_cpSne (by omega)]) (by rw [sV_cpSne (by omega), sV_cpSne (by omega)])) hM⟩
  refine InvR_row hR hi' (fun k _ _ _ => rfl) (fun k b1 b2 b3 => by rw [sV_cpSne (by omega), sV_cpSne b3]) (fun j hj => by rw [sV_cpSne (by omega), sV_cpSne (by omega)]) (fun j hj => by rw [sV_cpS, if_pos rfl, if_neg (by omega), sV_cpSne (by omega)]) (by rw [sV_cpSne (by omega), sV_cpSne (by omega)]) (by rw [sV_cpSne (by omega), sV_cpSne (by omega)]) ?_
  refine Or.inr ⟨z', hz', w1, ?_, fun k hk => ?_⟩
  · rw [sV_cpSne (by omega), sV_cpSne (by omega)]
    exact w2
  · have h67 : sV (cpS s (lc i + 1) x (lc i' + 1) y m) 67 = sV s 67 := sV_cpSne (by omega)
    rw [sV_cpSne (by omega), sV_cpS, if_pos rfl, sV_cpS, if_pos rfl, h67]
    by_cases hc : y ≤ k ∧ k < y + m
    · rw [if_pos hc, if_pos (by omega), z3 (x + (k - y)) (by omega), show 40 * i + (x + (k - y)) = 40 * i + x + (40 * i' + k - (40 * i' + y)) by omega]
    · rw [if_neg hc, if_neg (by omega)]
      exact w3 k hk
theorem ag_copy {s : ST} (hI : Inv s) (a0 a1 a2 a3 a4 : Int32) : ∃ (v : Int32) (s1 s2 : ST), f_X5_copy (some 0) a0 a1 a2 a3 a4 (HP s) = some (v, HP s1) ∧ f_X6_copy (some 60) a0 a1 a2 a3 a4 (HP s1) = some (v, HP s2) ∧ Inv s2 := by
  rcases ix6 a0 with h0 | ⟨i, hi, rfl⟩
  · refine ⟨-1, s, s, ?_, ?_, hI⟩
    · rcases ix6 a2 with h2 | ⟨i', hi', rfl⟩
      · simp only [f_X5_copy, gR_0_0, Option.bind_some, p5_rowNo s h0, p5_rowNo s h2, if_true]
      · simp only [f_X5_copy, gR_0_0, Option.bind_some, p5_rowNo s h0, p5_rowAt s hi' rfl, if_true]
    · simp only [f_X6_copy, isRow_no h0, Option.bind_some, if_true]
  rcases ix6 a2 with h2 | ⟨i', hi', rfl⟩
  · refine ⟨-1, s, s, ?_, ?_, hI⟩
    · simp only [f_X5_copy, gR_0_0, Option.bind_some, p5_rowAt s hi rfl, p5_rowNo s h2, if_true, reduceCtorEq, if_false]
    · simp only [f_X6_copy, isRow_yes hi, isRow_no h2, Option.bind_some, n10, if_false, if_true]
  have hi10 : i < 10 := by omega
  have hi10' : i' < 10 := by omega
  have hm : lm i = 40 := lm_r hi
  have hm' : lm i' = 40 := lm_r hi'
  by_cases hn : 0 ≤ a4
  case neg =>
    refine ⟨-3, fnd5 s 5, fnd6 (fnd5 s 5) 5, ?_, ?_, inv_find hI 5⟩
    · simp only [f_X5_copy, gR_0_0, Option.bind_some, p5_rowAt s hi rfl, p5_rowAt s hi' rfl, reduceCtorEq, if_false, if_neg hn, qO_0, if_true, p5_find (x := 5) s 5 rfl (by omega) (by omega)]
    · simp only [f_X6_copy, isRow_yes hi, isRow_yes hi', Option.bind_some, n10, if_false, if_neg hn, qO_60, if_true, p6_find (x := 5) _ 5 rfl (by omega)]
  have hz := hI.2.1.1 i hi
  have hw := hI.2.1.1 i' hi'
  rcases hz with ⟨z1, z2⟩ | ⟨z, hz, z1, z2, z3⟩
  · have z1 : sI s (32 * lc i + 1) = -1 := z1
    refine ⟨-3, fnd5 s 1, fnd6 (fnd5 s 1) 1, ?_, ?_, inv_find hI 1⟩
    · simp only [f_X5_copy, f_X5_copy_j59, gR_0_0, Option.bind_some, p5_rowAt s hi rfl, p5_rowAt s hi' rfl, reduceCtorEq, if_false, if_pos hn, ln_q s hi10, if_true, p2_missT s hi10 z1, n10, qO_0, p5_find (x := 1) s 1 rfl (by omega) (by omega)]
    · simp only [f_X6_copy, f_X6_copy_j45, isRow_yes hi, isRow_yes hi', Option.bind_some, n10, if_false, if_pos hn, gR_60_7, gA66 _ hi, sV5 s 1 (show 66 ≠ 15 by omega), z2, if_pos (show (-1 : Int32) < 0 by decide), qO_60, if_true, p6_find (x := 1) _ 1 rfl (by omega)]
  have z1 : sI s (32 * lc i + 1) = nI z := z1
  have nz : ¬ nI z < 0 := nI_pos (by omega)
  rcases hw with ⟨w1, w2⟩ | ⟨z', hz', w1, w2, w3⟩
  · have w1 : sI s (32 * lc i' + 1) = -1 := w1
    refine ⟨-3, fnd5 s 1, fnd6 (fnd5 s 1) 1, ?_, ?_, inv_find hI 1⟩
    · simp only [f_X5_copy, f_X5_copy_j59, gR_0_0, Option.bind_some, p5_rowAt s hi rfl, p5_rowAt s hi' rfl, reduceCtorEq, if_false, if_pos hn, ln_q s hi10, ln_q s hi10', if_true, p2_missF s hi10 z1 (show z < 2 ^ 31 by omega), p2_missT s hi10' w1, n10, qO_0, p5_find (x := 1) s 1 rfl (by omega) (by omega)]
    · simp only [f_X6_copy, f_X6_copy_j45, isRow_yes hi, isRow_yes hi', Option.bind_some, n10, if_false, if_pos hn, gR_60_7, gA66 _ hi, gA66 _ hi', sV5 s 1 (show 66 ≠ 15 by omega), z2, w2, if_neg nz, if_neg (show ¬ (0 : Int32) ≤ -1 by decide), qO_60, if_true, p6_find (x := 1) _ 1 rfl (by omega)]
  have w1 : sI s (32 * lc i' + 1) = nI z' := w1
  have hn0 : 0 ≤ a4.toInt := by have := Int32.le_iff_toInt_le.mp hn; simpa using this
  by_cases s1 : 0 ≤ a1.toInt ∧ a1.toInt + a4.toInt ≤ z
  case neg =>
    have s1' : ¬ (0 ≤ a1.toInt ∧ 0 ≤ a4.toInt ∧ a1.toInt + a4.toInt ≤ z) := fun q => s1 ⟨q.1, q.2.2⟩
    refine ⟨-3, fnd5 s 2, fnd6 (fnd5 s 2) 2, ?_, ?_, inv_find hI 2⟩
    · simp only [f_X5_copy, f_X5_copy_j88, gR_0_0, Option.bind_some, p5_rowAt s hi rfl, p5_rowAt s hi' rfl, reduceCtorEq, if_false, if_pos hn, ln_q s hi10, ln_q s hi10', if_true, p2_missF s hi10 z1 (show z < 2 ^ 31 by omega), p2_missF s hi10' w1 (show z' < 2 ^ 31 by omega), p2_span s hi10 z1 (by omega), if_neg s1', qO_0, p5_find (x := 2) s 2 rfl (by omega) (by omega)]
    · simp only [f_X6_copy, f_X6_copy_j74, isRow_yes hi, isRow_yes hi', Option.bind_some, n10, if_false, if_pos hn, gR_60_7, gA66 _ hi, gA66 _ hi', sV5 s 2 (show 66 ≠ 15 by omega), z2, w2, if_neg nz, if_pos (nI_pos' (show z' < 2 ^ 31 by omega)), qO_60, if_true, p6_span (fnd5 s 2) hi (show sV (fnd5 s 2) 66 i = nI z by rw [sV5 s 2 (by omega)]; exact z2) hz, if_neg s1, p6_find (x := 2) _ 2 rfl (by omega)]
  have s1' : 0 ≤ a1.toInt ∧ 0 ≤ a4.toInt ∧ a1.toInt + a4.toInt ≤ z := ⟨s1.1, hn0, s1.2⟩
  by_cases s2 : 0 ≤ a3.toInt ∧ a3.toInt + a4.toInt ≤ z'
  case neg =>
    have s2' : ¬ (0 ≤ a3.toInt ∧ 0 ≤ a4.toInt ∧ a3.toInt + a4.toInt ≤ z') := fun q => s2 ⟨q.1, q.2.2⟩
    refine ⟨-3, fnd5 s 2, fnd6 (fnd5 s 2) 2, ?_, ?_, inv_find hI 2⟩
    · simp only [f_X5_copy, f_X5_copy_j88, gR_0_0, Option.bind_some, p5_rowAt s hi rfl, p5_rowAt s hi' rfl, reduceCtorEq, if_false, if_pos hn, ln_q s hi10, ln_q s hi10', if_true, p2_missF s hi10 z1 (show z < 2 ^ 31 by omega), p2_missF s hi10' w1 (show z' < 2 ^ 31 by omega), p2_span s hi10 z1 (by omega), if_pos s1', p2_span s hi10' w1 (by omega), if_neg s2', n10, qO_0, p5_find (x := 2) s 2 rfl (by omega) (by omega)]
    · simp only [f_X6_copy, f_X6_copy_j74, isRow_yes hi, isRow_yes hi', Option.bind_some, n10, if_false, if_pos hn, gR_60_7, gA66 _ hi, gA66 _ hi', sV5 s 2 (show 66 ≠ 15 by omega), z2, w2, if_neg nz, if_pos (nI_pos' (show z' < 2 ^ 31 by omega)), qO_60, if_true, p6_span (fnd5 s 2) hi (show sV (fnd5 s 2) 66 i = nI z by rw [sV5 s 2 (by omega)]; exact z2) hz, if_pos s1, p6_span (fnd5 s 2) hi' (show sV (fnd5 s 2) 66 i' = nI z' by rw [sV5 s 2 (by omega)]; exact w2) hz', if_neg s2, p6_find (x := 2) _ 2 rfl (by omega)]
  have s2' : 0 ≤ a3.toInt ∧ 0 ≤ a4.toInt ∧ a3.toInt + a4.toInt ≤ z' := ⟨s2.1, hn0, s2.2⟩
  have toN : ∀ x : Int32, 0 ≤ x.toInt → x.toInt ≤ 40 → ∃ k : Nat, x = nI k ∧ (k : Int) = x.toInt := fun x q1 q2 => by
    rcases ix_n x (n := 41) (by omega) with q | ⟨k, hk, rfl⟩
    · exfalso
      rcases q with q | q
      · have := toInt_neg q; omega
      · have := toInt_ge (by omega) q; omega
    · exact ⟨k, rfl, by rw [nI_toInt (by omega)]⟩
  obtain ⟨x, rfl, hx⟩ := toN a1 s1.1 (by omega)
  obtain ⟨y, rfl, hy⟩ := toN a3 s2.1 (by omega)
  obtain ⟨m, rfl, hm4⟩ := toN a4 hn0 (by omega)
  have hxm : x + m ≤ z := by omega
  have hym : y + m ≤ z' := by omega
  refine ⟨1, cpS s (lc i + 1) x (lc i' + 1) y m, cpS (cpS s (lc i + 1) x (lc i' + 1) y m) 67 (40 * i + x) 67 (40 * i' + y) m, ?_, ?_, inv_copy hI hi hi' hz z1 z2 z3 hz' w1 w2 w3 hxm hym⟩
  · have c : cA (HP s) (some (lc i + 1)) (nI x) (some (lc i' + 1)) (nI y) (nI m) = some (HP (cpS s (lc i + 1) x (lc i' + 1) y m)) := HP_cA s (ln_pos hi10) (ln_pos hi10') (by rw [ln_len hi10]; omega) (by rw [ln_len hi10']; omega) (by omega)
    simp only [f_X5_copy, f_X2_take, gR_0_0, Option.bind_some, p5_rowAt s hi rfl, p5_rowAt s hi' rfl, reduceCtorEq, if_false, if_pos hn, ln_q s hi10, ln_q s hi10', if_true, p2_missF s hi10 z1 (show z < 2 ^ 31 by omega), p2_missF s hi10' w1 (show z' < 2 ^ 31 by omega), p2_span s hi10 z1 (show z ≤ lm i by omega), if_pos s1', p2_span s hi10' w1 (show z' ≤ lm i' by omega), if_pos s2', n10, ln_p s hi10, ln_p s hi10', c]
  · generalize hs1 : cpS s (lc i + 1) x (lc i' + 1) y m = t1
    have el : lc i' = 28 + 2 * i' := rfl
    have v66 : sV t1 66 = sV s 66 := by rw [← hs1, sV_cpSne (by omega)]
    have q1 : sV t1 66 i = nI z := by rw [v66]; exact z2
    have q2 : sV t1 66 i' = nI z' := by rw [v66]; exact w2
    by_cases hyx : y ≤ x
    · simp only [f_X6_copy, isRow_yes hi, isRow_yes hi', Option.bind_some, n10, if_false, if_pos hn, gR_60_7, gA66 _ hi, gA66 _ hi', q1, q2, if_neg nz, if_pos (nI_pos' (show z' < 2 ^ 31 by omega)), qO_60, if_true, p6_span t1 hi q1 hz, if_pos s1, p6_span t1 hi' q2 hz', if_pos s2, if_pos (nI_le hyx (show x < 2 ^ 31 by omega)), p6_copyF t1 hi hi' (show x + m ≤ 40 by omega) (show y + m ≤ 40 by omega) hyx]
    · simp only [f_X6_copy, isRow_yes hi, isRow_yes hi', Option.bind_some, n10, if_false, if_pos hn, gR_60_7, gA66 _ hi, gA66 _ hi', q1, q2, if_neg nz, if_pos (nI_pos' (show z' < 2 ^ 31 by omega)), qO_60, if_true, p6_span t1 hi q1 hz, if_pos s1, p6_span t1 hi' q2 hz', if_pos s2, if_neg (nI_ge (show x < y by omega) (show y < 2 ^ 31 by omega)), p6_copyB t1 hi hi' (show x + m ≤ 40 by omega) (show y + m ≤ 40 by omega) (show x < y by omega)]
