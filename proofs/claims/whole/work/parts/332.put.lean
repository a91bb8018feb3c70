/-! ===== text, tear, lay, at, put, findings ===== -/
theorem p2_missT (s : ST) {i : Nat} (h : i < 10) (hz : sI s (32 * lc i + 1) = -1) : f_X2_isMissing (some (lc i)) (HP s) = some (1, HP s) := by
  rw [p2_isMissing s h, hz, if_neg (by decide)]
theorem p2_missF (s : ST) {i n : Nat} (h : i < 10) (hz : sI s (32 * lc i + 1) = nI n) (hn : n < 2 ^ 31) : f_X2_isMissing (some (lc i)) (HP s) = some (0, HP s) := by
  rw [p2_isMissing s h, hz, if_pos (nI_pos' hn)]
theorem p2_holdsF (s : ST) {i n : Nat} (h : i < 10) (hz : sI s (32 * lc i + 1) = nI n) (hn : n ≤ lm i) {x : Int32} (hx : x < 0 ∨ nI n ≤ x) : f_X2_holds (some (lc i)) x (HP s) = some (0, HP s) := by
  have hl := lm_pos i
  rw [p2_holds s h hz hn, if_neg]
  rcases hx with hx | hx
  · have := toInt_neg hx; omega
  · have := toInt_ge (by omega) hx; omega
theorem p5_ref1 (s : ST) {i : Nat} (h : i < 10) (hz : sI s (32 * lc i + 1) = -1) (x : Int32) : f_X5_refusePlace (some 0) (some (lc i)) x (HP s) = some (-3, HP (fnd5 s 1)) := by
  unfold f_X5_refusePlace
  rw [if_pos (ln_q s h), p2_missT s h hz, Option.bind_some]
  show (if (1 : Int32) = 0 then _ else if qO (HP s) (some 0) 5 = true then (f_X5_find (some 0) 1 (HP s)).bind _ else none) = _
  rw [if_neg (by decide), if_pos (qO_0 s), p5_find (x := 1) s 1 rfl (by omega) (by omega), Option.bind_some]
theorem p5_ref2 (s : ST) {i n : Nat} (h : i < 10) (hz : sI s (32 * lc i + 1) = nI n) (hn : n ≤ lm i) {x : Int32} (hx : x < 0 ∨ nI n ≤ x) : f_X5_refusePlace (some 0) (some (lc i)) x (HP s) = some (-3, HP (fnd5 s 2)) := by
  have hl := lm_pos i
  unfold f_X5_refusePlace
  rw [if_pos (ln_q s h), p2_missF s h hz (by omega), Option.bind_some]
  show (if (0 : Int32) = 0 then (if qO (HP s) (some (lc i)) 2 = true then (f_X2_holds (some (lc i)) x (HP s)).bind _ else none) else _) = _
  rw [if_pos rfl, if_pos (ln_q s h), p2_holdsF s h hz hn hx, Option.bind_some]
  show (if (0 : Int32) = 0 then (if qO (HP s) (some 0) 5 = true then (f_X5_find (some 0) 2 (HP s)).bind _ else none) else _) = _
  rw [if_pos rfl, if_pos (qO_0 s), p5_find (x := 2) s 2 rfl (by omega) (by omega), Option.bind_some]
theorem p5_ref0 (s : ST) {i n j : Nat} (h : i < 10) (hz : sI s (32 * lc i + 1) = nI n) (hn : n ≤ lm i) (hj : j < n) : f_X5_refusePlace (some 0) (some (lc i)) (nI j) (HP s) = some (0, HP s) := by
  have hl := lm_pos i
  unfold f_X5_refusePlace
  rw [if_pos (ln_q s h), p2_missF s h hz (by omega), Option.bind_some]
  show (if (0 : Int32) = 0 then (if qO (HP s) (some (lc i)) 2 = true then (f_X2_holds (some (lc i)) (nI j) (HP s)).bind _ else none) else _) = _
  rw [if_pos rfl, if_pos (ln_q s h), p2_holdsT s h hz hn hj, Option.bind_some]
  rfl
theorem gA66 (s : ST) {i : Nat} (h : i < 6) : gA (HP s) (some 66) (nI i) = some (sV s 66 i) := HP_gAn s (show i < hLen 66 from h) (by omega)
theorem gA68 (s : ST) {i : Nat} (h : i < 4) : gA (HP s) (some 68) (nI i) = some (sV s 68 i) := HP_gAn s (show i < hLen 68 from h) (by omega)
/-- a place below the size, as the reference asks for it -/
theorem p6_inz {n : Nat} (hn : n < 2 ^ 30) (x : Int32) (ah : AH) : f_X6_in (Int32.toInt64 x) 0 (Int32.toInt64 (nI n - 1)) ah = some (if 0 ≤ x.toInt ∧ x.toInt < n then 1 else 0, ah) := by
  have e : (nI n - 1).toInt = (n : Int) - 1 := by
    have := pk_sub_toInt (a := n) (b := 1) hn (by decide)
    exact this
  rw [p6_inI, Int32.toInt_toInt64, e]
  have e0 : (0 : Int64).toInt = 0 := rfl
  rw [e0]
  congr 2
  by_cases h : 0 ≤ x.toInt ∧ x.toInt < n
  · rw [if_pos h, if_pos (by omega)]
  · rw [if_neg h, if_neg (by omega)]
theorem p6_inT {n j : Nat} (hn : n < 2 ^ 30) (hj : j < n) (ah : AH) : f_X6_in (Int32.toInt64 (nI j)) 0 (Int32.toInt64 (nI n - 1)) ah = some (1, ah) := by
  rw [p6_inz hn, if_pos (by rw [nI_toInt (by omega)]; omega)]
theorem p6_inF {n : Nat} (hn : n < 2 ^ 30) {x : Int32} (hx : x < 0 ∨ nI n ≤ x) (ah : AH) : f_X6_in (Int32.toInt64 x) 0 (Int32.toInt64 (nI n - 1)) ah = some (0, ah) := by
  rw [p6_inz hn, if_neg]
  rcases hx with hx | hx
  · have := toInt_neg hx; omega
  · have := toInt_ge (by omega) hx; omega
theorem n10 : ((1 : Int32) = 0) = False := eq_false (by decide)
theorem p6_ref1 (s : ST) {i : Nat} (h : i < 6) (hz : sV s 66 i = -1) (x : Int32) : f_X6_refused (some 60) (nI i) x (HP s) = some (-3, HP (fnd6 s 1)) := by
  simp only [f_X6_refused, isRow_yes h, Option.bind_some, n10, if_false, gR_60_7, gA66 s h, hz, if_neg (show ¬ (0 : Int32) ≤ -1 by decide), qO_60, if_true, p6_find (x := 1) s 1 rfl (by omega)]
theorem p6_ref2 (s : ST) {i n : Nat} (h : i < 6) (hz : sV s 66 i = nI n) (hn : n ≤ 40) {x : Int32} (hx : x < 0 ∨ nI n ≤ x) : f_X6_refused (some 60) (nI i) x (HP s) = some (-3, HP (fnd6 s 2)) := by
  simp only [f_X6_refused, isRow_yes h, Option.bind_some, n10, if_false, gR_60_7, gA66 s h, hz, if_pos (nI_pos' (show n < 2 ^ 31 by omega)), p6_inF (show n < 2 ^ 30 by omega) hx, qO_60, if_true, p6_find (x := 2) s 2 rfl (by omega)]
theorem p6_ref0 (s : ST) {i n j : Nat} (h : i < 6) (hz : sV s 66 i = nI n) (hn : n ≤ 40) (hj : j < n) : f_X6_refused (some 60) (nI i) (nI j) (HP s) = some (0, HP s) := by
  simp only [f_X6_refused, isRow_yes h, Option.bind_some, n10, if_false, gR_60_7, gA66 s h, hz, if_pos (nI_pos' (show n < 2 ^ 31 by omega)), p6_inT (show n < 2 ^ 30 by omega) hj]
theorem ix_n (x : Int32) {n : Nat} (hn : n < 2 ^ 31) : (x < 0 ∨ nI n ≤ x) ∨ ∃ i, i < n ∧ x = nI i := by
  rcases pk_ix x hn with h | h | h
  · exact Or.inl (Or.inl h)
  · exact Or.inl (Or.inr h)
  · exact Or.inr h
theorem e40 (i j : Nat) : 40 * nI i + nI j = nI (40 * i + j) := by
  rw [← nI_add, ← pk_mul]
  rfl
theorem e60 (i j : Nat) : 60 * nI i + nI j = nI (60 * i + j) := by
  rw [← nI_add, ← pk_mul]
  rfl
theorem gA67 (s : ST) {i j : Nat} (h : i < 6) (hj : j < 40) : gA (HP s) (some 67) (40 * nI i + nI j) = some (sV s 67 (40 * i + j)) := by
  rw [e40]
  exact HP_gAn s (show 40 * i + j < 240 by omega) (by omega)
theorem sA67 (s : ST) {i j : Nat} (h : i < 6) (hj : j < 40) (v : Int32) : sA (HP s) (some 67) (40 * nI i + nI j) v = some (HP (uV s 67 (40 * i + j) v)) := by
  rw [e40]
  exact HP_sAn s v (show 40 * i + j < 240 by omega) (by omega)
theorem gA69 (s : ST) {i j : Nat} (h : i < 4) (hj : j < 60) : gA (HP s) (some 69) (60 * nI i + nI j) = some (sV s 69 (60 * i + j)) := by
  rw [e60]
  exact HP_gAn s (show 60 * i + j < 240 by omega) (by omega)
theorem sA69 (s : ST) {i j : Nat} (h : i < 4) (hj : j < 60) (v : Int32) : sA (HP s) (some 69) (60 * nI i + nI j) v = some (HP (uV s 69 (60 * i + j) v)) := by
  rw [e60]
  exact HP_sAn s v (show 60 * i + j < 240 by omega) (by omega)
/-- both tell the same -/
theorem inv_tell {s : ST} (hI : Inv s) (v : Int32) : Inv (uI (uI s 11 v) 1931 v) := by
  obtain ⟨hA, hR, a1, a2, a3, a4, a5⟩ := hI
  exact ⟨InvA_same ((SameT.uI (by unfold IdT; omega)).trans (SameT.uI (by unfold IdT; omega))) hA, InvR_same ((SameR.uI (by omega)).trans (SameR.uI (by omega))) hR, rfl, a2, a3, a4, a5⟩
theorem p6_tell (s : ST) (v : Int32) : f_X6_tell (some 60) v (HP s) = some (1, HP (uI s 1931 v)) := by
  unfold f_X6_tell
  rw [sF_60_11, Option.bind_some]
theorem n30 : ((-3 : Int32) = 0) = False := eq_false (by decide)
theorem sV5 (s : ST) (f : Nat) {k : Nat} (h : k ≠ 15) : sV (fnd5 s f) k = sV s k := by
  unfold fnd5
  rw [sV_uVne h, sV_uI]
theorem ag_at {s : ST} (hI : Inv s) (a0 a1 : Int32) : ∃ (v : Int32) (s1 s2 : ST), f_X5_at (some 0) a0 a1 (HP s) = some (v, HP s1) ∧ f_X6_at (some 60) a0 a1 (HP s1) = some (v, HP s2) ∧ Inv s2 := by
  rcases ix6 a0 with h0 | ⟨i, hi, rfl⟩
  · refine ⟨-1, s, s, ?_, ?_, hI⟩
    · simp only [f_X5_at, gR_0_0, Option.bind_some, p5_rowNo s h0, if_true]
    · simp only [f_X6_at, f_X6_refused, qO_60, if_true, isRow_no h0, Option.bind_some, if_neg (show ¬ (-1 : Int32) = 0 by decide)]
  have hz := hI.2.1.1 i hi
  have hi10 : i < 10 := by omega
  have hm : lm i = 40 := lm_r hi
  rcases hz with ⟨z1, z2⟩ | ⟨n, hn, z1, z2, z3⟩
  · refine ⟨-3, fnd5 s 1, fnd6 (fnd5 s 1) 1, ?_, ?_, inv_find hI 1⟩
    · simp only [f_X5_at, gR_0_0, Option.bind_some, p5_rowAt s hi rfl, reduceCtorEq, if_false, qO_0, if_true, p5_ref1 s hi10 z1, n30]
    · simp only [f_X6_at, qO_60, if_true, p6_ref1 (fnd5 s 1) hi (by rw [sV5 s 1 (by omega)]; exact z2), Option.bind_some, n30, if_false]
  rcases ix_n a1 (n := n) (by omega) with h1 | ⟨j, hj, rfl⟩
  · refine ⟨-3, fnd5 s 2, fnd6 (fnd5 s 2) 2, ?_, ?_, inv_find hI 2⟩
    · simp only [f_X5_at, gR_0_0, Option.bind_some, p5_rowAt s hi rfl, reduceCtorEq, if_false, qO_0, if_true, p5_ref2 s hi10 z1 (by omega) h1, n30]
    · simp only [f_X6_at, qO_60, if_true, p6_ref2 (fnd5 s 2) hi (by rw [sV5 s 2 (by omega)]; exact z2) hn h1, Option.bind_some, n30, if_false]
  · refine ⟨1, uI s 11 (sV s (lc i + 1) j), uI (uI s 11 (sV s (lc i + 1) j)) 1931 (sV s (lc i + 1) j), ?_, ?_, inv_tell hI _⟩
    · simp only [f_X5_at, gR_0_0, Option.bind_some, p5_rowAt s hi rfl, reduceCtorEq, if_false, qO_0, if_true, p5_ref0 s hi10 z1 (by omega) hj, ln_q s hi10, p2_get s hi10 z1 (by omega) hj, sF_0_11]
    · have e : sV s 67 (40 * i + j) = sV s (lc i + 1) j := (z3 j hj).symm
      simp only [f_X6_at, qO_60, if_true, p6_ref0 (uI s 11 (sV s (lc i + 1) j)) hi (by rw [sV_uI]; exact z2) hn hj, Option.bind_some, gR_60_8, gA67 _ hi (show j < 40 by omega), p6_tell, sV_uI, e]
/-- one place of a ROW is the same on both sides -/
theorem inv_lay {s : ST} (hI : Inv s) {i n j : Nat} (hi : i < 6) (hn : n ≤ 40) (z1 : sI s (32 * lc i + 1) = nI n) (z2 : sV s 66 i = nI n) (z3 : ∀ k, k < n → sV s (lc i + 1) k = sV s 67 (40 * i + k)) (hj : j < n) (v : Int32) : Inv (uV (uV s (lc i + 1) j v) 67 (40 * i + j) v) := by
  obtain ⟨hA, hR, hM⟩ := hI
  have hl : lc i = 28 + 2 * i := rfl
  refine ⟨InvA_same ((SameT.uV (by unfold TyT; omega)).trans (SameT.uV (by unfold TyT; omega))) hA, ?_, InvM_same ?_ hM⟩
  · refine InvR_row hR hi (fun k _ _ _ => rfl) ?_ ?_ ?_ ?_ ?_ ?_
    · intro k h1 h2 hk
      rw [sV_uVne (by omega), sV_uVne hk]
    · intro k hk
      rw [sV_uVne (by omega), sV_uVne (by omega)]
    · intro k hk
      rw [sV_uV, if_pos rfl, if_neg (by omega), sV_uVne (by omega)]
    · rw [sV_uVne (by omega), sV_uVne (by omega)]
    · rw [sV_uVne (by omega), sV_uVne (by omega)]
    · refine Or.inr ⟨n, hn, z1, ?_, fun k hk => ?_⟩
      · rw [sV_uVne (by omega), sV_uVne (by omega)]
        exact z2
      · rw [sV_uVne (by omega), sV_uV, if_pos rfl, sV_uV, if_pos rfl, sV_uVne (by omega)]
        by_cases hkj : k = j
        · rw [if_pos hkj, if_pos (by omega)]
        · rw [if_neg hkj, if_neg (by omega)]
          exact z3 k hk
  · exact SameM_of (fun k _ => rfl) rfl (by rw [sV_uVne (by omega), sV_uVne (by omega)]) (by rw [sV_uVne (by omega), sV_uVne (by omega)])
theorem ag_lay {s : ST} (hI : Inv s) (a0 a1 a2 : Int32) : ∃ (v : Int32) (s1 s2 : ST), f_X5_lay (some 0) a0 a1 a2 (HP s) = some (v, HP s1) ∧ f_X6_lay (some 60) a0 a1 a2 (HP s1) = some (v, HP s2) ∧ Inv s2 := by
  rcases ix6 a0 with h0 | ⟨i, hi, rfl⟩
  · refine ⟨-1, s, s, ?_, ?_, hI⟩
    · simp only [f_X5_lay, gR_0_0, Option.bind_some, p5_rowNo s h0, if_true]
    · simp only [f_X6_lay, f_X6_refused, qO_60, if_true, isRow_no h0, Option.bind_some, if_neg (show ¬ (-1 : Int32) = 0 by decide)]
  have hz := hI.2.1.1 i hi
  have hi10 : i < 10 := by omega
  have hm : lm i = 40 := lm_r hi
  rcases hz with ⟨z1, z2⟩ | ⟨n, hn, z1, z2, z3⟩
  · refine ⟨-3, fnd5 s 1, fnd6 (fnd5 s 1) 1, ?_, ?_, inv_find hI 1⟩
    · simp only [f_X5_lay, gR_0_0, Option.bind_some, p5_rowAt s hi rfl, reduceCtorEq, if_false, qO_0, if_true, p5_ref1 s hi10 z1, n30]
    · simp only [f_X6_lay, qO_60, if_true, p6_ref1 (fnd5 s 1) hi (by rw [sV5 s 1 (by omega)]; exact z2), Option.bind_some, n30, if_false]
  rcases ix_n a1 (n := n) (by omega) with h1 | ⟨j, hj, rfl⟩
  · refine ⟨-3, fnd5 s 2, fnd6 (fnd5 s 2) 2, ?_, ?_, inv_find hI 2⟩
    · simp only [f_X5_lay, gR_0_0, Option.bind_some, p5_rowAt s hi rfl, reduceCtorEq, if_false, qO_0, if_true, p5_ref2 s hi10 z1 (by omega) h1, n30]
    · simp only [f_X6_lay, qO_60, if_true, p6_ref2 (fnd5 s 2) hi (by rw [sV5 s 2 (by omega)]; exact z2) hn h1, Option.bind_some, n30, if_false]
  · have hl : lc i = 28 + 2 * i := rfl
    have z1' : sI (uI s 11 (sV s (lc i + 1) j)) (32 * lc i + 1) = nI n := by rw [sI_uI, if_neg (by omega)]; exact z1
    have hv : sV s 67 (40 * i + j) = sV s (lc i + 1) j := (z3 j hj).symm
    have hI' := inv_tell (inv_lay hI hi hn z1 z2 z3 hj a2) (sV s (lc i + 1) j)
    refine ⟨1, uV (uI s 11 (sV s (lc i + 1) j)) (lc i + 1) j a2, _, ?_, ?_, hI'⟩
    · simp only [f_X5_lay, gR_0_0, Option.bind_some, p5_rowAt s hi rfl, reduceCtorEq, if_false, qO_0, if_true, p5_ref0 s hi10 z1 (by omega) hj, ln_q _ hi10, p2_get s hi10 z1 (by omega) hj, sF_0_11, p2_set _ hi10 z1' (by omega) hj]
    · have e2 : sV (uV (uI s 11 (sV s (lc i + 1) j)) (lc i + 1) j a2) 66 i = nI n := by rw [sV_uVne (by omega), sV_uI]; exact z2
      have e3 : sV (uV (uI s 11 (sV s (lc i + 1) j)) (lc i + 1) j a2) 67 = sV s 67 := by rw [sV_uVne (by omega), sV_uI]
      simp only [f_X6_lay, qO_60, if_true, p6_ref0 _ hi e2 hn hj, Option.bind_some, gR_60_8, gA67 _ hi (show j < 40 by omega), sA67 _ hi (show j < 40 by omega), p6_tell, e3, hv]
      rfl
