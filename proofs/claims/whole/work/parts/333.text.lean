theorem nm1 : ((-1 : Int32) = 0) = False := eq_false (by decide)
theorem ag_tear {s : ST} (hI : Inv s) (a0 : Int32) : ∃ (v : Int32) (s1 s2 : ST), f_X5_tear (some 0) a0 (HP s) = some (v, HP s1) ∧ f_X6_tear (some 60) a0 (HP s1) = some (v, HP s2) ∧ Inv s2 := by
  rcases ix6 a0 with h0 | ⟨i, hi, rfl⟩
  · refine ⟨-1, s, s, ?_, ?_, hI⟩
    · simp only [f_X5_tear, gR_0_0, Option.bind_some, p5_rowNo s h0, if_true]
    · simp only [f_X6_tear, isRow_no h0, Option.bind_some, if_true]
  have hz := hI.2.1.1 i hi
  have hi10 : i < 10 := by omega
  have hl : lc i = 28 + 2 * i := rfl
  rcases hz with ⟨z1, z2⟩ | ⟨n, hn, z1, z2, z3⟩
  · refine ⟨-3, fnd5 s 1, fnd6 (fnd5 s 1) 1, ?_, ?_, inv_find hI 1⟩
    · simp only [f_X5_tear, gR_0_0, Option.bind_some, p5_rowAt s hi rfl, reduceCtorEq, if_false, ln_q s hi10, if_true, p2_missT s hi10 z1, n10, qO_0, p5_find (x := 1) s 1 rfl (by omega) (by omega)]
    · simp only [f_X6_tear, isRow_yes hi, Option.bind_some, n10, if_false, gR_60_7, gA66 _ hi, sV5 s 1 (show 66 ≠ 15 by omega), z2, if_neg (show ¬ (0 : Int32) ≤ -1 by decide), qO_60, if_true, p6_find (x := 1) _ 1 rfl (by omega)]
  · refine ⟨1, uI s (32 * lc i + 1) (-1), uV (uI s (32 * lc i + 1) (-1)) 66 i (-1), ?_, ?_, ?_⟩
    · simp only [f_X5_tear, gR_0_0, Option.bind_some, p5_rowAt s hi rfl, reduceCtorEq, if_false, ln_q s hi10, if_true, p2_missF s hi10 z1 (by omega), p2_discard s hi10]
    · simp only [f_X6_tear, isRow_yes hi, Option.bind_some, n10, if_false, gR_60_7, gA66 _ hi, sV_uI, z2, if_pos (nI_pos' (show n < 2 ^ 31 by omega)), HP_sAn _ (-1) (show i < hLen 66 from hi) (show i < 2 ^ 31 by omega)]
    · obtain ⟨hA, hR, hM⟩ := hI
      refine ⟨InvA_same ((SameT.uI (by unfold IdT; omega)).trans (SameT.uV (by unfold TyT; omega))) hA, ?_, InvM_same ?_ hM⟩
      · refine InvR_row hR hi ?_ ?_ ?_ ?_ ?_ ?_ ?_
        · intro k _ _ hk
          rw [sI_uV, sI_uI, if_neg hk]
        · intro k _ _ hk
          rw [sV_uVne (by omega), sV_uI]
        · intro k hk
          rw [sV_uV, if_pos rfl, if_neg hk, sV_uI]
        · intro k hk
          rw [sV_uVne (by omega), sV_uI]
        · rw [sV_uVne (by omega), sV_uI]
        · rw [sV_uVne (by omega), sV_uI]
        · refine Or.inl ⟨?_, ?_⟩
          · rw [sI_uV, sI_uI, if_pos rfl]
          · rw [sV_uV, if_pos rfl, if_pos rfl]
      · exact SameM_of (fun k hk => by rw [sI_uV, sI_uI, if_neg (by omega)]) rfl (by rw [sV_uVne (by omega), sV_uI]) (by rw [sV_uVne (by omega), sV_uI])
theorem ag_findings {s : ST} (hI : Inv s) (a0 : Int32) : ∃ (v : Int32) (s1 s2 : ST), f_X5_findings (some 0) a0 (HP s) = some (v, HP s1) ∧ f_X6_findings (some 60) a0 (HP s1) = some (v, HP s2) ∧ Inv s2 := by
  have e6 : ∀ ah, f_X6_in (Int32.toInt64 a0) 1 5 ah = some (if 1 ≤ a0.toInt ∧ a0.toInt ≤ 5 then 1 else 0, ah) := fun ah => p6_inI a0 1 5 ah
  rcases pk_ix a0 (n := 6) (by omega) with h | h | ⟨f, hf, rfl⟩
  · have h1 := toInt_neg h
    refine ⟨-1, s, s, ?_, ?_, hI⟩
    · have e1 : a0 < 1 := Int32.lt_iff_toInt_lt.mpr (by simp; omega)
      simp only [f_X5_findings, if_pos e1]
    · simp only [f_X6_findings, e6, Option.bind_some, if_neg (show ¬ (1 ≤ a0.toInt ∧ a0.toInt ≤ 5) by omega), if_true]
  · have h1 := toInt_ge (by omega) h
    refine ⟨-1, s, s, ?_, ?_, hI⟩
    · have e1 : ¬ a0 < 1 := fun q => by have := Int32.lt_iff_toInt_lt.mp q; simp at this; omega
      have e2 : ¬ a0 ≤ 5 := fun q => by have := Int32.le_iff_toInt_le.mp q; simp at this; omega
      simp only [f_X5_findings, if_neg e1, if_neg e2]
    · simp only [f_X6_findings, e6, Option.bind_some, if_neg (show ¬ (1 ≤ a0.toInt ∧ a0.toInt ≤ 5) by omega), if_true]
  · have ht : (nI f).toInt = f := nI_toInt (by omega)
    by_cases h0 : f = 0
    · subst h0
      refine ⟨-1, s, s, ?_, ?_, hI⟩
      · simp only [f_X5_findings, if_pos (show nI 0 < 1 by decide)]
      · simp only [f_X6_findings, e6, Option.bind_some, if_neg (show ¬ (1 ≤ (nI 0).toInt ∧ (nI 0).toInt ≤ 5) by omega), if_true]
    · have e1 : ¬ nI f < 1 := nI_nlt (a := f) (b := 1) (by omega) (by omega)
      have e2 : nI f ≤ 5 := nI_le (b := 5) (by omega) (by omega)
      refine ⟨sV s 15 f, s, s, ?_, ?_, hI⟩
      · simp only [f_X5_findings, if_neg e1, if_pos e2, gR_0_7, Option.bind_some, HP_gAn s (show f < hLen 15 from hf) (show f < 2 ^ 31 by omega)]
      · simp only [f_X6_findings, e6, Option.bind_some, if_pos (show 1 ≤ (nI f).toInt ∧ (nI f).toInt ≤ 5 by omega), n10, if_false, gR_60_15, HP_gAn s (show f < hLen 70 from hf) (show f < 2 ^ 31 by omega), hI.2.2.2.2.2.2 f (by omega) (by omega)]
/-! texts -/
theorem p6_text_loop {i : Nat} (hi : i < 4) (z : Int32) : ∀ (m f j : Nat) (s : ST), j + m = 60 → m < f → jloop (f_X6_text_b34 (some 60) (nI i) z) f (nI j) (HP s) = some (.inr ((), HP (fillV s 69 32 (60 * i + j) m))) := by
  intro m
  induction m with
  | zero =>
    intro f j s hj hf
    obtain ⟨f, rfl⟩ : ∃ f', f = f' + 1 := ⟨f - 1, by omega⟩
    rw [jloop]
    unfold f_X6_text_b34
    rw [if_pos (show (60 : Int32) ≤ nI j from nI_le (a := 60) (by omega) (by omega))]
    rfl
  | succ m ih =>
    intro f j s hj hf
    obtain ⟨f, rfl⟩ : ∃ f', f = f' + 1 := ⟨f - 1, by omega⟩
    rw [jloop]
    have e : f_X6_text_b34 (some 60) (nI i) z (nI j) (HP s) = some (.inr (.inr (nI (j + 1), HP (uV s 69 (60 * i + j) 32)))) := by
      simp only [f_X6_text_b34, if_neg (show ¬ (60 : Int32) ≤ nI j from nI_ge (b := 60) (by omega) (by omega)), gR_60_10, Option.bind_some, sA69 s hi (show j < 60 by omega), nI_1]
    rw [e]
    show jloop (f_X6_text_b34 (some 60) (nI i) z) f (nI (j + 1)) (HP (uV s 69 (60 * i + j) 32)) = _
    rw [ih f (j + 1) _ (by omega) (by omega)]
    rfl
def mkText (s : ST) (i : Nat) (v : Int32) : ST := fillV (uV s 68 i v) 69 32 (60 * i) 60
theorem p6_textL (s : ST) {i : Nat} (hi : i < 4) (z : Int32) : jloop (f_X6_text_b34 (some 60) (nI i) z) jfuel 0 (HP (uV s 68 i z)) = some (.inr ((), HP (mkText s i z))) := by
  have h := p6_text_loop hi z 60 jfuel 0 (uV s 68 i z) (by omega) (by unfold jfuel; omega)
  rw [Nat.add_zero] at h
  exact h
theorem inv_text {s : ST} (hI : Inv s) {i n : Nat} (hi : i < 4) (hn : n ≤ 60) : Inv (mkText (renew s (6 + i) n 32) i (nI n)) := by
  obtain ⟨hA, hR, hM⟩ := hI
  have hl : lc (6 + i) = 40 + 2 * i := lc_t i
  unfold mkText renew
  rw [hl]
  refine ⟨InvA_same ?_ hA, ?_, InvM_same ?_ hM⟩
  · refine SameT.trans (SameT.trans (SameT.uI (k := 32 * (40 + 2 * i) + 1) (v := nI n) (by unfold IdT; omega)) (SameT_fill 32 (by unfold TyT; omega) 0 n)) (SameT.trans (SameT.uV (k := 68) (i := i) (v := nI n) (by unfold TyT; omega)) (SameT_fill 32 (by unfold TyT; omega) (60 * i) 60))
  · refine InvR_text hR hi ?_ ?_ ?_ ?_ ?_ ?_ ?_
    · intro k _ _ hk
      rw [fillV_I, sI_uV, fillV_I, sI_uI, if_neg hk]
    · intro k h1 h2 hk
      rw [fillV_ne (by omega), sV_uVne (by omega), fillV_ne hk, sV_uI]
    · intro j hj
      rw [fillV_ne (by omega), sV_uV, if_pos rfl, if_neg hj, fillV_ne (by omega), sV_uI]
    · intro j hj
      rw [fillV_in, if_neg (by omega), sV_uVne (by omega), fillV_ne (by omega), sV_uI]
    · rw [fillV_ne (by omega), sV_uVne (by omega), fillV_ne (by omega), sV_uI]
    · rw [fillV_ne (by omega), sV_uVne (by omega), fillV_ne (by omega), sV_uI]
    · refine Or.inr ⟨n, hn, ?_, ?_, fun k hk => ?_⟩
      · rw [fillV_I, sI_uV, fillV_I, sI_uI, if_pos rfl]
      · rw [fillV_ne (by omega), sV_uV, if_pos rfl, if_pos rfl]
      · rw [fillV_ne (by omega), sV_uVne (by omega), fillV_in, if_pos (by omega), fillV_in, if_pos (by omega)]
  · exact SameM_of (fun k hk => by rw [fillV_I, sI_uV, fillV_I, sI_uI, if_neg (by omega)]) (by rw [fillV_L, sL_uV, fillV_L, sL_uI]) (by rw [fillV_ne (by omega), sV_uVne (by omega), fillV_ne (by omega), sV_uI]) (by rw [fillV_ne (by omega), sV_uVne (by omega), fillV_ne (by omega), sV_uI])
theorem ag_text {s : ST} (hI : Inv s) (a0 a1 : Int32) : ∃ (v : Int32) (s1 s2 : ST), f_X5_text (some 0) a0 a1 (HP s) = some (v, HP s1) ∧ f_X6_text (some 60) a0 a1 (HP s1) = some (v, HP s2) ∧ Inv s2 := by
  rcases ix4 a0 with h0 | ⟨i, hi, rfl⟩
  · refine ⟨-1, s, s, ?_, ?_, hI⟩
    · simp only [f_X5_text, gR_0_1, Option.bind_some, p5_textNo s h0, if_true]
    · simp only [f_X6_text, isText_no h0, Option.bind_some, if_true]
  rcases pk_ix a1 (n := 61) (by omega) with h1 | h1 | ⟨n, hn, rfl⟩
  · have e1 : a1 ≤ 60 := Int32.le_iff_toInt_le.mpr (by have := toInt_neg h1; simp; omega)
    have e2 : ¬ 0 ≤ a1 := fun q => by have := toInt_neg h1; have := Int32.le_iff_toInt_le.mp q; simp at this; omega
    refine ⟨-3, fnd5 s 5, fnd6 (fnd5 s 5) 5, ?_, ?_, inv_find hI 5⟩
    · simp only [f_X5_text, gR_0_1, Option.bind_some, p5_textAt s hi rfl, reduceCtorEq, if_false, if_pos e1, if_neg e2, qO_0, if_true, p5_find (x := 5) s 5 rfl (by omega) (by omega)]
    · simp only [f_X6_text, isText_yes hi, Option.bind_some, n10, if_false, if_pos e1, if_neg e2, qO_60, if_true, p6_find (x := 5) _ 5 rfl (by omega)]
  · have e1 : ¬ a1 ≤ 60 := fun q => by have := toInt_ge (by omega) h1; have := Int32.le_iff_toInt_le.mp q; simp at this; omega
    refine ⟨-1, s, s, ?_, ?_, hI⟩
    · simp only [f_X5_text, gR_0_1, Option.bind_some, p5_textAt s hi rfl, reduceCtorEq, if_false, if_neg e1]
    · simp only [f_X6_text, isText_yes hi, Option.bind_some, n10, if_false, if_neg e1]
  · have e1 : nI n ≤ 60 := nI_le (b := 60) (by omega) (by omega)
    have e2 : 0 ≤ nI n := nI_pos' (by omega)
    refine ⟨nI n, renew s (6 + i) n 32, mkText (renew s (6 + i) n 32) i (nI n), ?_, ?_, inv_text hI hi (by omega)⟩
    · simp only [f_X5_text, gR_0_1, Option.bind_some, p5_textAt s hi rfl, reduceCtorEq, if_false, if_pos e1, if_pos e2, ln_q s (show 6 + i < 10 by omega), if_true, p2_renew s (show 6 + i < 10 by omega) (show n ≤ lm (6 + i) by rw [lm_t]; omega)]
    · simp only [f_X6_text, isText_yes hi, Option.bind_some, n10, if_false, if_pos e1, if_pos e2, gR_60_9, HP_sAn _ (nI n) (show i < hLen 68 from hi) (show i < 2 ^ 31 by omega), p6_textL _ hi]
/-- one byte of a TEXT is the same on both sides -/
theorem inv_put {s : ST} (hI : Inv s) {i n j : Nat} (hi : i < 4) (hn : n ≤ 60) (z1 : sI s (32 * (40 + 2 * i) + 1) = nI n) (z2 : sV s 68 i = nI n) (z3 : ∀ k, k < n → sV s (40 + 2 * i + 1) k = sV s 69 (60 * i + k)) (hj : j < n) (v : Int32) : Inv (uV (uV s (40 + 2 * i + 1) j v) 69 (60 * i + j) v) := by
  obtain ⟨hA, hR, hM⟩ := hI
  refine ⟨InvA_same ((SameT.uV (by unfold TyT; omega)).trans (SameT.uV (by unfold TyT; omega))) hA, ?_, InvM_same ?_ hM⟩
  · refine InvR_text hR hi (fun k _ _ _ => rfl) ?_ ?_ ?_ ?_ ?_ ?_
    · intro k h1 h2 hk
      rw [sV_uVne (by omega), sV_uVne hk]
    · intro k hk
      rw [sV_uVne (by omega), sV_uVne (by omega)]
    · intro k hk
      rw [sV_uV, if_pos rfl, if_neg (by omega), sV_uVne (by omega)]
    · rw [sV_uVne (by omega), sV_uVne (by omega)]
    · rw [sV_uVne (by omega), sV_uVne (by omega)]
    · refine Or.inr ⟨n, hn, z1, ?_, fun k hk => ?_⟩
      · rw [sV_uVne (by omega), sV_uVne (by omega)]
        exact z2
      · rw [sV_uVne (by omega), sV_uV, if_pos rfl, sV_uV, if_pos rfl, sV_uVne (by omega)]
        by_cases hkj : k = j
        · rw [if_pos hkj, if_pos (by omega)]
        · rw [if_neg hkj, if_neg (by omega)]
          exact z3 k hk
  · exact SameM_of (fun k _ => rfl) rfl (by rw [sV_uVne (by omega), sV_uVne (by omega)]) (by rw [sV_uVne (by omega), sV_uVne (by omega)])
theorem ag_put {s : ST} (hI : Inv s) (a0 a1 a2 : Int32) : ∃ (v : Int32) (s1 s2 : ST), f_X5_put (some 0) a0 a1 a2 (HP s) = some (v, HP s1) ∧ f_X6_put (some 60) a0 a1 a2 (HP s1) = some (v, HP s2) ∧ Inv s2 := by
  rcases ix4 a0 with h0 | ⟨i, hi, rfl⟩
  · refine ⟨-1, s, s, ?_, ?_, hI⟩
    · simp only [f_X5_put, gR_0_1, Option.bind_some, p5_textNo s h0, if_true]
    · simp only [f_X6_put, isText_no h0, Option.bind_some, if_true]
  have hz := hI.2.1.2 i hi
  have hi10 : 6 + i < 10 := by omega
  have hm : lm (6 + i) = 60 := lm_t i
  have hl : lc (6 + i) = 40 + 2 * i := lc_t i
  rcases hz with ⟨z1, z2⟩ | ⟨n, hn, z1, z2, z3⟩
  · have z1' : sI s (32 * lc (6 + i) + 1) = -1 := by rw [hl]; exact z1
    refine ⟨-3, fnd5 s 1, fnd6 (fnd5 s 1) 1, ?_, ?_, inv_find hI 1⟩
    · simp only [f_X5_put, gR_0_1, Option.bind_some, p5_textAt s hi rfl, reduceCtorEq, if_false, qO_0, if_true, p5_ref1 s hi10 z1', n30]
    · simp only [f_X6_put, isText_yes hi, Option.bind_some, n10, if_false, gR_60_9, gA68 _ hi, sV5 s 1 (show 68 ≠ 15 by omega), z2, if_neg (show ¬ (0 : Int32) ≤ -1 by decide), qO_60, if_true, p6_find (x := 1) _ 1 rfl (by omega)]
  have z1' : sI s (32 * lc (6 + i) + 1) = nI n := by rw [hl]; exact z1
  rcases ix_n a1 (n := n) (by omega) with h1 | ⟨j, hj, rfl⟩
  · refine ⟨-3, fnd5 s 2, fnd6 (fnd5 s 2) 2, ?_, ?_, inv_find hI 2⟩
    · simp only [f_X5_put, gR_0_1, Option.bind_some, p5_textAt s hi rfl, reduceCtorEq, if_false, qO_0, if_true, p5_ref2 s hi10 z1' (by omega) h1, n30]
    · simp only [f_X6_put, isText_yes hi, Option.bind_some, n10, if_false, gR_60_9, gA68 _ hi, sV5 s 2 (show 68 ≠ 15 by omega), z2, if_pos (nI_pos' (show n < 2 ^ 31 by omega)), p6_inF (show n < 2 ^ 30 by omega) h1, qO_60, if_true, p6_find (x := 2) _ 2 rfl (by omega)]
  · have hv : sV s 69 (60 * i + j) = sV s (40 + 2 * i + 1) j := (z3 j hj).symm
    refine ⟨sV s (40 + 2 * i + 1) j + 1000, uV s (40 + 2 * i + 1) j (Int32.toInt8 a2).toInt32, _, ?_, ?_, inv_put hI hi hn z1 z2 z3 hj (Int32.toInt8 a2).toInt32⟩
    · simp only [f_X5_put, gR_0_1, Option.bind_some, p5_textAt s hi rfl, reduceCtorEq, if_false, qO_0, if_true, p5_ref0 s hi10 z1' (by omega) hj, ln_q _ hi10, p2_get s hi10 z1' (by omega) hj, p2_set _ hi10 z1' (by omega) hj]
      rw [hl]
    · have e2 : sV (uV s (40 + 2 * i + 1) j (Int32.toInt8 a2).toInt32) 68 i = nI n := by rw [sV_uVne (by omega)]; exact z2
      have e3 : sV (uV s (40 + 2 * i + 1) j (Int32.toInt8 a2).toInt32) 69 = sV s 69 := by rw [sV_uVne (by omega)]
      simp only [f_X6_put, isText_yes hi, Option.bind_some, n10, if_false, gR_60_9, gA68 _ hi, e2, if_pos (nI_pos' (show n < 2 ^ 31 by omega)), p6_inT (show n < 2 ^ 30 by omega) hj, gR_60_10, gA69 _ hi (show j < 60 by omega), sA69 _ hi (show j < 60 by omega), e3, hv]
