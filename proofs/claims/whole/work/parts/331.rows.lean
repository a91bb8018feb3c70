/-! ===== row, text, lay, at, tear, put, findings ===== -/
theorem SameT_fill {s : ST} {k : Nat} (v : Int32) (h : ¬ TyT k) (j m : Nat) : SameT s (fillV s k v j m) := ⟨fillV_W k v m j s, fun k' hk => fillV_ne (fun e : k' = k => h (e ▸ hk)) v m j s, fun i _ => by rw [fillV_I]⟩
theorem SameM_of {s s' : ST} (hI : ∀ k, k = 10 ∨ k = 11 ∨ k = 1931 ∨ k = 1934 → sI s' k = sI s k) (hL : sL s' = sL s) (h1 : sV s' 15 = sV s 15) (h2 : sV s' 70 = sV s 70) : SameM s s' := ⟨hI 10 (by omega), hI 11 (by omega), hI 1931 (by omega), hI 1934 (by omega), hL, h1, h2⟩
theorem InvR_row {s s' : ST} (hR : InvR s) {i : Nat} (hi : i < 6) (h1 : ∀ k, 896 ≤ k → k < 1536 → k ≠ 32 * lc i + 1 → sI s' k = sI s k) (h2 : ∀ k, 28 ≤ k → k < 48 → k ≠ lc i + 1 → sV s' k = sV s k) (h3 : ∀ j, j ≠ i → sV s' 66 j = sV s 66 j) (h4 : ∀ j, (j < 40 * i ∨ 40 * i + 40 ≤ j) → sV s' 67 j = sV s 67 j) (h5 : sV s' 68 = sV s 68) (h6 : sV s' 69 = sV s 69) (hn : InvL s' (lc i) 66 i 67 (40 * i) 40) : InvR s' := by
  unfold lc at *
  refine ⟨fun j hj => ?_, fun j hj => ?_⟩
  · by_cases hij : j = i
    · subst hij
      exact hn
    · have h := hR.1 j hj
      unfold InvL at h ⊢
      rw [h1 (32 * (28 + 2 * j) + 1) (by omega) (by omega) (by omega), h2 (28 + 2 * j + 1) (by omega) (by omega) (by omega), h3 j hij]
      rcases h with h | ⟨n, a1, a2, a3, a4⟩
      · exact Or.inl h
      · exact Or.inr ⟨n, a1, a2, a3, fun k hk => by rw [h4 _ (by omega)]; exact a4 k hk⟩
  · have h := hR.2 j hj
    unfold InvL at h ⊢
    rw [h1 (32 * (40 + 2 * j) + 1) (by omega) (by omega) (by omega), h2 (40 + 2 * j + 1) (by omega) (by omega) (by omega), h5, h6]
    exact h
theorem InvR_text {s s' : ST} (hR : InvR s) {i : Nat} (hi : i < 4) (h1 : ∀ k, 896 ≤ k → k < 1536 → k ≠ 32 * (40 + 2 * i) + 1 → sI s' k = sI s k) (h2 : ∀ k, 28 ≤ k → k < 48 → k ≠ 40 + 2 * i + 1 → sV s' k = sV s k) (h3 : ∀ j, j ≠ i → sV s' 68 j = sV s 68 j) (h4 : ∀ j, (j < 60 * i ∨ 60 * i + 60 ≤ j) → sV s' 69 j = sV s 69 j) (h5 : sV s' 66 = sV s 66) (h6 : sV s' 67 = sV s 67) (hn : InvL s' (40 + 2 * i) 68 i 69 (60 * i) 60) : InvR s' := by
  refine ⟨fun j hj => ?_, fun j hj => ?_⟩
  · have h := hR.1 j hj
    unfold InvL at h ⊢
    rw [h1 (32 * (28 + 2 * j) + 1) (by omega) (by omega) (by omega), h2 (28 + 2 * j + 1) (by omega) (by omega) (by omega), h5, h6]
    exact h
  · by_cases hij : j = i
    · subst hij
      exact hn
    · have h := hR.2 j hj
      unfold InvL at h ⊢
      rw [h1 (32 * (40 + 2 * j) + 1) (by omega) (by omega) (by omega), h2 (40 + 2 * j + 1) (by omega) (by omega) (by omega), h3 j hij]
      rcases h with h | ⟨n, a1, a2, a3, a4⟩
      · exact Or.inl h
      · exact Or.inr ⟨n, a1, a2, a3, fun k hk => by rw [h4 _ (by omega)]; exact a4 k hk⟩
theorem lc_t (i : Nat) : lc (6 + i) = 40 + 2 * i := by unfold lc; omega
theorem lm_r {i : Nat} (h : i < 6) : lm i = 40 := if_pos h
theorem lm_t (i : Nat) : lm (6 + i) = 60 := if_neg (by omega)
theorem p6_makeRow_loop {i : Nat} (hi : i < 6) : ∀ (m f j : Nat) (s : ST), j + m = 40 → m < f → jloop (f_X6_makeRow_b9 (some 60) (nI i)) f (nI j) (HP s) = some (.inr ((), HP (fillV s 67 0 (40 * i + j) m))) := by
  intro m
  induction m with
  | zero =>
    intro f j s hj hf
    obtain ⟨f, rfl⟩ : ∃ f', f = f' + 1 := ⟨f - 1, by omega⟩
    rw [jloop]
    unfold f_X6_makeRow_b9
    rw [if_pos (show (40 : Int32) ≤ nI j from nI_le (a := 40) (by omega) (by omega))]
    rfl
  | succ m ih =>
    intro f j s hj hf
    obtain ⟨f, rfl⟩ : ∃ f', f = f' + 1 := ⟨f - 1, by omega⟩
    rw [jloop]
    unfold f_X6_makeRow_b9
    have e : 40 * nI i + nI j = nI (40 * i + j) := by
      rw [← nI_add, ← pk_mul]
      rfl
    rw [if_neg (show ¬ (40 : Int32) ≤ nI j from nI_ge (b := 40) (by omega) (by omega)), gR_60_8, Option.bind_some, e, HP_sAn s 0 (show 40 * i + j < hLen 67 by show 40 * i + j < 240; omega) (by omega), Option.bind_some]
    show jloop (f_X6_makeRow_b9 (some 60) (nI i)) f (nI j + 1) (HP (uV s 67 (40 * i + j) 0)) = _
    rw [nI_1, ih f (j + 1) _ (by omega) (by omega)]
    rfl
def mkRow (s : ST) (i : Nat) (v : Int32) : ST := fillV (uV s 66 i v) 67 0 (40 * i) 40
theorem p6_makeRow (s : ST) {i : Nat} (hi : i < 6) (v : Int32) : f_X6_makeRow (some 60) (nI i) v (HP s) = some ((), HP (mkRow s i v)) := by
  unfold f_X6_makeRow
  rw [gR_60_7, Option.bind_some, HP_sAn s v (show i < hLen 66 by show i < 6; omega) (by omega), Option.bind_some]
  have e3 : jloop (f_X6_makeRow_b9 (some 60) (nI i)) jfuel 0 (HP (uV s 66 i v)) = some (.inr ((), HP (mkRow s i v))) := by
    have h := p6_makeRow_loop hi 40 jfuel 0 (uV s 66 i v) (by omega) (by unfold jfuel; omega)
    rw [Nat.add_zero] at h
    exact h
  rw [e3, Option.bind_some]
theorem inv_row {s : ST} (hI : Inv s) {i n : Nat} (hi : i < 6) (hn : n ≤ 40) : Inv (mkRow (renew s i n 0) i (nI n)) := by
  obtain ⟨hA, hR, hM⟩ := hI
  have hl : lc i = 28 + 2 * i := rfl
  refine ⟨InvA_same ?_ hA, ?_, InvM_same ?_ hM⟩
  · refine SameT.trans (SameT.trans (SameT.uI (k := 32 * lc i + 1) (v := nI n) (by unfold IdT; omega)) (SameT_fill 0 (by unfold TyT; omega) 0 n)) (SameT.trans (SameT.uV (k := 66) (i := i) (v := nI n) (by unfold TyT; omega)) (SameT_fill 0 (by unfold TyT; omega) (40 * i) 40))
  · refine InvR_row hR hi ?_ ?_ ?_ ?_ ?_ ?_ ?_
    · intro k _ _ hk
      unfold mkRow renew
      rw [fillV_I, sI_uV, fillV_I, sI_uI, if_neg hk]
    · intro k h1 h2 hk
      unfold mkRow renew
      rw [fillV_ne (by omega), sV_uVne (by omega), fillV_ne hk, sV_uI]
    · intro j hj
      unfold mkRow renew
      rw [fillV_ne (by omega), sV_uV, if_pos rfl, if_neg hj, fillV_ne (by omega), sV_uI]
    · intro j hj
      unfold mkRow renew
      rw [fillV_in, if_neg (by omega), sV_uVne (by omega), fillV_ne (by omega), sV_uI]
    · unfold mkRow renew
      rw [fillV_ne (by omega), sV_uVne (by omega), fillV_ne (by omega), sV_uI]
    · unfold mkRow renew
      rw [fillV_ne (by omega), sV_uVne (by omega), fillV_ne (by omega), sV_uI]
    · refine Or.inr ⟨n, hn, ?_, ?_, fun k hk => ?_⟩
      · unfold mkRow renew
        rw [fillV_I, sI_uV, fillV_I, sI_uI, if_pos rfl]
      · unfold mkRow renew
        rw [fillV_ne (by omega), sV_uV, if_pos rfl, if_pos rfl]
      · unfold mkRow renew
        rw [fillV_ne (by omega), sV_uVne (by omega), fillV_in, if_pos (by omega), fillV_in, if_pos (by omega)]
  · unfold mkRow renew
    exact SameM_of (fun k hk => by rw [fillV_I, sI_uV, fillV_I, sI_uI, if_neg (by omega)]) (by rw [fillV_L, sL_uV, fillV_L, sL_uI]) (by rw [fillV_ne (by omega), sV_uVne (by omega), fillV_ne (by omega), sV_uI]) (by rw [fillV_ne (by omega), sV_uVne (by omega), fillV_ne (by omega), sV_uI])
theorem isRow_no {x : Int32} (h : x < 0 ∨ nI 6 ≤ x) (ah : AH) : f_X6_isRow x ah = some (0, ah) := by
  rw [p6_isRow, if_neg]
  rcases h with h | h
  · have := toInt_neg h; omega
  · have := toInt_ge (by omega) h; omega
theorem isRow_yes {i : Nat} (h : i < 6) (ah : AH) : f_X6_isRow (nI i) ah = some (1, ah) := by
  rw [p6_isRow, if_pos (by rw [nI_toInt (by omega)]; omega)]
theorem isText_no {x : Int32} (h : x < 0 ∨ nI 4 ≤ x) (ah : AH) : f_X6_isText x ah = some (0, ah) := by
  rw [p6_isText, if_neg]
  rcases h with h | h
  · have := toInt_neg h; omega
  · have := toInt_ge (by omega) h; omega
theorem isText_yes {i : Nat} (h : i < 4) (ah : AH) : f_X6_isText (nI i) ah = some (1, ah) := by
  rw [p6_isText, if_pos (by rw [nI_toInt (by omega)]; omega)]
theorem ix6 (x : Int32) : (x < 0 ∨ nI 6 ≤ x) ∨ ∃ i, i < 6 ∧ x = nI i := by
  rcases pk_ix x (n := 6) (by omega) with h | h | h
  · exact Or.inl (Or.inl h)
  · exact Or.inl (Or.inr h)
  · exact Or.inr h
theorem ix4 (x : Int32) : (x < 0 ∨ nI 4 ≤ x) ∨ ∃ i, i < 4 ∧ x = nI i := by
  rcases pk_ix x (n := 4) (by omega) with h | h | h
  · exact Or.inl (Or.inl h)
  · exact Or.inl (Or.inr h)
  · exact Or.inr h
theorem some_ne_none {α : Type} (a : α) : ¬ (some a = none) := by simp
theorem ag_row {s : ST} (hI : Inv s) (a0 a1 : Int32) : ∃ (v : Int32) (s1 s2 : ST), f_X5_row (some 0) a0 a1 (HP s) = some (v, HP s1) ∧ f_X6_row (some 60) a0 a1 (HP s1) = some (v, HP s2) ∧ Inv s2 := by
  unfold f_X5_row f_X6_row
  rw [gR_0_0, Option.bind_some]
  rcases ix6 a0 with h0 | ⟨i, hi, rfl⟩
  · refine ⟨-1, s, s, ?_, ?_, hI⟩
    · rw [p5_rowNo s h0, Option.bind_some]
      rfl
    · rw [isRow_no h0, Option.bind_some]
      rfl
  rw [p5_rowAt s hi rfl, Option.bind_some]
  simp only [isRow_yes hi, Option.bind_some, reduceCtorEq, if_false, if_neg (show ¬ (1 : Int32) = 0 by decide)]
  rcases pk_ix a1 (n := 41) (by omega) with h1 | h1 | ⟨n, hn, rfl⟩
  · have e1 : a1 ≤ 40 := Int32.le_iff_toInt_le.mpr (by have := toInt_neg h1; simp; omega)
    have e2 : ¬ 0 ≤ a1 := fun q => by have := toInt_neg h1; have := Int32.le_iff_toInt_le.mp q; simp at this; omega
    refine ⟨-3, fnd5 s 5, fnd6 (fnd5 s 5) 5, ?_, ?_, inv_find hI 5⟩
    · rw [if_pos e1, if_neg e2, if_pos (qO_0 s), p5_find (x := 5) s 5 rfl (by omega) (by omega), Option.bind_some]
    · rw [if_pos e1, if_neg e2, if_pos (qO_60 _), p6_find (x := 5) _ 5 rfl (by omega), Option.bind_some]
  · have e1 : ¬ a1 ≤ 40 := fun q => by have := toInt_ge (by omega) h1; have := Int32.le_iff_toInt_le.mp q; simp at this; omega
    refine ⟨-1, s, s, ?_, ?_, hI⟩
    · rw [if_neg e1]
    · rw [if_neg e1]
  · have e1 : nI n ≤ 40 := nI_le (b := 40) (by omega) (by omega)
    have e2 : 0 ≤ nI n := nI_pos' (by omega)
    refine ⟨nI n, renew s i n 0, mkRow (renew s i n 0) i (nI n), ?_, ?_, inv_row hI hi (by omega)⟩
    · rw [if_pos e1, if_pos e2, if_pos (ln_q s (by omega)), p2_renew s (by omega) (by rw [lm_r hi]; omega), Option.bind_some]
    · rw [if_pos e1, if_pos e2, if_pos (qO_60 _), p6_makeRow _ hi, Option.bind_some]
