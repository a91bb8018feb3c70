/-! ===== week ===== -/
theorem setR_1z (s : ST) (k : Nat) (f : Nat → Int32) (m : Nat) : uV (setR s k 0 f m) k m (f m) = setR s k 0 f (m + 1) := by
  have := setR_1 s k 0 f m
  rwa [Nat.zero_add] at this
theorem sV_setRz {s : ST} {k : Nat} {f : Nat → Int32} {m p : Nat} (h : p < m) : sV (setR s k 0 f m) k p = f p := by
  have := sV_setRin (s := s) (k := k) (b := 0) (f := f) h
  rwa [Nat.zero_add] at this
def okA (V W : Nat → Int32) (p : Nat) : Bool := decide (W p = 0 ∨ W p = 1 ∨ W p = 2 ∧ V p ≠ -9)
def aw (V W : Nat → Int32) : Nat → Nat → Bool
  | 0, _ => true
  | m + 1, j => okA V W j && aw V W m (j + 1)
theorem aw_congr {V V' W W' : Nat → Int32} : ∀ (m j : Nat), (∀ p, j ≤ p → p < j + m → V p = V' p ∧ W p = W' p) → aw V W m j = aw V' W' m j
  | 0, _, _ => rfl
  | m + 1, j, h => by
    rw [aw, aw, aw_congr m (j + 1) (fun p h1 h2 => h p (by omega) (by omega))]
    unfold okA
    rw [(h j (by omega) (by omega)).1, (h j (by omega) (by omega)).2]
theorem aw_2 {V W : Nat → Int32} : ∀ (m j : Nat), aw V W m j = true → ∀ p, j ≤ p → p < j + m → W p = 2 → V p ≠ -9
  | 0, j, _, p, h1, h2, _ => by omega
  | m + 1, j, h, p, h1, h2, e => by
    rw [aw, Bool.and_eq_true] at h
    by_cases ej : p = j
    · subst ej
      have := h.1
      unfold okA at this
      rw [decide_eq_true_eq, e] at this
      rcases this with q | q | q
      · exact absurd q (by decide)
      · exact absurd q (by decide)
      · exact q.2
    · exact aw_2 m (j + 1) h.2 p (by omega) (by omega) e
theorem p5_isAct {s : ST} {t p : Nat} (ht : t ≤ 40) (hs : sI s 163 = nI t) (hp : p < 6) (w : Int32) : f_X5_isAct (some 0) (nI p) w (HP s) = some (if w = 0 ∨ w = 1 ∨ w = 2 ∧ sV s 6 (6 * t + p) ≠ -9 then 1 else 0, HP s) := by
  simp only [f_X5_isAct, gR_0_3, Option.bind_some, qO_5, if_true, p4_victimOf ht hs hp]
  by_cases c2 : w = 2
  · subst c2
    rw [if_pos rfl]
    by_cases c3 : sV s 6 (6 * t + p) = -9
    · rw [if_pos c3, if_neg]
      rintro (q | q | q)
      · exact absurd q (by decide)
      · exact absurd q (by decide)
      · exact q.2 c3
    · rw [if_neg c3, if_pos (Or.inr (Or.inr ⟨rfl, c3⟩))]
  · rw [if_neg c2]
    by_cases c0 : w = 0
    · rw [if_pos c0, if_pos (Or.inl c0)]
    · rw [if_neg c0]
      by_cases c1 : w = 1
      · rw [if_pos c1, if_pos (Or.inr (Or.inl c1))]
      · rw [if_neg c1, if_neg]
        rintro (q | q | q)
        · exact c0 q
        · exact c1 q
        · exact c2 q.1
theorem aw5 {s : ST} {n t i : Nat} (hF : InvF s n) (ht : t ≤ 40) (hs : sI s 163 = nI t) (hi : i < 10) (h1 : sI s (32 * lc i + 1) = nI n) (hl : n ≤ lm i) : ∀ (m f j : Nat), j + m = n → m < f → jloop (f_X5_week_b30 (some 0) (some (lc i))) f (nI j) (HP s) = some (if aw (fun p => sV s 6 (6 * t + p)) (sV s (lc i + 1)) m j then .inr ((), HP s) else .inl (-3, HP (fnd5 s 3))) := by
  have h6 := hF.le
  intro m
  induction m with
  | zero =>
    intro f j hj hf
    obtain ⟨f, rfl⟩ : ∃ f', f = f' + 1 := ⟨f - 1, by omega⟩
    rw [jloop]
    simp only [f_X5_week_b30, gR_0_8, Option.bind_some, fk_n, hF.2.2.1, if_pos (nI_le (show n ≤ j by omega) (show j < 2 ^ 31 by omega)), aw, if_true]
  | succ m ih =>
    intro f j hj hf
    obtain ⟨f, rfl⟩ : ∃ f', f = f' + 1 := ⟨f - 1, by omega⟩
    rw [jloop, aw]
    simp only [f_X5_week_b30, gR_0_8, Option.bind_some, fk_n, hF.2.2.1, if_neg (nI_ge (show j < n by omega) (show n < 2 ^ 31 by omega)), ln_q s hi, if_true, p2_get s hi h1 hl (show j < n by omega), qO_0, p5_isAct ht hs (show j < 6 by omega), p5_find (x := 3) s 3 rfl (by omega) (by omega), nI_1, okA]
    by_cases c : sV s (lc i + 1) j = 0 ∨ sV s (lc i + 1) j = 1 ∨ sV s (lc i + 1) j = 2 ∧ sV s 6 (6 * t + j) ≠ -9
    · simp only [c, if_true, n10, if_false, decide_true, Bool.true_and]
      exact ih f (j + 1) (by omega) (by omega)
    · simp only [c, if_true, if_false, decide_false, Bool.false_and, Bool.false_eq_true]
theorem in02 (w : Int32) (ah : AH) : f_X6_in (Int32.toInt64 w) 0 2 ah = some (if w = 0 ∨ w = 1 ∨ w = 2 then 1 else 0, ah) := by
  rw [p6_in0]
  have e2 : (2 : Int64).toInt = 2 := by decide
  rw [e2]
  by_cases c : w = 0 ∨ w = 1 ∨ w = 2
  · rw [if_pos c, if_pos]
    rcases c with rfl | rfl | rfl
    · decide
    · decide
    · decide
  · rw [if_neg c, if_neg]
    rintro ⟨h1, h2⟩
    apply c
    have : w.toInt = 0 ∨ w.toInt = 1 ∨ w.toInt = 2 := by omega
    rcases this with h | h | h
    · exact Or.inl (Int32.toInt_inj.mp h)
    · exact Or.inr (Or.inl (Int32.toInt_inj.mp h))
    · exact Or.inr (Or.inr (Int32.toInt_inj.mp h))
theorem aw6 {s : ST} {n i : Nat} (hF : InvF s n) (hi : i < 6) : ∀ (m f j : Nat) (b : Bool), j + m = n → m < f → jloop (f_X6_isWeek_b4 (some 60) (nI i)) f ((if b then 1 else 0), nI j) (HP s) = some (.inr ((if b && aw (fun p => sV s 61 (1 + p)) (fun p => sV s 67 (40 * i + p)) m j then 1 else 0), HP s)) := by
  have h6 := hF.le
  intro m
  induction m with
  | zero =>
    intro f j b hj hf
    obtain ⟨f, rfl⟩ : ∃ f', f = f' + 1 := ⟨f - 1, by omega⟩
    rw [jloop]
    simp only [f_X6_isWeek_b4, gI_60_1, Option.bind_some, hF.2.1, if_pos (nI_le (show n ≤ j by omega) (show j < 2 ^ 31 by omega)), aw, Bool.and_true]
  | succ m ih =>
    intro f j b hj hf
    obtain ⟨f, rfl⟩ : ∃ f', f = f' + 1 := ⟨f - 1, by omega⟩
    have iT := ih f (j + 1) true (by omega) (by omega)
    have iF := ih f (j + 1) false (by omega) (by omega)
    simp only [if_true, Bool.true_and] at iT
    simp only [Bool.false_eq_true, if_false, Bool.false_and] at iF
    rw [jloop, aw]
    simp only [f_X6_isWeek_b4, f_X6_isWeek_b4_j58, gI_60_1, Option.bind_some, hF.2.1, if_neg (nI_ge (show j < n by omega) (show n < 2 ^ 31 by omega)), gR_60_8, gA67 _ hi (show j < 40 by omega), in02, qO_60, if_true, p6_victim s (show j < 6 by omega), nI_1, okA]
    cases b with
    | false =>
      simp only [Bool.false_eq_true, if_false, if_true, Bool.false_and]
      exact iF
    | true =>
      simp only [if_true, n10, if_false, Bool.true_and]
      by_cases c2 : sV s 67 (40 * i + j) = 2
      · have e0 : ¬ (2 : Int32) = 0 := by decide
        have e1 : ¬ (2 : Int32) = 1 := by decide
        by_cases c3 : sV s 61 (1 + j) = -9
        · simp only [c2, e0, e1, false_or, if_true, n10, if_false, c3, ne_eq, not_true_eq_false, and_false, decide_false, Bool.false_and, Bool.false_eq_true]
          exact iF
        · simp only [c2, e0, e1, false_or, if_true, n10, if_false, c3, ne_eq, not_false_eq_true, and_true, decide_true, Bool.true_and]
          exact iT
      · by_cases c : sV s 67 (40 * i + j) = 0 ∨ sV s 67 (40 * i + j) = 1
        · have c' : sV s 67 (40 * i + j) = 0 ∨ sV s 67 (40 * i + j) = 1 ∨ sV s 67 (40 * i + j) = 2 := by
            rcases c with h | h
            · exact Or.inl h
            · exact Or.inr (Or.inl h)
          have c'' : sV s 67 (40 * i + j) = 0 ∨ sV s 67 (40 * i + j) = 1 ∨ sV s 67 (40 * i + j) = 2 ∧ sV s 61 (1 + j) ≠ -9 := by
            rcases c with h | h
            · exact Or.inl h
            · exact Or.inr (Or.inl h)
          simp only [c', if_true, n10, if_false, c'', decide_true, Bool.true_and]
          rw [if_neg c2]
          exact iT
        · have c' : ¬ (sV s 67 (40 * i + j) = 0 ∨ sV s 67 (40 * i + j) = 1 ∨ sV s 67 (40 * i + j) = 2) := by
            rintro (h | h | h)
            · exact c (Or.inl h)
            · exact c (Or.inr h)
            · exact c2 h
          have c'' : ¬ (sV s 67 (40 * i + j) = 0 ∨ sV s 67 (40 * i + j) = 1 ∨ sV s 67 (40 * i + j) = 2 ∧ sV s 61 (1 + j) ≠ -9) := by
            rintro (h | h | h)
            · exact c (Or.inl h)
            · exact c (Or.inr h)
            · exact c2 h.1
          simp only [c', if_true, if_false, c'', decide_false, Bool.false_and, Bool.false_eq_true]
          exact iF
theorem p6_isWeek {s : ST} {n i : Nat} (hF : InvF s n) (hi : i < 6) : f_X6_isWeek (some 60) (nI i) (HP s) = some (if aw (fun p => sV s 61 (1 + p)) (fun p => sV s 67 (40 * i + p)) n 0 then 1 else 0, HP s) := by
  have h6 := hF.le
  have l : jloop (f_X6_isWeek_b4 (some 60) (nI i)) jfuel (1, 0) (HP s) = _ := aw6 hF hi n jfuel 0 true (by omega) (by unfold jfuel; omega)
  simp only [f_X6_isWeek, l, Option.bind_some, Bool.true_and]
  split <;> simp
theorem acts5 {s : ST} {n i : Nat} (hF : InvF s n) (hi : i < 10) (h1 : sI s (32 * lc i + 1) = nI n) (hl : n ≤ lm i) : jloop (f_X5_week_b87 (some 0) (some (lc i))) jfuel 0 (HP s) = some (.inr ((), HP (setR s 14 0 (sV s (lc i + 1)) n))) := by
  have h6 := hF.le
  have hlc : lc i + 1 ≠ 14 := by unfold lc; omega
  have l : jloop (f_X5_week_b87 (some 0) (some (lc i))) jfuel (nI 0) (HP (setR s 14 0 (sV s (lc i + 1)) 0)) = some (.inr ((), HP (setR s 14 0 (sV s (lc i + 1)) n))) := by
    refine jseq (n := n) (fun j => nI j) (fun j => HP (setR s 14 0 (sV s (lc i + 1)) j)) ?_ (fun j hj => ?_) n jfuel 0 (by omega) (by unfold jfuel; omega)
    · have hF' : InvF (setR s 14 0 (sV s (lc i + 1)) n) n := InvF_N (SameN.uA (by unfold TwA; omega)) hF
      simp only [f_X5_week_b87, gR_0_8, Option.bind_some, fk_n, hF'.2.2.1, if_pos (nI_le (Nat.le_refl n) (show n < 2 ^ 31 by omega))]
    · have hF' : InvF (setR s 14 0 (sV s (lc i + 1)) j) n := InvF_N (SameN.uA (by unfold TwA; omega)) hF
      have h1' : sI (setR s 14 0 (sV s (lc i + 1)) j) (32 * lc i + 1) = nI n := h1
      have e : sV (setR s 14 0 (sV s (lc i + 1)) j) (lc i + 1) = sV s (lc i + 1) := sV_setRne hlc
      simp only [f_X5_week_b87, gR_0_8, Option.bind_some, fk_n, hF'.2.2.1, if_neg (nI_ge hj (show n < 2 ^ 31 by omega)), if_neg (n6le hj h6), gR_0_6, ln_q _ hi, if_true, p2_get _ hi h1' hl hj, e, s14 _ (show j < 6 by omega), nI_1, setR_1z]
  rw [setR_0] at l
  exact l
theorem does6 {s : ST} {n i : Nat} (hF : InvF s n) (hi : i < 6) : jloop (f_X6_week_b83 (some 60) (nI i)) jfuel 0 (HP s) = some (.inr ((), HP (setR s 73 0 (fun p => sV s 67 (40 * i + p)) n))) := by
  have h6 := hF.le
  have l : jloop (f_X6_week_b83 (some 60) (nI i)) jfuel (nI 0) (HP (setR s 73 0 (fun p => sV s 67 (40 * i + p)) 0)) = some (.inr ((), HP (setR s 73 0 (fun p => sV s 67 (40 * i + p)) n))) := by
    refine jseq (n := n) (fun j => nI j) (fun j => HP (setR s 73 0 (fun p => sV s 67 (40 * i + p)) j)) ?_ (fun j hj => ?_) n jfuel 0 (by omega) (by unfold jfuel; omega)
    · have hF' : InvF (setR s 73 0 (fun p => sV s 67 (40 * i + p)) n) n := InvF_N (SameN.uA (by unfold TwA; omega)) hF
      simp only [f_X6_week_b83, gI_60_1, Option.bind_some, hF'.2.1, if_pos (nI_le (Nat.le_refl n) (show n < 2 ^ 31 by omega))]
    · have hF' : InvF (setR s 73 0 (fun p => sV s 67 (40 * i + p)) j) n := InvF_N (SameN.uA (by unfold TwA; omega)) hF
      have e : sV (setR s 73 0 (fun p => sV s 67 (40 * i + p)) j) 67 = sV s 67 := sV_setRne (by omega)
      have e1 : uV (setR s 73 0 (fun p => sV s 67 (40 * i + p)) j) 73 j (sV s 67 (40 * i + j)) = setR s 73 0 (fun p => sV s 67 (40 * i + p)) (j + 1) := setR_1z s 73 (fun p => sV s 67 (40 * i + p)) j
      simp only [f_X6_week_b83, gI_60_1, Option.bind_some, hF'.2.1, if_neg (nI_ge hj (show n < 2 ^ 31 by omega)), gR_60_23, gR_60_8, gA67 _ hi (show j < 40 by omega), e, s73 _ (show j < 6 by omega), nI_1, e1]
  rw [setR_0] at l
  exact l
theorem ag_week {s : ST} (hI : Inv s) (a0 : Int32) : ∃ (v : Int32) (s1 s2 : ST), f_X5_week (some 0) a0 (HP s) = some (v, HP s1) ∧ f_X6_week (some 60) a0 (HP s1) = some (v, HP s2) ∧ Inv s2 := by
  obtain ⟨n, hF, hT, hK⟩ := hI.1
  have h6 := hF.le
  obtain ⟨t, ht, hs, hs0, hS, hP⟩ := hT.t
  rcases ix6 a0 with h0 | ⟨i, hi, rfl⟩
  · refine ⟨-1, s, s, ?_, ?_, hI⟩
    · simp only [f_X5_week, gR_0_0, Option.bind_some, p5_rowNo s h0, if_true]
    · simp only [f_X6_week, isRow_no h0, Option.bind_some, if_true]
  have hi10 : i < 10 := by omega
  by_cases hn : n = 0
  · subst hn
    refine ⟨-4, s, s, ?_, ?_, hI⟩
    · simp only [f_X5_week, gR_0_0, Option.bind_some, p5_rowAt s hi rfl, reduceCtorEq, if_false, qO_0, if_true, rf_state hF, if_neg (show ¬ (-4 : Int32) = 0 by decide)]
    · simp only [f_X6_week, isRow_yes hi, Option.bind_some, n10, if_false, gI_60_1, hF.2.1, if_pos (show nI 0 = 0 from rfl)]
  rcases hI.2.1.1 i hi with ⟨z1, z2⟩ | ⟨m, hm, z1, z2, z3⟩
  · have z1 : sI s (32 * lc i + 1) = -1 := z1
    refine ⟨-3, fnd5 s 1, fnd6 (fnd5 s 1) 1, ?_, ?_, inv_find hI 1⟩
    · simp only [f_X5_week, gR_0_0, Option.bind_some, p5_rowAt s hi rfl, reduceCtorEq, if_false, qO_0, if_true, rf_miss hF hn hi10 z1, n30]
    · simp only [f_X6_week, isRow_yes hi, Option.bind_some, n10, if_false, gI_60_1, (InvF_5 1 hF).2.1, n_eq0 h6, hn, gR_60_7, gA66 _ hi, sV5 s 1 (show 66 ≠ 15 by omega), z2, if_neg (show ¬ (0 : Int32) ≤ -1 by decide), qO_60, if_true, p6_find (x := 1) _ 1 rfl (by omega)]
  have z1 : sI s (32 * lc i + 1) = nI m := z1
  by_cases hmn : m = n
  case neg =>
    have en : ¬ nI m = nI n := fun z => hmn ((nI_eq (by omega) (by omega)).mp z)
    refine ⟨-3, fnd5 s 5, fnd6 (fnd5 s 5) 5, ?_, ?_, inv_find hI 5⟩
    · simp only [f_X5_week, gR_0_0, Option.bind_some, p5_rowAt s hi rfl, reduceCtorEq, if_false, qO_0, if_true, rf_size hF hn hi10 z1 (by omega) hmn, n30]
    · simp only [f_X6_week, isRow_yes hi, Option.bind_some, n10, if_false, gI_60_1, (InvF_5 5 hF).2.1, n_eq0 h6, hn, gR_60_7, gA66 _ hi, sV5 s 5 (show 66 ≠ 15 by omega), z2, if_pos (nI_pos' (show m < 2 ^ 31 by omega)), if_neg en, qO_60, if_true, p6_find (x := 5) _ 5 rfl (by omega)]
  subst hmn
  have hlm : m ≤ lm i := by rw [lm_r hi]; omega
  have z3 : ∀ k, k < m → sV s (lc i + 1) k = sV s 67 (40 * i + k) := z3
  have ea : aw (fun p => sV s 61 (1 + p)) (fun p => sV s 67 (40 * i + p)) m 0 = aw (fun p => sV s 6 (6 * t + p)) (sV s (lc i + 1)) m 0 := aw_congr m 0 (fun p _ hp => ⟨((hS.1 p (by omega)).1).symm, (z3 p (by omega)).symm⟩)
  have l5 : jloop (f_X5_week_b30 (some 0) (some (lc i))) jfuel 0 (HP s) = _ := aw5 hF ht hs hi10 z1 hlm m jfuel 0 (by omega) (by unfold jfuel; omega)
  rw [← ea] at l5
  cases hA : aw (fun p => sV s 61 (1 + p)) (fun p => sV s 67 (40 * i + p)) m 0 with
  | false =>
    rw [hA] at l5
    simp only [Bool.false_eq_true, if_false] at l5
    refine ⟨-3, fnd5 s 3, fnd6 (fnd5 s 3) 3, ?_, ?_, inv_find hI 3⟩
    · simp only [f_X5_week, gR_0_0, Option.bind_some, p5_rowAt s hi rfl, reduceCtorEq, if_false, qO_0, if_true, rf_ok hF hn hi10 z1, l5]
    · have l6 := p6_isWeek (InvF_5 3 hF) hi
      rw [sV5 s 3 (show 61 ≠ 15 by omega), sV5 s 3 (show 67 ≠ 15 by omega), hA] at l6
      simp only [Bool.false_eq_true, if_false] at l6
      simp only [f_X6_week, isRow_yes hi, Option.bind_some, n10, if_false, gI_60_1, (InvF_5 3 hF).2.1, n_eq0 h6, hn, gR_60_7, gA66 _ hi, sV5 s 3 (show 66 ≠ 15 by omega), z2, if_pos (nI_pos' (show m < 2 ^ 31 by omega)), qO_60, if_true, l6, p6_find (x := 3) _ 3 rfl (by omega)]
  | true =>
    rw [hA] at l5
    simp only [if_true] at l5
    by_cases h40 : t = 40
    · subst h40
      have l6 := p6_isWeek hF hi
      rw [hA] at l6
      simp only [if_true] at l6
      have g0 : gA (HP s) (some 61) 0 = some (sV s 61 0) := g61 s (k := 0) (by omega)
      refine ⟨-2, s, s, ?_, ?_, hI⟩
      · simp only [f_X5_week, gR_0_0, Option.bind_some, p5_rowAt s hi rfl, reduceCtorEq, if_false, qO_0, if_true, rf_ok hF hn hi10 z1, l5, gR_0_3, gI_5_3, hs, if_neg (show ¬ nI 40 < 40 by decide)]
      · simp only [f_X6_week, isRow_yes hi, Option.bind_some, n10, if_false, gI_60_1, hF.2.1, n_eq0 h6, hn, gR_60_7, gA66 _ hi, z2, if_pos (nI_pos' (show m < 2 ^ 31 by omega)), qO_60, if_true, l6, gR_60_0, g0, hs0, if_pos (show nI 40 = 40 from rfl)]
    · have ht' : t < 40 := by omega
      have hC := run_start hF ht hs hS
      have hsa : SameS s (setR s 14 0 (sV s (lc i + 1)) m) := SameS.uA (by unfold ScA; omega)
      have h50 : C5 s m t (fun p => sV s 61 (1 + p)) (fun p => (sV s 61 (7 + p)).toNatClampNeg) (fun p => sV s 61 (13 + p)) (fun _ p => sV s 67 (40 * i + p)) 0 _ := C5_S (C5_0 hC) hsa
      obtain ⟨s1, w1, w2⟩ := C5_step hF hC h50 (by omega) (fun p hp => by rw [sV_setRz hp]; exact z3 p hp)
      have hN1 := w2.1
      have hF1 := InvF_N hN1 hF
      have e61 := w2.2.1
      have e67 : sV s1 67 = sV s 67 := hN1.2.2.1 67 (by unfold TwA; omega)
      have e66 : sV s1 66 = sV s 66 := hN1.2.2.1 66 (by unfold TwA; omega)
      have l6 := p6_isWeek hF1 hi
      rw [e61, e67, hA] at l6
      simp only [if_true] at l6
      have d6 := does6 hF1 hi
      rw [e67] at d6
      have hsb : SameS s1 (setR s1 73 0 (fun p => sV s 67 (40 * i + p)) m) := SameS.uA (by unfold ScA; omega)
      have h60 := C6_74 h6 (run_start6 (c := fun _ p => sV s 67 (40 * i + p)) hF hs0 hS e61) hsb rfl
      obtain ⟨s2, y1, y2⟩ := C6_step hF hC hN1 h60 (by omega) (fun p hp => sV_setRz hp) (fun p hp e => aw_2 m 0 hA p (by omega) (by omega) e)
      have g0 : gA (HP s1) (some 61) 0 = some (sV s1 61 0) := g61 s1 (k := 0) (by omega)
      have e40 : ¬ nI t = 40 := fun z => h40 ((nI_eq (b := 40) (by omega) (by omega)).mp z)
      refine ⟨cntW s m (Dk s m (fun p => sV s 61 (1 + p)) (fun p => (sV s 61 (7 + p)).toNatClampNeg) (fun _ p => sV s 67 (40 * i + p)) 0) (Dk s m (fun p => sV s 61 (1 + p)) (fun p => (sV s 61 (7 + p)).toNatClampNeg) (fun _ p => sV s 67 (40 * i + p)) (0 + 1)), s1, s2, ?_, ?_, inv_run hI hF hS hP hK hC rfl w2 y2 (by omega)⟩
      · simp only [f_X5_week, f_X5_week_j125, gR_0_0, Option.bind_some, p5_rowAt s hi rfl, reduceCtorEq, if_false, qO_0, if_true, rf_ok hF hn hi10 z1, l5, gR_0_3, gI_5_3, hs, if_pos (show nI t < 40 from nI_lt (b := 40) ht' (by omega)), acts5 hF hi10 z1 hlm, w1]
      · simp only [f_X6_week, isRow_yes hi, Option.bind_some, n10, if_false, gI_60_1, hF1.2.1, n_eq0 h6, hn, gR_60_7, gA66 _ hi, e66, z2, if_pos (nI_pos' (show m < 2 ^ 31 by omega)), qO_60, if_true, l6, gR_60_0, g0, e61, hs0, e40, d6, y1]
/-! ===== lots ===== -/
def nx (l : Int64) : Int64 := (l * 48271) - (l * 48271) / 2147483647 * 2147483647
def ln (l : Int64) : Nat → Int64
  | 0 => l
  | j + 1 => nx (ln l j)
def wy (l : Int64) : Int32 := Int64.toInt32 ((l / 4) - (l / 4) / 3 * 3)
def actL (V : Nat → Int32) (p : Nat) (l : Int64) : Int32 := if wy l = 2 then (if V p = -9 then 1 else wy l) else wy l
def Lk (sd : Int64) (n : Nat) : Nat → Int64
  | 0 => sd
  | k + 1 => ln (Lk sd n k) n
def cL (V : Nat → Int32) (sd : Int64) (n k p : Nat) : Int32 := actL V p (ln (Lk sd n k) (p + 1))
theorem cL_2 {V : Nat → Int32} {sd : Int64} {n k p : Nat} (h : cL V sd n k p = 2) : V p ≠ -9 := by
  intro e
  unfold cL actL at h
  rw [if_pos e] at h
  split at h
  · exact absurd h (by decide)
  · rename_i h2
    exact h2 h
theorem p5_actByLot {s : ST} {t p : Nat} {V : Nat → Int32} (ht : t ≤ 40) (hs : sI s 163 = nI t) (hp : p < 6) (hv : sV s 6 (6 * t + p) = V p) (l : Int64) : f_X5_actByLot (some 0) (nI p) l (HP s) = some (actL V p l, HP s) := by
  have e : Int64.toInt32 ((l / 4) - (l / 4) / 3 * 3) = wy l := rfl
  simp only [f_X5_actByLot, gR_0_3, Option.bind_some, qO_5, if_true, p4_victimOf ht hs hp, hv, e, actL]
  by_cases c1 : wy l = 2
  · rw [if_pos c1, if_pos c1]
    by_cases c2 : V p = -9
    · rw [if_pos c2, if_pos c2]
    · rw [if_neg c2, if_neg c2]
  · rw [if_neg c1, if_neg c1]
theorem lot5 {s : ST} {n t k : Nat} {V : Nat → Int32} {sd : Int64} (hF : InvF s n) (ht : t ≤ 40) (hs : sI s 163 = nI t) (hv : ∀ p, p < n → sV s 6 (6 * t + p) = V p) (x y z : Int32) : jloop (f_X5_lots_b75 (some 0) x y z) jfuel (Lk sd n k, 0) (HP s) = some (.inr (Lk sd n (k + 1), HP (setR s 14 0 (cL V sd n k) n))) := by
  have h6 := hF.le
  have l : jloop (f_X5_lots_b75 (some 0) x y z) jfuel (ln (Lk sd n k) 0, nI 0) (HP (setR s 14 0 (cL V sd n k) 0)) = some (.inr (Lk sd n (k + 1), HP (setR s 14 0 (cL V sd n k) n))) := by
    refine jseq (n := n) (x := Lk sd n (k + 1)) (fun j => (ln (Lk sd n k) j, nI j)) (fun j => HP (setR s 14 0 (cL V sd n k) j)) ?_ (fun j hj => ?_) n jfuel 0 (by omega) (by unfold jfuel; omega)
    · have hF' : InvF (setR s 14 0 (cL V sd n k) n) n := InvF_N (SameN.uA (by unfold TwA; omega)) hF
      simp only [f_X5_lots_b75, gR_0_8, Option.bind_some, fk_n, hF'.2.2.1, if_pos (nI_le (Nat.le_refl n) (show n < 2 ^ 31 by omega)), Lk]
    · have hF' : InvF (setR s 14 0 (cL V sd n k) j) n := InvF_N (SameN.uA (by unfold TwA; omega)) hF
      have hs' : sI (setR s 14 0 (cL V sd n k) j) 163 = nI t := hs
      have hv' : sV (setR s 14 0 (cL V sd n k) j) 6 (6 * t + j) = V j := by rw [sV_setRne (by omega)]; exact hv j hj
      have el : (ln (Lk sd n k) j * 48271) - (ln (Lk sd n k) j * 48271) / 2147483647 * 2147483647 = ln (Lk sd n k) (j + 1) := rfl
      have e1 : uV (setR s 14 0 (cL V sd n k) j) 14 j (actL V j (ln (Lk sd n k) (j + 1))) = setR s 14 0 (cL V sd n k) (j + 1) := setR_1z s 14 (cL V sd n k) j
      simp only [f_X5_lots_b75, gR_0_8, Option.bind_some, fk_n, hF'.2.2.1, if_neg (nI_ge hj (show n < 2 ^ 31 by omega)), if_neg (n6le hj h6), gR_0_6, qO_0, if_true, el, p5_actByLot ht hs' (show j < 6 by omega) hv', s14 _ (show j < 6 by omega), nI_1, e1]
  rw [setR_0] at l
  exact l
def lotB (k0 : Option Nat) (x y z : Int32) (l : Int64) (x7 w : Int32) (ah : AH) : Option ((Unit × AH) ⊕ (((Int64) × AH) ⊕ ((Int64 × Int32) × AH))) :=
  (gR ah k0 6 23).bind fun v15 => if w = 2 then (if qO ah k0 6 = true then ((f_X6_victim k0 x7 ah).bind fun q19 => if q19.1 = (-9) then (f_X6_lots_b70_j130 k0 x y z l x7 1 x7 v15 q19.2) else (f_X6_lots_b70_j128 k0 x y z l x7 w x7 v15 q19.2)) else none) else (f_X6_lots_b70_j128 k0 x y z l x7 w x7 v15 ah)
theorem lot6e (k0 : Option Nat) (x y z : Int32) (l : Int64) (x7 : Int32) (ah : AH) : f_X6_lots_b70 k0 x y z (l, x7) ah = (gI ah k0 6 1).bind fun v11 => if v11 ≤ x7 then some (.inr (.inl (l, ah))) else lotB k0 x y z (nx l) x7 (wy (nx l)) ah := by
  unfold f_X6_lots_b70 lotB wy nx
  simp only [Option.bind_some]
theorem lot6c {s : ST} {j : Nat} {V : Nat → Int32} (hj : j < 6) (hv : sV s 61 (1 + j) = V j) (l : Int64) (x y z w : Int32) : lotB (some 60) x y z l (nI j) w (HP s) = some (.inr (.inr ((l, nI (j + 1)), HP (uV s 73 j (if w = 2 then (if V j = -9 then 1 else w) else w))))) := by
  simp only [lotB, f_X6_lots_b70_j128, f_X6_lots_b70_j130, gR_60_23, Option.bind_some, qO_60, if_true, p6_victim _ hj, hv, s73 _ hj, nI_1]
  by_cases c1 : w = 2
  · rw [if_pos c1, if_pos c1]
    by_cases c2 : V j = -9
    · rw [if_pos c2, if_pos c2]
    · rw [if_neg c2, if_neg c2]
  · rw [if_neg c1, if_neg c1]
theorem lot6b {s : ST} {n j : Nat} {V : Nat → Int32} (hF : InvF s n) (hj : j < n) (hv : sV s 61 (1 + j) = V j) (l : Int64) (x y z : Int32) : f_X6_lots_b70 (some 60) x y z (l, nI j) (HP s) = some (.inr (.inr ((nx l, nI (j + 1)), HP (uV s 73 j (actL V j (nx l)))))) := by
  have h6 := hF.le
  rw [lot6e, gI_60_1, Option.bind_some, hF.2.1, if_neg (nI_ge hj (show n < 2 ^ 31 by omega)), lot6c (show j < 6 by omega) hv]
  unfold actL
  rfl
theorem lot6 {s : ST} {n k : Nat} {V : Nat → Int32} {sd : Int64} (hF : InvF s n) (hv : ∀ p, p < n → sV s 61 (1 + p) = V p) (x y z : Int32) : jloop (f_X6_lots_b70 (some 60) x y z) jfuel (Lk sd n k, 0) (HP s) = some (.inr (Lk sd n (k + 1), HP (setR s 73 0 (cL V sd n k) n))) := by
  have h6 := hF.le
  have l : jloop (f_X6_lots_b70 (some 60) x y z) jfuel (ln (Lk sd n k) 0, nI 0) (HP (setR s 73 0 (cL V sd n k) 0)) = some (.inr (Lk sd n (k + 1), HP (setR s 73 0 (cL V sd n k) n))) := by
    refine jseq (n := n) (x := Lk sd n (k + 1)) (fun j => (ln (Lk sd n k) j, nI j)) (fun j => HP (setR s 73 0 (cL V sd n k) j)) ?_ (fun j hj => ?_) n jfuel 0 (by omega) (by unfold jfuel; omega)
    · have hF' : InvF (setR s 73 0 (cL V sd n k) n) n := InvF_N (SameN.uA (by unfold TwA; omega)) hF
      show f_X6_lots_b70 (some 60) x y z (ln (Lk sd n k) n, nI n) (HP (setR s 73 0 (cL V sd n k) n)) = _
      rw [lot6e, gI_60_1, Option.bind_some, hF'.2.1, if_pos (nI_le (Nat.le_refl n) (show n < 2 ^ 31 by omega)), Lk]
    · have hF' : InvF (setR s 73 0 (cL V sd n k) j) n := InvF_N (SameN.uA (by unfold TwA; omega)) hF
      have hv' : sV (setR s 73 0 (cL V sd n k) j) 61 (1 + j) = V j := by rw [sV_setRne (by omega)]; exact hv j hj
      have e1 : uV (setR s 73 0 (cL V sd n k) j) 73 j (cL V sd n k j) = setR s 73 0 (cL V sd n k) (j + 1) := setR_1z s 73 (cL V sd n k) j
      show f_X6_lots_b70 (some 60) x y z (ln (Lk sd n k) j, nI j) (HP (setR s 73 0 (cL V sd n k) j)) = some (.inr (.inr ((ln (Lk sd n k) (j + 1), nI (j + 1)), HP (setR s 73 0 (cL V sd n k) (j + 1)))))
      rw [lot6b hF' hj hv', ← e1]
      rfl
  rw [setR_0] at l
  exact l
def cnF (s : ST) (n : Nat) (V : Nat → Int32) (D : Nat → Nat) (c : Nat → Nat → Int32) (k : Nat) (a : Int32) : Int32 := a + cntW s n (Dk s n V D c k) (Dk s n V D c (k + 1))
theorem lots5 {s : ST} {n t N : Nat} {V : Nat → Int32} {D : Nat → Nat} {F : Nat → Int32} {sd : Int64} (hF : InvF s n) (hC : CS s n t V D F) (htN : t + N ≤ 40) : ∀ (m f k : Nat) (a : Int32) (s' : ST), k + m = N → m < f → C5 s n t V D F (cL V sd n) k s' → ∃ s'', jloop (f_X5_lots_b66 (some 0) (nI N)) f (Lk sd n k, a, nI k) (HP s') = some (.inr (fold (cnF s n V D (cL V sd n)) m k a, HP s'')) ∧ C5 s n t V D F (cL V sd n) N s'' := by
  have h6 := hF.le
  intro m
  induction m with
  | zero =>
    intro f k a s' hk hf h
    obtain ⟨f, rfl⟩ : ∃ f', f = f' + 1 := ⟨f - 1, by omega⟩
    refine ⟨s', ?_, by rwa [show k = N by omega] at h⟩
    rw [jloop]
    simp only [f_X5_lots_b66, if_pos (nI_le (show N ≤ k by omega) (show k < 2 ^ 31 by omega)), fold]
  | succ m ih =>
    intro f k a s' hk hf h
    obtain ⟨f, rfl⟩ : ∃ f', f = f' + 1 := ⟨f - 1, by omega⟩
    have hF' := InvF_N h.1 hF
    have l := lot5 (k := k) (V := V) (sd := sd) hF' (show t + k ≤ 40 by omega) h.2.2.2.2.1 (fun p hp => by rw [h.2.2.2.2.2.2.1 k (Nat.le_refl k) p (by omega)]; exact (hC.2.2 p hp).1) (nI N) a (nI k)
    have hsa : SameS s' (setR s' 14 0 (cL V sd n k) n) := SameS.uA (by unfold ScA; omega)
    obtain ⟨s1, w1, w2⟩ := C5_step hF hC (C5_S h hsa) (show t + k < 40 by omega) (fun p hp => sV_setRz hp)
    obtain ⟨s2, y1, y2⟩ := ih f (k + 1) (cnF s n V D (cL V sd n) k a) s1 (by omega) (by omega) w2
    refine ⟨s2, ?_, y2⟩
    rw [jloop]
    simp only [f_X5_lots_b66, f_X5_lots_b66_j124, if_neg (nI_ge (show k < N by omega) (show N < 2 ^ 31 by omega)), l, Option.bind_some, qO_0, if_true, w1, nI_1, fold]
    exact y1
theorem lots6 {s s1 : ST} {n t N : Nat} {V : Nat → Int32} {D : Nat → Nat} {F : Nat → Int32} {sd : Int64} (hF : InvF s n) (hC : CS s n t V D F) (hN1 : SameN s s1) (htN : t + N ≤ 40) : ∀ (m f k : Nat) (a : Int32) (s' : ST), k + m = N → m < f → C6 s n t V D F (cL V sd n) s1 k s' → ∃ s'', jloop (f_X6_lots_b61 (some 60) (nI N)) f (Lk sd n k, a, nI k) (HP s') = some (.inr (fold (cnF s n V D (cL V sd n)) m k a, HP s'')) ∧ C6 s n t V D F (cL V sd n) s1 N s'' := by
  have h6 := hF.le
  intro m
  induction m with
  | zero =>
    intro f k a s' hk hf h
    obtain ⟨f, rfl⟩ : ∃ f', f = f' + 1 := ⟨f - 1, by omega⟩
    refine ⟨s', ?_, by rwa [show k = N by omega] at h⟩
    rw [jloop]
    simp only [f_X6_lots_b61, if_pos (nI_le (show N ≤ k by omega) (show k < 2 ^ 31 by omega)), fold]
  | succ m ih =>
    intro f k a s' hk hf h
    obtain ⟨f, rfl⟩ : ∃ f', f = f' + 1 := ⟨f - 1, by omega⟩
    have hF' := InvF_N (hN1.trans h.1) hF
    have l := lot6 (k := k) (V := V) (sd := sd) hF' (fun p hp => (h.2.2.2.2.2.2.1 p hp).1) (nI N) a (nI k)
    have hsa : SameS s' (setR s' 73 0 (cL V sd n k) n) := SameS.uA (by unfold ScA; omega)
    obtain ⟨s3, w1, w2⟩ := C6_step hF hC hN1 (C6_74 h6 h hsa rfl) (show t + k < 40 by omega) (fun p hp => sV_setRz hp) (fun p hp e => cL_2 e)
    obtain ⟨s2, y1, y2⟩ := ih f (k + 1) (cnF s n V D (cL V sd n) k a) s3 (by omega) (by omega) w2
    refine ⟨s2, ?_, y2⟩
    rw [jloop]
    simp only [f_X6_lots_b61, if_neg (nI_ge (show k < N by omega) (show N < 2 ^ 31 by omega)), l, Option.bind_some, qO_60, if_true, w1, nI_1, fold]
    exact y1
theorem ag_lots {s : ST} (hI : Inv s) (a0 a1 : Int32) : ∃ (v : Int32) (s1 s2 : ST), f_X5_lots (some 0) a0 a1 (HP s) = some (v, HP s1) ∧ f_X6_lots (some 60) a0 a1 (HP s1) = some (v, HP s2) ∧ Inv s2 := by
  obtain ⟨n, hF, hT, hK⟩ := hI.1
  have h6 := hF.le
  obtain ⟨t, ht, hs, hs0, hS, hP⟩ := hT.t
  have i1 : (1 : Int64).toInt = 1 := by decide
  have i20 : (20 : Int64).toInt = 20 := by decide
  have iM : (2147483646 : Int64).toInt = 2147483646 := by decide
  have iL : (2147483647 : Int64).toInt = 2147483647 := by decide
  have j1 : (1 : Int32).toInt = 1 := by decide
  have j20 : (20 : Int32).toInt = 20 := by decide
  have e1 : (a0 < 1) = (a0.toInt < 1) := propext (by rw [Int32.lt_iff_toInt_lt, j1])
  have e2 : ((20 : Int32) < a0) = (20 < a0.toInt) := propext (by rw [Int32.lt_iff_toInt_lt, j20])
  have e3 : (a1 < 1) = (a1.toInt < 1) := propext (by rw [Int32.lt_iff_toInt_lt, j1])
  have e4 : (lg_cmp (Int32.toInt64 a1) 2147483647 < 0) = (a1.toInt < 2147483647) := propext (by rw [lgc_lt, Int32.toInt_toInt64, iL])
  by_cases hA : 1 ≤ a0.toInt ∧ a0.toInt ≤ 20
  case neg =>
    refine ⟨-1, s, s, ?_, ?_, hI⟩
    · simp only [f_X5_lots, e1, e2]
      by_cases c1 : a0.toInt < 1
      · rw [if_pos c1]
      · rw [if_neg c1, if_pos (by omega)]
    · simp only [f_X6_lots, p6_inI, i1, i20, if_neg hA, Option.bind_some, if_true]
  by_cases hB : 1 ≤ a1.toInt ∧ a1.toInt ≤ 2147483646
  case neg =>
    refine ⟨-1, s, s, ?_, ?_, hI⟩
    · simp only [f_X5_lots, e1, e2, e3, e4, if_neg (show ¬ a0.toInt < 1 by omega), if_neg (show ¬ 20 < a0.toInt by omega)]
      by_cases c1 : a1.toInt < 1
      · rw [if_pos c1]
      · rw [if_neg c1, if_neg (by omega)]
    · simp only [f_X6_lots, p6_inI, i1, i20, iM, if_pos hA, if_neg hB, Option.bind_some, n10, if_false, if_true]
  have c5 : ∀ x : Option (Int32 × AH), (if a0 < 1 then some ((-1 : Int32), HP s) else if 20 < a0 then some (-1, HP s) else if a1 < 1 then some (-1, HP s) else if lg_cmp (Int32.toInt64 a1) 2147483647 < 0 then x else some (-1, HP s)) = x := fun x => by
    simp only [e1, e2, e3, e4]
    rw [if_neg (by omega), if_neg (by omega), if_neg (by omega), if_pos (by omega)]
  by_cases hn : n = 0
  · subst hn
    refine ⟨-4, s, s, ?_, ?_, hI⟩
    · unfold f_X5_lots
      rw [c5]
      simp only [gR_0_8, Option.bind_some, fk_n, hF.2.2.1, if_pos (show nI 0 = 0 from rfl)]
    · simp only [f_X6_lots, p6_inI, i1, i20, iM, if_pos hA, if_pos hB, Option.bind_some, n10, if_false, gI_60_1, hF.2.1, if_pos (show nI 0 = 0 from rfl)]
  obtain ⟨N, hN21, rfl⟩ : ∃ N, N < 21 ∧ a0 = nI N := by
    rcases ix_n a0 (n := 21) (by omega) with q | q
    · exfalso
      rcases q with q | q
      · have := toInt_neg q; omega
      · have := toInt_ge (by omega) q; omega
    · exact q
  have g0 : ∀ s' : ST, gA (HP s') (some 61) 0 = some (sV s' 61 0) := fun s' => g61 s' (k := 0) (by omega)
  have e40 : (nI (t + N) ≤ 40) = (t + N ≤ 40) := propext (nI_leI (a := t + N) (b := 40) (by omega) (by omega))
  by_cases hfull : t + N ≤ 40
  case neg =>
    refine ⟨-2, s, s, ?_, ?_, hI⟩
    · unfold f_X5_lots
      rw [c5]
      simp only [gR_0_8, Option.bind_some, fk_n, hF.2.2.1, n_eq0 h6, hn, if_false, gR_0_3, gI_5_3, hs, nI_add, e40, hfull]
    · simp only [f_X6_lots, p6_inI, i1, i20, iM, if_pos hA, if_pos hB, Option.bind_some, n10, if_false, gI_60_1, hF.2.1, n_eq0 h6, hn, gR_60_0, g0, hs0, nI_add, e40, hfull]
  have hC := run_start hF ht hs hS
  obtain ⟨s1, w1, w2⟩ := lots5 (sd := Int32.toInt64 a1) hF hC hfull N jfuel 0 0 s (by omega) (by unfold jfuel; omega) (C5_0 hC)
  have w1 : jloop (f_X5_lots_b66 (some 0) (nI N)) jfuel (Int32.toInt64 a1, 0, 0) (HP s) = _ := w1
  have e61 := w2.2.1
  have hF1 := InvF_N w2.1 hF
  obtain ⟨s2, y1, y2⟩ := lots6 (sd := Int32.toInt64 a1) hF hC w2.1 hfull N jfuel 0 0 s1 (by omega) (by unfold jfuel; omega) (run_start6 hF hs0 hS e61)
  have y1 : jloop (f_X6_lots_b61 (some 60) (nI N)) jfuel (Int32.toInt64 a1, 0, 0) (HP s1) = _ := y1
  refine ⟨fold (cnF s n (fun p => sV s 61 (1 + p)) (fun p => (sV s 61 (7 + p)).toNatClampNeg) (cL (fun p => sV s 61 (1 + p)) (Int32.toInt64 a1) n)) N 0 0, s1, s2, ?_, ?_, inv_run hI hF hS hP hK hC rfl w2 y2 hfull⟩
  · unfold f_X5_lots
    rw [c5]
    simp only [gR_0_8, Option.bind_some, fk_n, hF.2.2.1, n_eq0 h6, hn, if_false, gR_0_3, gI_5_3, hs, nI_add, e40, hfull, if_true, w1]
  · simp only [f_X6_lots, p6_inI, i1, i20, iM, if_pos hA, if_pos hB, Option.bind_some, n10, if_false, gI_60_1, hF1.2.1, n_eq0 h6, hn, gR_60_0, g0, e61, hs0, nI_add, e40, hfull, if_true, y1]
