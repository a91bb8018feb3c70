/-! ===== the reference's MAPS that fit; fits, sure ===== -/
theorem lf_state {s : ST} {i : Nat} (hF : InvF s 0) : f_X6_layFits (some 60) (nI i) (HP s) = some (-4, HP s) := by
  simp -implicitDefEqProofs only [f_X6_layFits, gI_60_1, Option.bind_some, hF.2.1, if_pos (show nI 0 = 0 from rfl)]
theorem lf_miss {s : ST} {i n : Nat} (hF : InvF s n) (hn : n ≠ 0) (hi : i < 6) (z : sV s 66 i = -1) : f_X6_layFits (some 60) (nI i) (HP s) = some (-3, HP (fnd6 s 1)) := by
  have h6 := hF.le
  simp -implicitDefEqProofs only [f_X6_layFits, gI_60_1, Option.bind_some, hF.2.1, n_eq0 h6, hn, if_false, gR_60_7, gA66 _ hi, z, if_neg (show ¬ (0 : Int32) ≤ -1 by decide), qO_60, if_true, p6_find (x := 1) _ 1 rfl (by omega)]
theorem lf_odd {s : ST} {i n m : Nat} (hF : InvF s n) (hn : n ≠ 0) (hi : i < 6) (z : sV s 66 i = nI m) (hm : m ≤ 40) (ho : m % 2 = 1) : f_X6_layFits (some 60) (nI i) (HP s) = some (-3, HP (fnd6 s 5)) := by
  have h6 := hF.le
  simp -implicitDefEqProofs only [f_X6_layFits, gI_60_1, Option.bind_some, hF.2.1, n_eq0 h6, hn, if_false, gR_60_7, gA66 _ hi, z, if_pos (nI_pos' (show m < 2 ^ 31 by omega)), n_rem2 (show m < 2 ^ 31 by omega), ho, n21, qO_60, if_true, p6_find (x := 5) _ 5 rfl (by omega)]
theorem lf_loop {s : ST} {n i z : Nat} (hF : InvF s n) (hi : i < 6) (h1 : sV s 66 i = nI z) (hz : z ≤ 40) : ∀ (m f j : Nat) (b : Bool), j + m = z → m < f → (b = true ∧ alW n (fun k => sV s 67 (40 * i + k)) m j → jloop (f_X6_layFits_b46 (some 60) (nI i)) f ((if b then 1 else 0), nI j) (HP s) = some (.inr (1, HP s))) ∧ (¬ (b = true ∧ alW n (fun k => sV s 67 (40 * i + k)) m j) → jloop (f_X6_layFits_b46 (some 60) (nI i)) f ((if b then 1 else 0), nI j) (HP s) = some (.inr (0, HP s))) := by
  have h6 := hF.le
  have h64 := pow64 h6
  have hpp := Nat.two_pow_pos n
  intro m
  induction m with
  | zero =>
    intro f j b hj hf
    obtain ⟨f, rfl⟩ : ∃ f', f = f' + 1 := ⟨f - 1, by omega⟩
    rw [jloop]
    simp only [f_X6_layFits_b46, gR_60_7, Option.bind_some, gA66 _ hi, h1, if_pos (nI_le (show z ≤ j by omega) (show j < 2 ^ 31 by omega)), alW, and_true]
    cases b <;> simp
  | succ m ih =>
    intro f j b hj hf
    obtain ⟨f, rfl⟩ : ∃ f', f = f' + 1 := ⟨f - 1, by omega⟩
    obtain ⟨t1, t2⟩ := ih f (j + 1) true (by omega) (by omega)
    obtain ⟨-, u2⟩ := ih f (j + 1) false (by omega) (by omega)
    have u2 : jloop (f_X6_layFits_b46 (some 60) (nI i)) f (0, nI (j + 1)) (HP s) = some (.inr (0, HP s)) := u2 (fun z => by simp at z)
    have e64 : (Int32.toInt64 (nI (2 ^ n - 1))).toInt = ((2 ^ n - 1 : Nat) : Int) := by rw [Int32.toInt_toInt64, nI_toInt (by omega)]
    rw [alW]
    rw [jloop]
    simp only [f_X6_layFits_b46, gR_60_7, Option.bind_some, gA66 _ hi, h1, if_neg (nI_ge (show j < z by omega) (show z < 2 ^ 31 by omega)), gR_60_8, gA67 _ hi (show j < 40 by omega), gI_60_1, hF.2.1, (ev_dec n (by omega)).1, p6_in0, e64, nI_1]
    cases b with
    | false =>
      simp only [Bool.false_eq_true, if_false, if_true, false_and, not_false_eq_true, forall_const, false_implies, true_and]
      exact u2
    | true =>
      simp only [if_true, n10, if_false, true_and]
      by_cases c : 0 ≤ (sV s 67 (40 * i + j)).toInt ∧ (sV s 67 (40 * i + j)).toInt ≤ ((2 ^ n - 1 : Nat) : Int)
      · simp only [if_pos c, n10, if_false]
        exact ⟨fun h => t1 ⟨rfl, h.2⟩, fun h => t2 (fun z => h ⟨c, z.2⟩)⟩
      · simp only [if_neg c, if_true]
        exact ⟨fun h => absurd h.1 c, fun _ => u2⟩
theorem lf_bad {s : ST} {i n m : Nat} (hF : InvF s n) (hn : n ≠ 0) (hi : i < 6) (z : sV s 66 i = nI m) (hm : m ≤ 40) (ho : m % 2 = 0) (hb : ¬ alW n (fun k => sV s 67 (40 * i + k)) m 0) : f_X6_layFits (some 60) (nI i) (HP s) = some (-3, HP (fnd6 s 3)) := by
  have h6 := hF.le
  have l : jloop (f_X6_layFits_b46 (some 60) (nI i)) jfuel (1, 0) (HP s) = _ := (lf_loop hF hi z hm m jfuel 0 true (by omega) (by unfold jfuel; omega)).2 (fun q => hb q.2)
  simp -implicitDefEqProofs only [f_X6_layFits, gI_60_1, Option.bind_some, hF.2.1, n_eq0 h6, hn, if_false, gR_60_7, gA66 _ hi, z, if_pos (nI_pos' (show m < 2 ^ 31 by omega)), n_rem2 (show m < 2 ^ 31 by omega), ho, show nI 0 = 0 from rfl, if_true, l, qO_60, p6_find (x := 3) _ 3 rfl (by omega)]
theorem fit_in {s : ST} {n i h k : Nat} {T : Nat → Nat} {w : Nat → Nat} (hF : InvF s n) (hi : i < 6) (z : sV s 66 i = nI (2 * h)) (hh : 2 * h ≤ 40) (hw : ∀ k, k < 2 * h → w k < 64 ∧ sV s 67 (40 * i + k) = nI (w k)) (hk : k < 265) (hT : Ful n T) (e75 : sV s 75 k = nI (cod n T n)) (x : Int32) : ∀ (r f j : Nat) (b : Bool), j + r = h → r < f → jloop (f_X6_layFits_b135 (some 60) (nI i) x (nI k)) f ((if b then 1 else 0), nI (2 * j)) (HP s) = some (.inr ((if b && fitF n w T r j then 1 else 0), HP s)) := by
  have h6 := hF.le
  intro r
  induction r with
  | zero =>
    intro f j b hj hf
    obtain ⟨f, rfl⟩ : ∃ f', f = f' + 1 := ⟨f - 1, by omega⟩
    rw [jloop]
    simp only [f_X6_layFits_b135, gR_60_7, Option.bind_some, gA66 _ hi, z, if_pos (nI_le (show 2 * h ≤ 2 * j by omega) (show 2 * j < 2 ^ 31 by omega)), fitF, Bool.and_true]
  | succ r ih =>
    intro f j b hj hf
    obtain ⟨f, rfl⟩ : ∃ f', f = f' + 1 := ⟨f - 1, by omega⟩
    have iT := ih f (j + 1) true (by omega) (by omega)
    have iF := ih f (j + 1) false (by omega) (by omega)
    simp only [if_true, Bool.true_and] at iT
    simp only [Bool.false_eq_true, if_false, Bool.false_and] at iF
    have e2 : nI (2 * j) + 2 = nI (2 * (j + 1)) := nI_add (2 * j) 2
    obtain ⟨w1, w2⟩ := hw (2 * j) (by omega)
    obtain ⟨w3, w4⟩ := hw (2 * j + 1) (by omega)
    have en : (nI (vo n T (w (2 * j))) = nI (w (2 * j + 1))) = (vo n T (w (2 * j)) = w (2 * j + 1)) := propext (nI_eq (by have := vo_lt h6 hT (w (2 * j)); omega) (by omega))
    rw [jloop, fitF]
    simp only [f_X6_layFits_b135, gR_60_7, Option.bind_some, gA66 _ hi, z, if_neg (nI_ge (show 2 * j < 2 * h by omega) (show 2 * h < 2 ^ 31 by omega)), gR_60_25, g75 _ hk, e75, gR_60_8, e40, nI_1, g67 _ (show 40 * i + 2 * j < 240 by omega), g67 _ (show 40 * i + (2 * j + 1) < 240 by omega), w2, show 40 * i + 2 * j + 1 = 40 * i + (2 * j + 1) by omega, w4, qO_60, if_true, p6_vof hF hT w1, en, e2]
    cases b with
    | false =>
      simp only [Bool.false_eq_true, if_false, if_true, Bool.false_and]
      exact iF
    | true =>
      simp only [if_true, n10, if_false, Bool.true_and]
      by_cases c : vo n T (w (2 * j)) = w (2 * j + 1)
      · simp only [c, if_true, decide_true, Bool.true_and]
        exact iT
      · simp only [c, if_false, decide_false, Bool.false_and, Bool.false_eq_true]
        exact iF
theorem lf_ok {s : ST} {i n h : Nat} (hF : InvF s n) (hn : n ≠ 0) (hi : i < 6) (z : sV s 66 i = nI (2 * h)) (hm : 2 * h ≤ 40) (hb : alW n (fun k => sV s 67 (40 * i + k)) (2 * h) 0) (w : Nat → Nat) (hw : ∀ k, k < 2 * h → w k < 64 ∧ sV s 67 (40 * i + k) = nI (w k)) : ∃ s', f_X6_layFits (some 60) (nI i) (HP s) = some (0, HP s') ∧ SameS s s' ∧ HR s' n ((mpl s n (2 ^ n - 1) 1).filter (fun T => fitP n w T h)) := by
  have h6 := hF.le
  have l : jloop (f_X6_layFits_b46 (some 60) (nI i)) jfuel (1, 0) (HP s) = _ := (lf_loop hF hi z hm (2 * h) jfuel 0 true (by omega) (by unfold jfuel; omega)).1 ⟨rfl, hb⟩
  obtain ⟨sA, a1, a2, a3⟩ := p6_lay 1 hF hn
  rw [yx1] at a1
  have h265 := mpl_265 (x := 1) hF
  have hFu := mpl_F (x := 1) hF
  generalize mpl s n (2 ^ n - 1) 1 = L at a3 h265 hFu ⊢
  have eP : ∀ T, fitP n w T h = fitF n w T h 0 := fun T => by
    have := fitP_F (n := n) (w := w) (T := T) h 0
    rw [Nat.zero_add] at this
    rw [this]
    rfl
  have loop : ∀ (r pre : List (Nat → Nat)) (s' : ST) (f : Nat), pre ++ r = L → r.length < f → SameS s s' → sI s' 1946 = nI L.length → (∀ k T, (pre.filter (fun T => fitP n w T h))[k]? = some T → sV s' 75 k = nI (cod n T n)) → (∀ k T, pre.length ≤ k → L[k]? = some T → sV s' 75 k = nI (cod n T n)) → ∃ s'', jloop (f_X6_layFits_b120 (some 60) (nI i)) f (nI (pre.filter (fun T => fitP n w T h)).length, nI pre.length) (HP s') = some (.inr (nI (L.filter (fun T => fitP n w T h)).length, HP s'')) ∧ SameS s s'' ∧ ∀ k T, (L.filter (fun T => fitP n w T h))[k]? = some T → sV s'' 75 k = nI (cod n T n) := by
    intro r
    induction r with
    | nil =>
      intro pre s' f hE hf hS h1 h3 h4
      obtain ⟨f, rfl⟩ : ∃ f', f = f' + 1 := ⟨f - 1, by simp at hf; omega⟩
      have e : pre = L := by simpa using hE
      subst e
      refine ⟨s', ?_, hS, h3⟩
      rw [jloop]
      simp only [f_X6_layFits_b120, gI_60_26, Option.bind_some, h1, if_pos (nI_le (Nat.le_refl pre.length) (show pre.length < 2 ^ 31 by omega))]
    | cons T r ih =>
      intro pre s' f hE hf hS h1 h3 h4
      obtain ⟨f, rfl⟩ : ∃ f', f = f' + 1 := ⟨f - 1, by simp at hf; omega⟩
      have hlt : pre.length < L.length := by rw [← hE]; simp
      have hst : (pre.filter (fun T => fitP n w T h)).length ≤ pre.length := List.length_filter_le _ _
      have ev : sV s' 75 pre.length = nI (cod n T n) := h4 _ T (Nat.le_refl _) (app_mid hE)
      have hTf : Ful n T := hFu T (by rw [← hE]; simp)
      have hF' := InvF_S hS hF
      have li := fit_in (i := i) (h := h) (k := pre.length) (T := T) (w := w) hF' hi (by rw [S_V hS (by unfold ScA; omega)]; exact z) hm (fun k hk => by rw [S_V hS (by unfold ScA; omega)]; exact hw k hk) (by omega) hTf ev (nI (pre.filter (fun T => fitP n w T h)).length) h jfuel 0 true (by omega) (by unfold jfuel; omega)
      have li : jloop (f_X6_layFits_b135 (some 60) (nI i) (nI (pre.filter (fun T => fitP n w T h)).length) (nI pre.length)) jfuel (1, 0) (HP s') = _ := li
      rw [Bool.true_and, ← eP] at li
      have el : (pre ++ [T]).length = pre.length + 1 := by simp
      have hS2 : SameS s' (uV s' 75 (pre.filter (fun T => fitP n w T h)).length (nI (cod n T n))) := SameS.uV (by unfold ScA; omega)
      rw [jloop]
      simp only [f_X6_layFits_b120, gI_60_26, Option.bind_some, h1, if_neg (nI_ge hlt (show L.length < 2 ^ 31 by omega)), li, gR_60_25, g75 _ (show pre.length < 265 by omega), ev, s75 _ (show (pre.filter (fun T => fitP n w T h)).length < 265 by omega), nI_1, Int32.add_zero]
      cases c : fitP n w T h with
      | true =>
        have ef : (pre ++ [T]).filter (fun T => fitP n w T h) = pre.filter (fun T => fitP n w T h) ++ [T] := by
          rw [List.filter_append, List.filter_cons, if_pos c, List.filter_nil]
        obtain ⟨s2, w1, w2, w3⟩ := ih (pre ++ [T]) (uV s' 75 (pre.filter (fun T => fitP n w T h)).length (nI (cod n T n))) f (by rw [List.append_assoc]; exact hE) (by simp at hf; omega) (hS.trans hS2) h1 (fun k T' h => by
          rw [ef] at h
          rw [sV_uV, if_pos rfl]
          rcases get_snoc h with ⟨q1, q2⟩ | ⟨q1, q2⟩
          · rw [if_neg (by omega)]; exact h3 k T' q2
          · rw [if_pos q1, q2]) (fun k T' hk h => by
          rw [sV_uV, if_pos rfl, if_neg (by omega)]
          exact h4 k T' (by omega) h)
        rw [ef, el, List.length_append] at w1
        refine ⟨s2, ?_, w2, w3⟩
        simp only [if_true, n10, if_false]
        exact w1
      | false =>
        have ef : (pre ++ [T]).filter (fun T => fitP n w T h) = pre.filter (fun T => fitP n w T h) := by
          rw [List.filter_append, List.filter_cons, if_neg (by simp [c]), List.filter_nil, List.append_nil]
        obtain ⟨s2, w1, w2, w3⟩ := ih (pre ++ [T]) (uV s' 75 (pre.filter (fun T => fitP n w T h)).length (nI (cod n T n))) f (by rw [List.append_assoc]; exact hE) (by simp at hf; omega) (hS.trans hS2) h1 (fun k T' h => by
          rw [ef] at h
          have := (List.getElem?_eq_some_iff.mp h).1
          rw [sV_uV, if_pos rfl, if_neg (by omega)]
          exact h3 k T' h) (fun k T' hk h => by
          rw [sV_uV, if_pos rfl, if_neg (by omega)]
          exact h4 k T' (by omega) h)
        rw [ef, el] at w1
        refine ⟨s2, ?_, w2, w3⟩
        simp only [Bool.false_eq_true, if_false, if_true]
        exact w1
  obtain ⟨s', w1, w2, w3⟩ := loop L [] sA jfuel rfl (by unfold jfuel; omega) a2 a3.1 (fun k T h => by simp at h) (fun k T _ h => a3.2 k T h)
  have w1 : jloop (f_X6_layFits_b120 (some 60) (nI i)) jfuel (0, 0) (HP sA) = _ := w1
  refine ⟨uI s' 1946 (nI (L.filter (fun T => fitP n w T h)).length), ?_, w2.trans (SameS.uI (by unfold ScI; omega)), ⟨by rw [sI_uI, if_pos rfl], w3⟩⟩
  simp -implicitDefEqProofs only [f_X6_layFits, gI_60_1, Option.bind_some, hF.2.1, n_eq0 h6, hn, if_false, gR_60_7, gA66 _ hi, z, if_pos (nI_pos' (show 2 * h < 2 ^ 31 by omega)), n_rem2 (show 2 * h < 2 ^ 31 by omega), show 2 * h % 2 = 0 by omega, show nI 0 = 0 from rfl, if_true, l, n10, qO_60, a1, w1, sF_60_26]
