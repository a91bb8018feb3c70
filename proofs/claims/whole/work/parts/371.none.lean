/-! ===== none ===== -/
theorem T_5 (s : ST) (f : Nat) : SameT s (fnd5 s f) := (SameT.uI (by unfold IdT; omega)).trans (SameT.uV (by unfold TyT; omega))
theorem InvF_5 {s : ST} {n : Nat} (f : Nat) (hF : InvF s n) : InvF (fnd5 s f) n := InvF_same (T_5 s f) hF
theorem InvT_5 {s : ST} {n : Nat} (f : Nat) (hT : InvT s n 5 0) : InvT (fnd5 s f) n 5 0 := InvT_same (T_5 s f) (Or.inl rfl) hT
theorem InvS_5 {s : ST} {n t : Nat} (f : Nat) (hS : InvS s n 6 7 8 t 1) : InvS (fnd5 s f) n 6 7 8 t 1 := InvS_same (sV5 s f (by omega)) (sV5 s f (by omega)) (sV5 s f (by omega)) (sV5 s f (by omega)) (sV5 s f (by omega)) hS
theorem mo_congr {n : Nat} {W W' : Nat → Int32} : ∀ (m j a : Nat), (∀ p, j ≤ p → p < j + m → W p = W' p) → mo n W m j a = mo n W' m j a
  | 0, _, _, _ => rfl
  | m + 1, j, a, h => by
    rw [mo, mo, h j (by omega) (by omega), mo_congr m (j + 1) a (fun p h1 h2 => h p (by omega) (by omega)), mo_congr m (j + 1) _ (fun p h1 h2 => h p (by omega) (by omega))]
theorem p6_isMap {s : ST} {n t i : Nat} (hF : InvF s n) (hS : InvS s n 6 7 8 t 1) (hi : i < 6) (z3 : ∀ k, k < n → sV s (lc i + 1) k = sV s 67 (40 * i + k)) : f_X6_isMap (some 60) (nI i) (HP s) = some (if isM s n i then 1 else 0, HP (tri s n i n)) := by
  have h6 := hF.le
  have l : jloop (f_X6_isMap_b4 (some 60) (nI i)) jfuel ((if allP s n i 0 then 1 else 0), nI 0) (HP (tri s n i 0)) = some (.inr ((if allP s n i n then 1 else 0), HP (tri s n i n))) := by
    refine jseq (n := n) (x := (if allP s n i n then (1 : Int32) else 0)) (fun j => ((if allP s n i j then (1 : Int32) else 0), nI j)) (fun j => HP (tri s n i j)) ?_ (fun j hj => ?_) n jfuel 0 (by omega) (by unfold jfuel; omega)
    · have hF' := InvF_S (tri_S s n i n) hF
      simp only [f_X6_isMap_b4, gI_60_1, Option.bind_some, hF'.2.1, if_pos (nI_le (Nat.le_refl n) (show n < 2 ^ 31 by omega))]
    · have hF' := InvF_S (tri_S s n i j) hF
      have v67 : sV (tri s n i j) 67 = sV s 67 := S_V (tri_S s n i j) (by unfold ScA; omega)
      simp only [f_X6_isMap_b4, f_X6_isMap_b4_j49, f_X6_isMap_b4_j45, f_X6_isMap_b4_j50, f_X6_isMap_b4_j72, gI_60_1, Option.bind_some, hF'.2.1, if_neg (nI_ge hj (show n < 2 ^ 31 by omega)), gR_60_8, gR_60_24, gA67 _ hi (show j < 40 by omega), v67, qO_60, if_true, s74 _ (show j < 6 by omega), nI_1, allP, tri]
      by_cases c0 : allP s n i j = true
      · simp only [c0, if_true, n10, if_false, Bool.true_and, decide_eq_true_eq]
        by_cases c1 : sV s 67 (40 * i + j) = -9
        · simp only [c1, if_true, true_or]
        · simp only [c1, if_false, false_or]
          rcases ix_n (sV s 67 (40 * i + j)) (n := n) (by omega) with q | ⟨k, hk, q⟩
          · have nk : ¬ ∃ k, k < n ∧ sV s 67 (40 * i + j) = nI k := fun ⟨k, hk, e⟩ => by
              rw [e] at q
              rcases q with q | q
              · exact nI_pos (by omega) q
              · exact nI_ge hk (by omega) q
            simp only [p6_isPF hF' q, Option.bind_some, if_true, if_neg nk, gR_60_24, s74 _ (show j < 6 by omega)]
          · have hk' : ∃ k, k < n ∧ sV s 67 (40 * i + j) = nI k := ⟨k, hk, q⟩
            have ep : f_X6_isPerson (some 60) (sV s 67 (40 * i + j)) (HP (tri s n i j)) = some (1, HP (tri s n i j)) := by rw [q]; exact p6_isPT hF' hk
            simp only [ep, Option.bind_some, n10, if_false, if_pos hk', gR_60_24, s74 _ (show j < 6 by omega)]
      · simp only [c0, if_false, Bool.false_and, if_true, Bool.false_eq_true]
        by_cases c1 : sV s 67 (40 * i + j) = -9
        · simp only [c1, if_true]
        · simp only [c1, if_false]
  have l : jloop (f_X6_isMap_b4 (some 60) (nI i)) jfuel (1, 0) (HP s) = _ := l
  have em : mo n (sV s (lc i + 1)) n 0 0 = mo n (fun p => sV s 67 (40 * i + p)) n 0 0 := mo_congr n 0 0 (fun p _ hp => z3 p (by omega))
  by_cases ha : allP s n i n = true
  · have hW := (allP_iff s n i n).mp ha
    have hF' := InvF_S (tri_S s n i n) hF
    have hS' := InvS_S (tri_S s n i n) hS
    have ev : vset (tri s n i n) n = vset s n := by unfold vset; rw [S_V (tri_S s n i n) (by unfold ScA; omega)]
    have hV := vset_lt h6 hS
    obtain ⟨x, hx1, hx2⟩ := p6_leftOf (V := vset s n) hF' (T := tW n (fun p => sV s 67 (40 * i + p))) (fun p hp => by
      rw [tri_V s n i n p hp]
      unfold tW
      rcases hW p hp with h | ⟨k, hk, h⟩
      · rw [if_pos h, if_pos h]; exact ⟨Nat.le_refl n, rfl⟩
      · have n9 := nI_n9 (show k < 2 ^ 31 by omega)
        simp only [h, if_neg n9, nI_clamp (show k < 2 ^ 31 by omega)]
        exact ⟨by omega, trivial⟩) hV
    have eqv := mo_lo (V := vset s n) h6 hV hW n 0 0 (vset s n) (by omega) hV (by omega) (fun k => by rw [Nat.zero_testBit]; simp) (fun k h => by rw [Nat.zero_testBit] at h; cases h)
    simp only [f_X6_isMap, l, Option.bind_some, ha, if_true, n10, if_false, qO_60, p6_vset hF' hS', ev, hx1]
    have e : (isM s n i = true) ↔ x = 0 := by
      unfold isM
      rw [decide_eq_true_eq, em, eqv, hx2]
    by_cases hx : x = 0
    · rw [if_pos hx, if_pos (e.mpr hx)]
    · rw [if_neg hx, if_neg (fun z => hx (e.mp z))]
  · have hb : ∃ p, p < n ∧ ¬ (sV s 67 (40 * i + p) = -9 ∨ ∃ k, k < n ∧ sV s 67 (40 * i + p) = nI k) := by
      apply Classical.byContradiction
      intro h
      exact ha ((allP_iff s n i n).mpr (fun p hp => Classical.byContradiction (fun q => h ⟨p, hp, q⟩)))
    obtain ⟨p, hp, hb⟩ := hb
    have e : isM s n i = false := by
      unfold isM
      rw [em, mo_bad (W := fun p => sV s 67 (40 * i + p)) hb h6 n 0 0 (by omega) (by omega)]
      simp
    simp only [f_X6_isMap, l, Option.bind_some, ha, if_false, if_true, e, Bool.false_eq_true]
/-- nobody loses more -/
def nn (s : ST) (n : Nat) (W : Nat → Int32) : Nat → Nat → Bool
  | 0, _ => true
  | m + 1, j => (if W j = -9 then true else decide (nI (str s j (W j).toNatClampNeg) ≤ nI (loss s n (W j).toNatClampNeg))) && nn s n W m (j + 1)
theorem nn_congr {s : ST} {n : Nat} {W W' : Nat → Int32} : ∀ (m j : Nat), (∀ p, j ≤ p → p < j + m → W p = W' p) → nn s n W m j = nn s n W' m j
  | 0, _, _ => rfl
  | m + 1, j, h => by
    rw [nn, nn, h j (by omega) (by omega), nn_congr m (j + 1) (fun p h1 h2 => h p (by omega) (by omega))]
theorem p5_nn {s : ST} {n i : Nat} (hF : InvF s n) (hT : InvT s n 5 0) (hi : i < 10) (h1 : sI s (32 * lc i + 1) = nI n) (hl : n ≤ lm i) (hW : ∀ p, p < n → sV s (lc i + 1) p = -9 ∨ ∃ k, k < n ∧ sV s (lc i + 1) p = nI k) : ∀ (m f j : Nat), j + m = n → m < f → jloop (f_X5_none_b44 (some 0) (some (lc i))) f (nI j) (HP s) = some (if nn s n (sV s (lc i + 1)) m j then .inr ((), HP s) else .inl (0, HP s)) := by
  have h6 := hF.le
  intro m
  induction m with
  | zero =>
    intro f j hj hf
    obtain ⟨f, rfl⟩ : ∃ f', f = f' + 1 := ⟨f - 1, by omega⟩
    rw [jloop]
    simp only [f_X5_none_b44, gR_0_8, Option.bind_some, fk_n, hF.2.2.1, if_pos (nI_le (show n ≤ j by omega) (show j < 2 ^ 31 by omega)), nn, if_true]
  | succ m ih =>
    intro f j hj hf
    obtain ⟨f, rfl⟩ : ∃ f', f = f' + 1 := ⟨f - 1, by omega⟩
    rw [jloop, nn]
    rcases hW j (by omega) with h | ⟨k, hk, h⟩
    · simp only [f_X5_none_b44, gR_0_8, Option.bind_some, fk_n, hF.2.2.1, if_neg (nI_ge (show j < n by omega) (show n < 2 ^ 31 by omega)), ln_q s hi, if_true, p2_get s hi h1 hl (show j < n by omega), h, nI_1, Bool.true_and]
      exact ih f (j + 1) (by omega) (by omega)
    · have n9 := nI_n9 (show k < 2 ^ 31 by omega)
      simp only [f_X5_none_b44, gR_0_8, Option.bind_some, fk_n, hF.2.2.1, if_neg (nI_ge (show j < n by omega) (show n < 2 ^ 31 by omega)), ln_q s hi, if_true, p2_get s hi h1 hl (show j < n by omega), h, if_neg n9, fk_q, p1_str hF (show j < n by omega) hk, qO_0, p5_loss hF hT hk, nI_1, nI_clamp (show k < 2 ^ 31 by omega)]
      by_cases c : nI (str s j k) ≤ nI (loss s n k)
      · simp only [c, if_true, decide_true, Bool.true_and]
        exact ih f (j + 1) (by omega) (by omega)
      · simp only [c, if_false, decide_false, Bool.false_and, Bool.false_eq_true]
theorem p6_nn {s : ST} {n : Nat} {W : Nat → Int32} (hF : InvF s n) (hW : ∀ p, p < n → (W p = -9 ∧ sV s 74 p = nI n) ∨ ∃ k, k < n ∧ W p = nI k ∧ sV s 74 p = nI k) : ∀ (m f j : Nat) (b : Bool), j + m = n → m < f → jloop (f_X6_none_b71 (some 60)) f ((if b then 1 else 0), nI j) (HP s) = some (.inr ((if b && nn s n W m j then 1 else 0), HP s)) := by
  have h6 := hF.le
  intro m
  induction m with
  | zero =>
    intro f j b hj hf
    obtain ⟨f, rfl⟩ : ∃ f', f = f' + 1 := ⟨f - 1, by omega⟩
    rw [jloop]
    simp only [f_X6_none_b71, gI_60_1, Option.bind_some, hF.2.1, if_pos (nI_le (show n ≤ j by omega) (show j < 2 ^ 31 by omega)), nn, Bool.and_true]
  | succ m ih =>
    intro f j b hj hf
    obtain ⟨f, rfl⟩ : ∃ f', f = f' + 1 := ⟨f - 1, by omega⟩
    rw [jloop, nn]
    cases b with
    | false =>
      simp only [f_X6_none_b71, gI_60_1, Option.bind_some, hF.2.1, if_neg (nI_ge (show j < n by omega) (show n < 2 ^ 31 by omega)), Bool.false_eq_true, if_false, if_true, nI_1, Bool.false_and]
      have := ih f (j + 1) false (by omega) (by omega)
      simp only [Bool.false_eq_true, if_false, Bool.false_and] at this
      exact this
    | true =>
      rcases hW j (by omega) with ⟨h, e⟩ | ⟨k, hk, h, e⟩
      · simp only [f_X6_none_b71, f_X6_none_b71_j120, gI_60_1, Option.bind_some, hF.2.1, if_neg (nI_ge (show j < n by omega) (show n < 2 ^ 31 by omega)), n10, if_false, gR_60_24, g74 s (show j < 6 by omega), e, if_true, nI_1, h, Bool.true_and]
        have := ih f (j + 1) true (by omega) (by omega)
        simp only [if_true, Bool.true_and] at this
        exact this
      · have n9 := nI_n9 (show k < 2 ^ 31 by omega)
        have en : ¬ nI k = nI n := fun z => by have := (nI_eq (by omega) (by omega)).mp z; omega
        simp only [f_X6_none_b71, f_X6_none_b71_j120, gI_60_1, Option.bind_some, hF.2.1, if_neg (nI_ge (show j < n by omega) (show n < 2 ^ 31 by omega)), n10, if_false, gR_60_24, g74 s (show j < 6 by omega), e, if_neg en, qO_60, if_true, p6_str hF (show j < n by omega) hk, p6_loss hF hk, nI_1, h, if_neg n9, nI_clamp (show k < 2 ^ 31 by omega), Bool.true_and, i32_nlt, ite_not]
        by_cases c : nI (str s j k) ≤ nI (loss s n k)
        · simp only [c, if_true, decide_true, Bool.true_and]
          have := ih f (j + 1) true (by omega) (by omega)
          simp only [if_true, Bool.true_and] at this
          exact this
        · simp only [c, if_false, decide_false, Bool.false_and, Bool.false_eq_true]
          have := ih f (j + 1) false (by omega) (by omega)
          simp only [Bool.false_eq_true, if_false, Bool.false_and] at this
          exact this
theorem nn_S {s s' : ST} {n : Nat} {W : Nat → Int32} (h : SameS s s') : ∀ m j, nn s' n W m j = nn s n W m j := by
  have e62 := S_V h (k := 62) (by unfold ScA; omega)
  have e64 := S_V h (k := 64) (by unfold ScA; omega)
  have e65 := S_V h (k := 65) (by unfold ScA; omega)
  have e61 := S_V h (k := 61) (by unfold ScA; omega)
  have es : ∀ p q, str s' p q = str s p q := fun p q => by unfold str pw kN zN; rw [e62, e64, e65]
  have el : ∀ p, loss s' n p = loss s n p := fun p => by
    have ef : foe s' n (nI p) = foe s n (nI p) := by unfold foe; rw [e61]
    unfold loss
    rw [ef, es]
  intro m
  induction m with
  | zero => intro j; rfl
  | succ m ih =>
    intro j
    rw [nn, nn, ih, es, el]
theorem isM_5 (s : ST) (n : Nat) {i f : Nat} (hi : i < 10) : isM (fnd5 s f) n i = isM s n i := by
  unfold isM vset
  have : lc i + 1 ≠ 15 := by unfold lc; omega
  rw [sV5 s f this, sV5 s f (by omega)]
theorem mo_all {n : Nat} {W : Nat → Int32} (h6 : n ≤ 6) {A : Nat} (h : mo n W n 0 0 = some A) : ∀ p, p < n → W p = -9 ∨ ∃ k, k < n ∧ W p = nI k := fun p hp => Classical.byContradiction (fun q => by rw [mo_bad q h6 n 0 0 (by omega) (by omega)] at h; cases h)
theorem ag_none {s : ST} (hI : Inv s) (a0 : Int32) : ∃ (v : Int32) (s1 s2 : ST), f_X5_none (some 0) a0 (HP s) = some (v, HP s1) ∧ f_X6_none (some 60) a0 (HP s1) = some (v, HP s2) ∧ Inv s2 := by
  obtain ⟨n, hF, hT, hK⟩ := hI.1
  have h6 := hF.le
  obtain ⟨t, ht, hs, hs0, hS, hP⟩ := hT.t
  rcases ix6 a0 with h0 | ⟨i, hi, rfl⟩
  · refine ⟨-1, s, s, ?_, ?_, hI⟩
    · simp only [f_X5_none, gR_0_0, Option.bind_some, p5_rowNo s h0, if_true]
    · simp only [f_X6_none, isRow_no h0, Option.bind_some, if_true]
  have hi10 : i < 10 := by omega
  by_cases hn : n = 0
  · subst hn
    refine ⟨-4, s, s, ?_, ?_, hI⟩
    · simp only [f_X5_none, gR_0_0, Option.bind_some, p5_rowAt s hi rfl, reduceCtorEq, if_false, qO_0, if_true, rf_state hF, if_neg (show ¬ (-4 : Int32) = 0 by decide)]
    · simp only [f_X6_none, isRow_yes hi, Option.bind_some, n10, if_false, gI_60_1, hF.2.1, if_pos (show nI 0 = 0 from rfl)]
  rcases hI.2.1.1 i hi with ⟨z1, z2⟩ | ⟨m, hm, z1, z2, z3⟩
  · have z1 : sI s (32 * lc i + 1) = -1 := z1
    refine ⟨-3, fnd5 s 1, fnd6 (fnd5 s 1) 1, ?_, ?_, inv_find hI 1⟩
    · simp only [f_X5_none, gR_0_0, Option.bind_some, p5_rowAt s hi rfl, reduceCtorEq, if_false, qO_0, if_true, rf_miss hF hn hi10 z1, n30]
    · simp only [f_X6_none, isRow_yes hi, Option.bind_some, n10, if_false, gI_60_1, (InvF_5 1 hF).2.1, n_eq0 h6, hn, gR_60_7, gA66 _ hi, sV5 s 1 (show 66 ≠ 15 by omega), z2, if_neg (show ¬ (0 : Int32) ≤ -1 by decide), qO_60, if_true, p6_find (x := 1) _ 1 rfl (by omega)]
  have z1 : sI s (32 * lc i + 1) = nI m := z1
  by_cases hmn : m = n
  case neg =>
    have en : ¬ nI m = nI n := fun z => hmn ((nI_eq (by omega) (by omega)).mp z)
    refine ⟨-3, fnd5 s 5, fnd6 (fnd5 s 5) 5, ?_, ?_, inv_find hI 5⟩
    · simp only [f_X5_none, gR_0_0, Option.bind_some, p5_rowAt s hi rfl, reduceCtorEq, if_false, qO_0, if_true, rf_size hF hn hi10 z1 (by omega) hmn, n30]
    · simp only [f_X6_none, isRow_yes hi, Option.bind_some, n10, if_false, gI_60_1, (InvF_5 5 hF).2.1, n_eq0 h6, hn, gR_60_7, gA66 _ hi, sV5 s 5 (show 66 ≠ 15 by omega), z2, if_pos (nI_pos' (show m < 2 ^ 31 by omega)), if_neg en, qO_60, if_true, p6_find (x := 5) _ 5 rfl (by omega)]
  subst hmn
  have hlm : m ≤ lm i := by rw [lm_r hi]; omega
  have z3 : ∀ k, k < m → sV s (lc i + 1) k = sV s 67 (40 * i + k) := z3
  cases hM : isM s m i with
  | false =>
    refine ⟨-3, fnd5 s 3, fnd6 (tri (fnd5 s 3) m i m) 3, ?_, ?_, Inv_S (cS_f6 (tri_S (fnd5 s 3) m i m) 3) (inv_find hI 3)⟩
    · simp only [f_X5_none, gR_0_0, Option.bind_some, p5_rowAt s hi rfl, reduceCtorEq, if_false, qO_0, if_true, rf_ok hF hn hi10 z1, p5_isMap hF hT hi10 z1 hlm, hM, Bool.false_eq_true, p5_find (x := 3) s 3 rfl (by omega) (by omega)]
    · have el : lc i + 1 ≠ 15 := by unfold lc; omega
      simp only [f_X6_none, isRow_yes hi, Option.bind_some, n10, if_false, gI_60_1, (InvF_5 3 hF).2.1, n_eq0 h6, hn, gR_60_7, gA66 _ hi, sV5 s 3 (show 66 ≠ 15 by omega), z2, if_pos (nI_pos' (show m < 2 ^ 31 by omega)), qO_60, if_true, p6_isMap (InvF_5 3 hF) (InvS_5 3 hS) hi (fun k hk => by rw [sV5 s 3 el, sV5 s 3 (by omega)]; exact z3 k hk), isM_5 s m hi10, hM, Bool.false_eq_true, p6_find (x := 3) _ 3 rfl (by omega)]
  | true =>
    have hmo : mo m (sV s (lc i + 1)) m 0 0 = some (vset s m) := by unfold isM at hM; exact of_decide_eq_true hM
    have hW := mo_all h6 hmo
    have l5 : jloop (f_X5_none_b44 (some 0) (some (lc i))) jfuel 0 (HP s) = _ := p5_nn hF hT hi10 z1 hlm hW m jfuel 0 (by omega) (by unfold jfuel; omega)
    have l6 : jloop (f_X6_none_b71 (some 60)) jfuel (1, 0) (HP (tri s m i m)) = _ := p6_nn (W := sV s (lc i + 1)) (InvF_S (tri_S s m i m) hF) (fun p hp => by
      rw [tri_V s m i m p hp, ← z3 p hp]
      rcases hW p hp with h | ⟨k, hk, h⟩
      · exact Or.inl ⟨h, by rw [if_pos h]⟩
      · exact Or.inr ⟨k, hk, h, by rw [h, if_neg (nI_n9 (by omega))]⟩) m jfuel 0 true (by omega) (by unfold jfuel; omega)
    rw [nn_S (tri_S s m i m)] at l6
    refine ⟨if nn s m (sV s (lc i + 1)) m 0 then 1 else 0, s, tri s m i m, ?_, ?_, Inv_S (tri_S s m i m) hI⟩
    · simp only [f_X5_none, gR_0_0, Option.bind_some, p5_rowAt s hi rfl, reduceCtorEq, if_false, qO_0, if_true, rf_ok hF hn hi10 z1, p5_isMap hF hT hi10 z1 hlm, hM, n10, l5]
      cases nn s m (sV s (lc i + 1)) m 0 <;> rfl
    · simp only [f_X6_none, isRow_yes hi, Option.bind_some, n10, if_false, gI_60_1, hF.2.1, n_eq0 h6, hn, gR_60_7, gA66 _ hi, z2, if_pos (nI_pos' (show m < 2 ^ 31 by omega)), qO_60, if_true, p6_isMap hF hS hi z3, hM, l6, Bool.true_and]
      cases nn s m (sV s (lc i + 1)) m 0 <;> rfl
