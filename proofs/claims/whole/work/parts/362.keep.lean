/-! ===== keep, on ===== -/
def IsT (c : Nat) : Prop := c = 5 ∨ c = 48 ∨ c = 52 ∨ c = 56
theorem tw_q (s : ST) {c : Nat} (h : IsT c) : qO (HP s) (some c) 4 = true := by rcases h with rfl | rfl | rfl | rfl <;> rfl
theorem tw_0 (s : ST) {c : Nat} (h : IsT c) : gR (HP s) (some c) 4 0 = some (some (c + 1)) := by rcases h with rfl | rfl | rfl | rfl <;> rfl
theorem tw_1 (s : ST) {c : Nat} (h : IsT c) : gR (HP s) (some c) 4 1 = some (some (c + 2)) := by rcases h with rfl | rfl | rfl | rfl <;> rfl
theorem tw_2 (s : ST) {c : Nat} (h : IsT c) : gR (HP s) (some c) 4 2 = some (some (c + 3)) := by rcases h with rfl | rfl | rfl | rfl <;> rfl
theorem tw_3 (s : ST) {c : Nat} (h : IsT c) : gI (HP s) (some c) 4 3 = some (sI s (32 * c + 3)) := by rcases h with rfl | rfl | rfl | rfl <;> rfl
theorem tw_4 (s : ST) {c : Nat} (h : IsT c) : gI (HP s) (some c) 4 4 = some (sI s (32 * c + 4)) := by rcases h with rfl | rfl | rfl | rfl <;> rfl
theorem tw_s3 (s : ST) {c : Nat} (h : IsT c) (v : Int32) : sF (HP s) (some c) 4 3 (.inl v) = some (HP (uI s (32 * c + 3) v)) := by rcases h with rfl | rfl | rfl | rfl <;> rfl
theorem tw_s4 (s : ST) {c : Nat} (h : IsT c) (v : Int32) : sF (HP s) (some c) 4 4 (.inl v) = some (HP (uI s (32 * c + 4) v)) := by rcases h with rfl | rfl | rfl | rfl <;> rfl
theorem tw_len {c i : Nat} (h : IsT c) (h1 : 1 ≤ i) (h2 : i ≤ 3) : hLen (c + i) = 246 := by
  have : i = 1 ∨ i = 2 ∨ i = 3 := by omega
  rcases h with rfl | rfl | rfl | rfl <;> rcases this with rfl | rfl | rfl <;> rfl
def tk (s : ST) (c c' : Nat) : ST := cpS (cpS (cpS (uI s (32 * c' + 3) (sI s (32 * c + 3))) (c + 1) 0 (c' + 1) 0 246) (c + 2) 0 (c' + 2) 0 246) (c + 3) 0 (c' + 3) 0 246
theorem p4_take (s : ST) {c c' : Nat} (h : IsT c) (h' : IsT c') : f_X4_take (some c') (some c) (HP s) = some ((), HP (tk s c c')) := by
  have cc : ∀ (s' : ST) (i : Nat), 1 ≤ i → i ≤ 3 → cA (HP s') (some (c + i)) 0 (some (c' + i)) 0 246 = some (HP (cpS s' (c + i) 0 (c' + i) 0 246)) := fun s' i h1 h2 => HP_cA s' (k := c + i) (k' := c' + i) (sp := 0) (dp := 0) (n := 246) (by rw [tw_len h h1 h2]; omega) (by rw [tw_len h' h1 h2]; omega) (by rw [tw_len h h1 h2]; omega) (by rw [tw_len h' h1 h2]; omega) (by omega)
  simp only [f_X4_take, tw_3 s h, Option.bind_some, tw_s3 s h', tw_0 _ h, tw_0 _ h', tw_1 _ h, tw_1 _ h', tw_2 _ h, tw_2 _ h', cc _ 1 (by omega) (by omega), cc _ 2 (by omega) (by omega), cc _ 3 (by omega) (by omega), tk]
theorem tk_V {s : ST} {c c' : Nat} (h : IsT c) (h' : IsT c') (hne : c ≠ c') {i j : Nat} (h1 : 1 ≤ i) (h2 : i ≤ 3) (hj : j < 246) : sV (tk s c c') (c' + i) j = sV s (c + i) j := by
  unfold IsT at h h'
  have : i = 1 ∨ i = 2 ∨ i = 3 := by omega
  unfold tk
  rcases this with rfl | rfl | rfl
  · rw [sV_cpS, if_neg (by omega), sV_cpS, if_neg (by omega), sV_cpS, if_pos rfl, if_pos (by omega), sV_uI, show 0 + (j - 0) = j by omega]
  · rw [sV_cpS, if_neg (by omega), sV_cpS, if_pos rfl, if_pos (by omega), sV_cpSne (by omega), sV_uI, show 0 + (j - 0) = j by omega]
  · rw [sV_cpS, if_pos rfl, if_pos (by omega), sV_cpSne (by omega), sV_cpSne (by omega), sV_uI, show 0 + (j - 0) = j by omega]
theorem tk_Vne {s : ST} {c c' a : Nat} (h : a < c' + 1 ∨ c' + 3 < a) : sV (tk s c c') a = sV s a := by
  unfold tk
  rw [sV_cpSne (by omega), sV_cpSne (by omega), sV_cpSne (by omega), sV_uI]
theorem tk_I (s : ST) (c c' k : Nat) : sI (tk s c c') k = if k = 32 * c' + 3 then sI s (32 * c + 3) else sI s k := rfl
theorem tk_N (s : ST) {c c' : Nat} (h' : IsT c') : SameN s (tk s c c') := by
  unfold IsT at h'
  exact (SameN.uI (by unfold TwI; omega)).trans ((SameN.cp (by unfold TwA; omega)).trans ((SameN.cp (by unfold TwA; omega)).trans (SameN.cp (by unfold TwA; omega))))
theorem p6_copyTown (s : ST) {a b : Nat} (h : a + 780 ≤ b ∨ b + 780 ≤ a) (ha : a + 780 ≤ 3120) (hb : b + 780 ≤ 3120) {x y : Int32} (hx : x = nI a) (hy : y = nI b) : f_X6_copyTown (some 60) x y (HP s) = some ((), HP (cpS s 61 a 61 b 780)) := by
  subst hx hy
  have l : jloop (f_X6_copyTown_b2 (some 60) (nI a) (nI b)) jfuel (nI 0) (HP (cpS s 61 a 61 b 0)) = some (.inr ((), HP (cpS s 61 a 61 b 780))) := by
    refine jseq (n := 780) (fun j => nI j) (fun j => HP (cpS s 61 a 61 b j)) ?_ (fun j hj => ?_) 780 jfuel 0 (by omega) (by unfold jfuel; omega)
    · simp only [f_X6_copyTown_b2, if_pos (show (780 : Int32) ≤ nI 780 by decide)]
    · simp only [f_X6_copyTown_b2, if_neg (show ¬ (780 : Int32) ≤ nI j from nI_ge (b := 780) hj (by omega)), gR_60_0, Option.bind_some, nI_add, g61 _ (show a + j < 3120 by omega), s61 _ (show b + j < 3120 by omega), nI_1, cpS_1 s (k := 61) (a := a) (b := b) (m := j) (by omega)]
  rw [cpS_0] at l
  have l : jloop (f_X6_copyTown_b2 (some 60) (nI a) (nI b)) jfuel 0 (HP s) = _ := l
  simp only [f_X6_copyTown, l, Option.bind_some]
theorem e780' (k : Nat) : 780 * (1 + nI k) = nI (780 * (1 + k)) := by have := e780 k; rwa [Int32.add_zero] at this
theorem p5_shelf (s : ST) {k : Nat} (h : k < 3) : f_X5_shelfAt (some 0) (nI k) (HP s) = some (some (48 + 4 * k), HP s) := by
  simp only [f_X5_shelfAt, if_neg (nI_pos (show k < 2 ^ 31 by omega)), gR_0_4, Option.bind_some, lA_9, if_neg (nI_ge h (show 3 < 2 ^ 31 by omega)), gE_9 s h]
theorem p5_shelfNo (s : ST) {x : Int32} (h : x < 0 ∨ nI 3 ≤ x) : f_X5_shelfAt (some 0) x (HP s) = some (none, HP s) := by
  by_cases h0 : x < 0
  · simp only [f_X5_shelfAt, if_pos h0]
  · simp only [f_X5_shelfAt, if_neg h0, gR_0_4, Option.bind_some, lA_9, if_pos (h.resolve_left h0)]
theorem in2_no {x : Int32} (h : x < 0 ∨ nI 3 ≤ x) (ah : AH) : f_X6_in (Int32.toInt64 x) 0 2 ah = some (0, ah) := by
  have : ¬ (0 ≤ x.toInt ∧ x.toInt ≤ 2) := by
    rcases h with h | h
    · have := toInt_neg h; omega
    · have := toInt_ge (by omega) h; omega
  rw [p6_inI]
  exact congrArg (fun z => some (z, ah)) (if_neg this)
theorem in2_yes {k : Nat} (h : k < 3) (ah : AH) : f_X6_in (Int32.toInt64 (nI k)) 0 2 ah = some (1, ah) := by
  have : 0 ≤ (nI k).toInt ∧ (nI k).toInt ≤ 2 := by rw [nI_toInt (by omega)]; omega
  rw [p6_inI]
  exact congrArg (fun z => some (z, ah)) (if_pos this)
theorem ist_k {k : Nat} (h : k < 3) : IsT (48 + 4 * k) := by unfold IsT; omega
theorem ag_keep {s : ST} (hI : Inv s) (a0 : Int32) : ∃ (v : Int32) (s1 s2 : ST), f_X5_keep (some 0) a0 (HP s) = some (v, HP s1) ∧ f_X6_keep (some 60) a0 (HP s1) = some (v, HP s2) ∧ Inv s2 := by
  obtain ⟨n, hF, hT, hK⟩ := hI.1
  have h6 := hF.le
  obtain ⟨t, ht, hs, hs0, hS, hP⟩ := hT.t
  have g0 : ∀ s' : ST, gA (HP s') (some 61) 0 = some (sV s' 61 0) := fun s' => g61 s' (k := 0) (by omega)
  rcases ix_n a0 (n := 3) (by omega) with h | ⟨k, hk, rfl⟩
  · refine ⟨-1, s, s, ?_, ?_, hI⟩
    · simp only [f_X5_keep, qO_0, if_true, p5_shelfNo s h, Option.bind_some]
    · simp only [f_X6_keep, in2_no h, Option.bind_some, if_true]
  by_cases hn : n = 0
  · subst hn
    refine ⟨-4, s, s, ?_, ?_, hI⟩
    · simp only [f_X5_keep, qO_0, if_true, p5_shelf s hk, Option.bind_some, reduceCtorEq, if_false, gR_0_8, fk_n, hF.2.2.1]
      rfl
    · simp only [f_X6_keep, in2_yes hk, Option.bind_some, n10, if_false, gI_60_1, hF.2.1]
      rfl
  have hk4 := ist_k hk
  have h5 : IsT 5 := Or.inl rfl
  generalize hs1 : uI (tk s 5 (48 + 4 * k)) (32 * (48 + 4 * k) + 4) 1 = s1
  have v1 : ∀ a, sV s1 a = sV (tk s 5 (48 + 4 * k)) a := fun a => by rw [← hs1]; rfl
  have i1 : ∀ x, sI s1 x = if x = 32 * (48 + 4 * k) + 4 then 1 else if x = 32 * (48 + 4 * k) + 3 then sI s 163 else sI s x := fun x => by rw [← hs1]; rfl
  have N1 : SameN s s1 := by rw [← hs1]; exact (tk_N s hk4).trans (SameN.uI (by unfold TwI; omega))
  have v61 : sV s1 61 = sV s 61 := by rw [v1, tk_Vne (by omega)]
  generalize hs2 : cpS s1 61 0 61 (780 * (1 + k)) 780 = s2
  have w61 : ∀ j, sV s2 61 j = if 780 * (1 + k) ≤ j ∧ j < 780 * (1 + k) + 780 then sV s 61 (0 + (j - 780 * (1 + k))) else sV s 61 j := fun j => by rw [← hs2, sV_cpS, if_pos rfl, v61]
  have w1 : ∀ a, a ≠ 61 → sV s2 a = sV (tk s 5 (48 + 4 * k)) a := fun a ha => by rw [← hs2, sV_cpSne ha, v1]
  have i2 : sI s2 = sI s1 := by rw [← hs2]; rfl
  have N2 : SameN s s2 := by rw [← hs2]; exact N1.trans (SameN.cp (by unfold TwA; omega))
  have e63 := s63_N N2
  refine ⟨nI t, s1, s2, ?_, ?_, ⟨⟨n, InvF_N N2 hF, ?_, fun k' hk' => ?_⟩, InvR_N N2 hI.2.1, InvM_N N2 hI.2.2⟩⟩
  · have e3 : sI s1 163 = nI t := by rw [i1, if_neg (by omega), if_neg (by omega), hs]
    simp only [f_X5_keep, qO_0, if_true, p5_shelf s hk, Option.bind_some, reduceCtorEq, if_false, gR_0_8, fk_n, hF.2.2.1, n_eq0 h6, hn, gR_0_3, tw_q s hk4, p4_take s h5 hk4, tw_s4 _ hk4, hs1, gI_5_3, e3]
  · have e0 : sV s2 61 0 = nI t := by rw [w61, if_neg (by omega), hs0]
    have hF1 := InvF_N N1 hF
    simp only [f_X6_keep, in2_yes hk, Option.bind_some, n10, if_false, gI_60_1, hF1.2.1, n_eq0 h6, hn, qO_60, if_true, p6_copyTown s1 (a := 0) (b := 780 * (1 + k)) (by omega) (by omega) (by omega) (show (0 : Int32) = nI 0 from rfl) (e780' k), hs2, gR_60_0, g0, e0]
  · exact InvT_of h6 hT (by rw [i2, i1, if_neg (by omega), if_neg (by omega)]) (fun j _ => by rw [w1 _ (by omega), tk_Vne (by omega)]) (fun j _ => by rw [w1 _ (by omega), tk_Vne (by omega)]) (fun j _ => by rw [w1 _ (by omega), tk_Vne (by omega)]) (fun j hj => by rw [w61, if_neg (by omega)]) e63
  · by_cases e : k' = k
    · subst e
      refine Or.inr ⟨by rw [i2, i1, if_pos rfl], InvT_of h6 hT (by rw [i2, i1, if_neg (by omega), if_pos rfl]) (fun j hj => ?_) (fun j hj => ?_) (fun j hj => ?_) (fun j hj => ?_) e63⟩
      · rw [w1 _ (by omega), tk_V h5 hk4 (by omega) (by omega) (by omega) hj]
      · rw [w1 _ (by omega), tk_V h5 hk4 (by omega) (by omega) (by omega) hj]
      · rw [w1 _ (by omega), tk_V h5 hk4 (by omega) (by omega) (by omega) hj]
      · rw [w61, if_pos (by omega), show 0 + (780 * (1 + k') + j - 780 * (1 + k')) = 0 + j by omega]
    · have q4 : sI s2 (32 * (48 + 4 * k') + 4) = sI s (32 * (48 + 4 * k') + 4) := by rw [i2, i1, if_neg (by omega), if_neg (by omega)]
      have q0 : ∀ j, j < 780 → sV s2 61 (780 * (1 + k') + j) = sV s 61 (780 * (1 + k') + j) := fun j hj => by rw [w61, if_neg (by omega)]
      have q00 : sV s2 61 (780 * (1 + k')) = sV s 61 (780 * (1 + k')) := q0 0 (by omega)
      rw [q4, q00]
      rcases hK k' hk' with h | ⟨h, hT'⟩
      · exact Or.inl h
      · exact Or.inr ⟨h, InvT_of h6 hT' (by rw [i2, i1, if_neg (by omega), if_neg (by omega)]) (fun j _ => by rw [w1 _ (by omega), tk_Vne (by omega)]) (fun j _ => by rw [w1 _ (by omega), tk_Vne (by omega)]) (fun j _ => by rw [w1 _ (by omega), tk_Vne (by omega)]) q0 e63⟩
theorem ag_on {s : ST} (hI : Inv s) (a0 : Int32) : ∃ (v : Int32) (s1 s2 : ST), f_X5_on (some 0) a0 (HP s) = some (v, HP s1) ∧ f_X6_on (some 60) a0 (HP s1) = some (v, HP s2) ∧ Inv s2 := by
  obtain ⟨n, hF, hT, hK⟩ := hI.1
  have h6 := hF.le
  have g0 : ∀ s' : ST, gA (HP s') (some 61) 0 = some (sV s' 61 0) := fun s' => g61 s' (k := 0) (by omega)
  rcases ix_n a0 (n := 3) (by omega) with h | ⟨k, hk, rfl⟩
  · refine ⟨-1, s, s, ?_, ?_, hI⟩
    · simp only [f_X5_on, qO_0, if_true, p5_shelfNo s h, Option.bind_some]
    · simp only [f_X6_on, in2_no h, Option.bind_some, if_true]
  have hk4 := ist_k hk
  have h5 : IsT 5 := Or.inl rfl
  have g7 : ∀ s' : ST, gA (HP s') (some 61) (nI (780 * (1 + k))) = some (sV s' 61 (780 * (1 + k))) := fun s' => g61 s' (by omega)
  rcases hK k hk with ⟨k1, k2⟩ | ⟨k1, hTk⟩
  · refine ⟨-3, fnd5 s 1, fnd6 (fnd5 s 1) 1, ?_, ?_, inv_find hI 1⟩
    · simp only [f_X5_on, qO_0, if_true, p5_shelf s hk, Option.bind_some, reduceCtorEq, if_false, tw_4 s hk4, k1, p5_find (x := 1) s 1 rfl (by omega) (by omega)]
    · simp only [f_X6_on, in2_yes hk, Option.bind_some, n10, if_false, gR_60_0, e780, g7, sV5 s 1 (show 61 ≠ 15 by omega), k2, if_neg (show ¬ (0 : Int32) ≤ -1 by decide), qO_60, if_true, p6_find (x := 1) _ 1 rfl (by omega)]
  obtain ⟨t, ht, hs, hs0, -, -⟩ := hTk
  have hTk := (hK k hk).resolve_left (fun z => by rw [k1] at z; exact absurd z.1 (by decide))
  generalize hs1 : tk s (48 + 4 * k) 5 = s1
  have i1 : ∀ x, sI s1 x = if x = 163 then sI s (32 * (48 + 4 * k) + 3) else sI s x := fun x => by rw [← hs1]; rfl
  have N1 : SameN s s1 := by rw [← hs1]; exact tk_N s h5
  have v61 : sV s1 61 = sV s 61 := by rw [← hs1, tk_Vne (by omega)]
  generalize hs2 : cpS s1 61 (780 * (1 + k)) 61 0 780 = s2
  have w61 : ∀ j, sV s2 61 j = if 0 ≤ j ∧ j < 0 + 780 then sV s 61 (780 * (1 + k) + (j - 0)) else sV s 61 j := fun j => by rw [← hs2, sV_cpS, if_pos rfl, v61]
  have w1 : ∀ a, a ≠ 61 → sV s2 a = sV (tk s (48 + 4 * k) 5) a := fun a ha => by rw [← hs2, sV_cpSne ha, ← hs1]
  have i2 : sI s2 = sI s1 := by rw [← hs2]; rfl
  have N2 : SameN s s2 := by rw [← hs2]; exact N1.trans (SameN.cp (by unfold TwA; omega))
  have e63 := s63_N N2
  refine ⟨nI t, s1, s2, ?_, ?_, ⟨⟨n, InvF_N N2 hF, ?_, ?_⟩, InvR_N N2 hI.2.1, InvM_N N2 hI.2.2⟩⟩
  · have e3 : sI s1 163 = nI t := by rw [i1, if_pos rfl, hs]
    simp only [f_X5_on, qO_0, if_true, p5_shelf s hk, Option.bind_some, reduceCtorEq, if_false, tw_4 s hk4, k1, n10, gR_0_3, qO_5, p4_take s hk4 h5, hs1, gI_5_3, e3]
  · have e0 : sV s2 61 0 = nI t := by rw [w61, if_pos (by omega)]; exact hs0
    simp only [f_X6_on, in2_yes hk, Option.bind_some, n10, if_false, gR_60_0, e780, g7, v61, hs0, if_pos (nI_pos' (show t < 2 ^ 31 by omega)), qO_60, if_true, p6_copyTown s1 (a := 780 * (1 + k)) (b := 0) (by omega) (by omega) (by omega) (e780' k) (show (0 : Int32) = nI 0 from rfl), hs2, g0, e0]
  · exact InvT_of h6 hTk.2 (by rw [i2, i1, if_pos rfl]) (fun j hj => by rw [w1 _ (by omega), tk_V hk4 h5 (by omega) (by omega) (by omega) hj]) (fun j hj => by rw [w1 _ (by omega), tk_V hk4 h5 (by omega) (by omega) (by omega) hj]) (fun j hj => by rw [w1 _ (by omega), tk_V hk4 h5 (by omega) (by omega) (by omega) hj]) (fun j hj => by rw [w61, if_pos (by omega), show 0 + j - 0 = j by omega]) e63
  · exact InvK_of h6 hK (fun a b1 b2 => by rw [w1 a (by omega), tk_Vne (by omega)]) (fun x b1 b2 => by rw [i2, i1, if_neg (by omega)]) (fun j hj => by rw [w61, if_neg (by omega)]) e63
