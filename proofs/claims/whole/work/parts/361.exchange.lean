/-! ===== exchange, undo ===== -/
theorem bgn_N (s : ST) (t : Nat) : SameN s (bgn s t) := (((SameN.cp (by unfold TwA; omega)).trans (SameN.cp (by unfold TwA; omega))).trans (SameN.cp (by unfold TwA; omega))).trans (SameN.uI (by unfold TwI; omega))
theorem pst_N (s : ST) (t : Nat) : SameN s (pst s t) := (SameN.cp (by unfold TwA; omega)).trans (SameN.uV (by unfold TwA; omega))
theorem bgn_V (s : ST) (t : Nat) {a : Nat} (h1 : 6 ≤ a) (h2 : a ≤ 8) (j : Nat) : sV (bgn s t) a j = if 6 * t + 6 ≤ j ∧ j < 6 * t + 6 + 6 then sV s a (6 * t + (j - (6 * t + 6))) else sV s a j := by
  unfold bgn
  rw [sV_uI, sV_cpS, sV_cpS, sV_cpS]
  have : a = 6 ∨ a = 7 ∨ a = 8 := by omega
  rcases this with rfl | rfl | rfl
  · simp [sV_cpS]
  · simp [sV_cpS]
  · simp [sV_cpS]
theorem bgn_Vne (s : ST) (t : Nat) {a : Nat} (h : a < 6 ∨ 8 < a) : sV (bgn s t) a = sV s a := by
  unfold bgn
  rw [sV_uI, sV_cpSne (by omega), sV_cpSne (by omega), sV_cpSne (by omega)]
theorem bgn_163 (s : ST) (t : Nat) : sI (bgn s t) 163 = nI (t + 1) := rfl
theorem bgn_I (s : ST) (t : Nat) {k : Nat} (h : k ≠ 163) : sI (bgn s t) k = sI s k := by
  unfold bgn
  rw [sI_uI, if_neg h]
  rfl
theorem pst_V (s : ST) (t j : Nat) : sV (pst s t) 61 j = if j = 0 then nI (t + 1) else if 20 + 19 * t ≤ j ∧ j < 20 + 19 * t + 19 then sV s 61 (1 + (j - (20 + 19 * t))) else sV s 61 j := by
  unfold pst
  rw [sV_uV, if_pos rfl, sV_cpS, if_pos rfl]
theorem pst_Vne (s : ST) (t : Nat) {a : Nat} (h : a ≠ 61) : sV (pst s t) a = sV s a := by
  unfold pst
  rw [sV_uVne h, sV_cpSne h]
theorem inv_exch {s : ST} (hI : Inv s) {n t p q : Nat} (hF : InvF s n) (ht : t < 40) (hs0 : sV s 61 0 = nI t) (hS : InvS s n 6 7 8 t 1) (hP : ∀ u, u < t → InvS s n 6 7 8 u (20 + 19 * u)) (hK : InvK s n) (hp : p < n) (hq : q < n) (hpq : p ≠ q) (n1 : ¬ sV s 61 (1 + p) = nI q) (n2 : ¬ sV s 61 (1 + q) = nI p) : Inv (uV (uV (pst (uV (uV (bgn s t) 6 (6 * (t + 1) + p) (sV s 61 (1 + q))) 6 (6 * (t + 1) + q) (sV s 61 (1 + p))) t) 61 (1 + p) (sV s 61 (1 + q))) 61 (1 + q) (sV s 61 (1 + p))) := by
  have h6 := hF.le
  obtain ⟨a1, a2, a3, a4, a5, r, r1, r2, r3⟩ := hS
  generalize hs1 : uV (uV (bgn s t) 6 (6 * (t + 1) + p) (sV s 61 (1 + q))) 6 (6 * (t + 1) + q) (sV s 61 (1 + p)) = s1
  have v6 : ∀ j, sV s1 6 j = if j = 6 * (t + 1) + q then sV s 61 (1 + p) else if j = 6 * (t + 1) + p then sV s 61 (1 + q) else sV (bgn s t) 6 j := fun j => by rw [← hs1, sV_uV, if_pos rfl, sV_uV, if_pos rfl]
  have v1 : ∀ a, a ≠ 6 → sV s1 a = sV (bgn s t) a := fun a ha => by rw [← hs1, sV_uVne ha, sV_uVne ha]
  have i1 : sI s1 = sI (bgn s t) := by rw [← hs1]; rfl
  have N1 : SameN s s1 := by rw [← hs1]; exact (bgn_N s t).trans ((SameN.uV (by unfold TwA; omega)).trans (SameN.uV (by unfold TwA; omega)))
  have v61 : sV s1 61 = sV s 61 := by rw [v1 61 (by omega), bgn_Vne s t (by omega)]
  generalize hs2 : uV (uV (pst s1 t) 61 (1 + p) (sV s 61 (1 + q))) 61 (1 + q) (sV s 61 (1 + p)) = s2
  have w61 : ∀ j, sV s2 61 j = if j = 1 + q then sV s 61 (1 + p) else if j = 1 + p then sV s 61 (1 + q) else sV (pst s1 t) 61 j := fun j => by rw [← hs2, sV_uV, if_pos rfl, sV_uV, if_pos rfl]
  have w1 : ∀ a, a ≠ 61 → sV s2 a = sV s1 a := fun a ha => by rw [← hs2, sV_uVne ha, sV_uVne ha, pst_Vne s1 t ha]
  have i2 : sI s2 = sI s1 := by rw [← hs2]; rfl
  have N2 : SameN s s2 := by rw [← hs2]; exact N1.trans ((pst_N s1 t).trans ((SameN.uV (by unfold TwA; omega)).trans (SameN.uV (by unfold TwA; omega))))
  have lo : ∀ k, 1 ≤ k → k < 20 → k ≠ 1 + p → k ≠ 1 + q → sV s2 61 k = sV s 61 k := fun k b1 b2 b3 b4 => by rw [w61, if_neg b4, if_neg b3, pst_V, if_neg (by omega), if_neg (by omega), v61]
  have now6 : ∀ x, x < 6 → x ≠ p → x ≠ q → sV s2 6 (6 * (t + 1) + x) = sV s 6 (6 * t + x) := fun x hx b1 b2 => by rw [w1 6 (by omega), v6, if_neg (by omega), if_neg (by omega), bgn_V s t (by omega) (by omega), if_pos (by omega), show 6 * t + (6 * (t + 1) + x - (6 * t + 6)) = 6 * t + x by omega]
  have cp6 : sV s2 6 (6 * (t + 1) + p) = sV s 61 (1 + q) := by rw [w1 6 (by omega), v6, if_neg (by omega), if_pos rfl]
  have cq6 : sV s2 6 (6 * (t + 1) + q) = sV s 61 (1 + p) := by rw [w1 6 (by omega), v6, if_pos rfl]
  have rp : sV s2 61 (1 + p) = sV s 61 (1 + q) := by rw [w61, if_neg (by omega), if_pos rfl]
  have rq : sV s2 61 (1 + q) = sV s 61 (1 + p) := by rw [w61, if_pos rfl]
  have now78 : ∀ a, a = 7 ∨ a = 8 → ∀ x, x < 6 → sV s2 a (6 * (t + 1) + x) = sV s a (6 * t + x) := fun a ha x hx => by rw [w1 a (by omega), v1 a (by omega), bgn_V s t (by omega) (by omega), if_pos (by omega), show 6 * t + (6 * (t + 1) + x - (6 * t + 6)) = 6 * t + x by omega]
  have e63 := s63_N N2
  have vp : ∀ x, x < n → (x = p → sV s2 61 (1 + x) = sV s 61 (1 + q)) ∧ (x = q → sV s2 61 (1 + x) = sV s 61 (1 + p)) ∧ (x ≠ p → x ≠ q → sV s2 61 (1 + x) = sV s 61 (1 + x)) := fun x hx => ⟨fun e => by rw [e, rp], fun e => by rw [e, rq], fun e1 e2 => lo (1 + x) (by omega) (by omega) (by omega) (by omega)⟩
  refine inv_turn hF ht ⟨a1, a2, a3, a4, a5, r, r1, r2, r3⟩ hP hK hI.2.1 hI.2.2 N2 ?_ ?_ ?_ ?_ ?_ ?_ ?_ ?_
  · rw [i2, i1, bgn_163]
  · rw [w61, if_neg (by omega), if_neg (by omega), pst_V, if_pos rfl]
  · intro a b1 b2 j hj
    rw [w1 a (by omega)]
    by_cases e : a = 6
    · subst e
      rw [v6, if_neg (by omega), if_neg (by omega), bgn_V s t (by omega) (by omega), if_neg (by omega)]
    · rw [v1 a e, bgn_V s t b1 b2, if_neg (by omega)]
  · intro k hk
    rw [w61, if_neg (by omega), if_neg (by omega), pst_V, if_neg (by omega), if_pos (by omega), v61, show 1 + (20 + 19 * t + k - (20 + 19 * t)) = 1 + k by omega]
  · intro j b1 b2
    rw [w61, if_neg (by omega), if_neg (by omega), pst_V, if_neg (by omega), if_neg (by omega), v61]
  · intro k b1 b2
    rw [w1 k (by omega), v1 k (by omega), bgn_Vne s t (by omega)]
  · intro k b1 b2
    rw [i2, i1, bgn_I s t (by omega)]
  · refine ⟨fun x hx => ?_, fun x b1 b2 => ?_, fun x y hx hy h hne => ?_, fun x hx => ?_, fun x hx => ?_, r, r1, ?_, fun x hx => ?_⟩
    · by_cases e1 : x = p
      · subst e1
        refine ⟨by rw [cp6, rp], ?_⟩
        rw [rp]
        rcases (a1 q hq).2 with h | ⟨k, hk, hkq, h⟩
        · exact Or.inl h
        · exact Or.inr ⟨k, hk, fun e => n2 (by rw [h, e]), h⟩
      · by_cases e2 : x = q
        · subst e2
          refine ⟨by rw [cq6, rq], ?_⟩
          rw [rq]
          rcases (a1 p hp).2 with h | ⟨k, hk, hkq, h⟩
          · exact Or.inl h
          · exact Or.inr ⟨k, hk, fun e => n1 (by rw [h, e]), h⟩
        · rw [now6 x (by omega) e1 e2, (vp x hx).2.2 e1 e2]
          exact a1 x hx
    · rw [now6 x b2 (by omega) (by omega)]
      exact a2 x b1 b2
    · by_cases x1 : x = p
      · by_cases y1 : y = p
        · rw [x1, y1]
        · exfalso
          rw [(vp x hx).1 x1] at h hne
          by_cases y2 : y = q
          · rw [(vp y hy).2.1 y2] at h
            exact hpq (a3 q p hq hp h hne).symm
          · rw [(vp y hy).2.2 y1 y2] at h
            exact y2 (a3 q y hq hy h hne).symm
      · by_cases x2 : x = q
        · by_cases y2 : y = q
          · rw [x2, y2]
          · exfalso
            rw [(vp x hx).2.1 x2] at h hne
            by_cases y1 : y = p
            · rw [(vp y hy).1 y1] at h
              exact hpq (a3 p q hp hq h hne)
            · rw [(vp y hy).2.2 y1 y2] at h
              exact y1 (a3 p y hp hy h hne).symm
        · rw [(vp x hx).2.2 x1 x2] at h hne
          by_cases y1 : y = p
          · exfalso
            rw [(vp y hy).1 y1] at h
            exact x2 (a3 x q hx hq h hne)
          · by_cases y2 : y = q
            · exfalso
              rw [(vp y hy).2.1 y2] at h
              exact x1 (a3 x p hx hp h hne)
            · rw [(vp y hy).2.2 y1 y2] at h
              exact a3 x y hx hy h hne
    · rw [now78 7 (by omega) x (by omega), lo (1 + 6 + x) (by omega) (by omega) (by omega) (by omega)]
      exact a4 x hx
    · rw [now78 8 (by omega) x (by omega), lo (1 + 12 + x) (by omega) (by omega) (by omega) (by omega)]
      exact a5 x hx
    · rw [lo (1 + 18) (by omega) (by omega) (by omega) (by omega)]
      exact r2
    · rw [e63, lo (1 + 6 + x) (by omega) (by omega) (by omega) (by omega)]
      exact r3 x hx
theorem ag_exchange {s : ST} (hI : Inv s) (a0 a1 : Int32) : ∃ (v : Int32) (s1 s2 : ST), f_X5_exchange (some 0) a0 a1 (HP s) = some (v, HP s1) ∧ f_X6_exchange (some 60) a0 a1 (HP s1) = some (v, HP s2) ∧ Inv s2 := by
  obtain ⟨n, hF, hT, hK⟩ := hI.1
  have h6 := hF.le
  obtain ⟨t, ht, hs, hs0, hS, hP⟩ := hT.t
  have g0 : ∀ s' : ST, gA (HP s') (some 61) 0 = some (sV s' 61 0) := fun s' => g61 s' (k := 0) (by omega)
  rcases two_cases hF a0 a1 with ⟨p, q, hp, hq, hpq, rfl, rfl, e1, e2⟩ | ⟨e1, e2⟩
  · have ep : sV s 6 (6 * t + p) = sV s 61 (1 + p) := (hS.1 p hp).1
    have eq : sV s 6 (6 * t + q) = sV s 61 (1 + q) := (hS.1 q hq).1
    by_cases n1 : sV s 61 (1 + p) = nI q
    · refine ⟨-4, s, s, ?_, ?_, hI⟩
      · simp only [f_X5_exchange, qO_0, if_true, e1, Option.bind_some, n10, if_false, gR_0_3, qO_5, p4_victimOf ht hs (show p < 6 by omega), p4_victimOf ht hs (show q < 6 by omega), ep, eq, n1]
      · simp only [f_X6_exchange, qO_60, if_true, e2, Option.bind_some, n10, if_false, p6_victim s (show p < 6 by omega), n1]
    by_cases n2 : sV s 61 (1 + q) = nI p
    · refine ⟨-4, s, s, ?_, ?_, hI⟩
      · simp only [f_X5_exchange, qO_0, if_true, e1, Option.bind_some, n10, if_false, gR_0_3, qO_5, p4_victimOf ht hs (show p < 6 by omega), p4_victimOf ht hs (show q < 6 by omega), ep, eq, n1, n2]
      · simp only [f_X6_exchange, qO_60, if_true, e2, Option.bind_some, n10, if_false, p6_victim s (show p < 6 by omega), p6_victim s (show q < 6 by omega), n1, n2]
    by_cases h40 : t = 40
    · subst h40
      refine ⟨-2, s, s, ?_, ?_, hI⟩
      · simp only [f_X5_exchange, qO_0, if_true, e1, Option.bind_some, n10, if_false, gR_0_3, qO_5, p4_victimOf ht hs (show p < 6 by omega), p4_victimOf ht hs (show q < 6 by omega), ep, eq, n1, n2, p4_begin40 hs]
      · simp only [f_X6_exchange, qO_60, if_true, e2, Option.bind_some, n10, if_false, p6_victim s (show p < 6 by omega), p6_victim s (show q < 6 by omega), n1, n2, gR_60_0, g0, hs0, if_pos (show nI 40 = 40 from rfl)]
    have ht' : t < 40 := by omega
    refine ⟨1, uV (uV (bgn s t) 6 (6 * (t + 1) + p) (sV s 61 (1 + q))) 6 (6 * (t + 1) + q) (sV s 61 (1 + p)), _, ?_, ?_, inv_exch hI hF ht' hs0 hS hP hK hp hq hpq n1 n2⟩
    · simp only [f_X5_exchange, qO_0, if_true, e1, Option.bind_some, n10, if_false, gR_0_3, qO_5, p4_victimOf ht hs (show p < 6 by omega), p4_victimOf ht hs (show q < 6 by omega), ep, eq, n1, n2, p4_begin ht' hs, p4_setVictim (s := bgn s t) (show t + 1 ≤ 40 by omega) rfl (show p < 6 by omega), p4_setVictim (s := uV (bgn s t) 6 (6 * (t + 1) + p) (sV s 61 (1 + q))) (show t + 1 ≤ 40 by omega) rfl (show q < 6 by omega)]
    · generalize hs1 : uV (uV (bgn s t) 6 (6 * (t + 1) + p) (sV s 61 (1 + q))) 6 (6 * (t + 1) + q) (sV s 61 (1 + p)) = s1
      have v61 : sV s1 61 = sV s 61 := by rw [← hs1, sV_uVne (by omega), sV_uVne (by omega), bgn_Vne s t (by omega)]
      have N1 : SameN s s1 := by rw [← hs1]; exact (bgn_N s t).trans ((SameN.uV (by unfold TwA; omega)).trans (SameN.uV (by unfold TwA; omega)))
      have hF1 := InvF_N N1 hF
      have e2' : f_X6_areTwo (some 60) (nI p) (nI q) (HP s1) = some (1, HP s1) := by
        rcases two_cases hF1 (nI p) (nI q) with ⟨_, _, _, _, _, _, _, -, z⟩ | ⟨z, -⟩
        · exact z
        · exfalso
          have hne : ¬ nI p = nI q := fun h => hpq ((nI_eq (by omega) (by omega)).mp h)
          simp only [f_X5_isPair, gR_0_8, Option.bind_some, fk_q, if_true, p1_hasT hF1 hp, p1_hasT hF1 hq, n10, if_false, if_neg hne] at z
          have := congrArg (fun o => o.map Prod.fst) z
          simp at this
      have b1 : sV (pst s1 t) 61 (1 + p) = sV s 61 (1 + p) := by rw [pst_V, if_neg (by omega), if_neg (by omega), v61]
      have b2 : sV (pst s1 t) 61 (1 + q) = sV s 61 (1 + q) := by rw [pst_V, if_neg (by omega), if_neg (by omega), v61]
      have h40' : ¬ nI t = 40 := fun z => h40 ((nI_eq (a := t) (b := 40) (by omega) (by omega)).mp z)
      simp only [f_X6_exchange, f_X6_change, qO_60, if_true, e2', Option.bind_some, n10, if_false, p6_victim s1 (show p < 6 by omega), p6_victim s1 (show q < 6 by omega), v61, n1, n2, gR_60_0, g0, hs0, if_neg h40', p6_past ht' (show sV s1 61 0 = nI t by rw [v61]; exact hs0), p6_victim (pst s1 t) (show p < 6 by omega), p6_victim (pst s1 t) (show q < 6 by omega), b1, b2, e1p, s61 _ (show 1 + p < 3120 by omega), s61 _ (show 1 + q < 3120 by omega)]
  · refine ⟨-1, s, s, ?_, ?_, hI⟩
    · simp only [f_X5_exchange, qO_0, if_true, e1, Option.bind_some]
    · simp only [f_X6_exchange, qO_60, if_true, e2, Option.bind_some]
/-! undo -/
theorem ag_undo {s : ST} (hI : Inv s) (a0 : Int32) : ∃ (v : Int32) (s1 s2 : ST), f_X5_undo (some 0) a0 (HP s) = some (v, HP s1) ∧ f_X6_undo (some 60) a0 (HP s1) = some (v, HP s2) ∧ Inv s2 := by
  obtain ⟨n, hF, hT, hK⟩ := hI.1
  have h6 := hF.le
  obtain ⟨t, ht, hs, hs0, hS, hP⟩ := hT.t
  have g0 : ∀ s' : ST, gA (HP s') (some 61) 0 = some (sV s' 61 0) := fun s' => g61 s' (k := 0) (by omega)
  have s0 : ∀ (s' : ST) v, sA (HP s') (some 61) 0 v = some (HP (uV s' 61 0 v)) := fun s' v => s61 s' (k := 0) (by omega) v
  have i6 : ∀ x ah, f_X6_in (Int32.toInt64 x) 0 (Int32.toInt64 (nI t)) ah = some (if 0 ≤ x.toInt ∧ x.toInt ≤ t then 1 else 0, ah) := fun x ah => by rw [p6_inI, Int32.toInt_toInt64, nI_toInt (by omega)]; rfl
  rcases ix_n a0 (n := t + 1) (by omega) with h | ⟨m, hm, rfl⟩
  · refine ⟨-1, s, s, ?_, ?_, hI⟩
    · by_cases h0 : a0 < 0
      · simp only [f_X5_undo, if_pos h0]
      · have h1 := toInt_ge (by omega) (h.resolve_left h0)
        have e2 : ¬ a0 ≤ nI t := fun q => by have := Int32.le_iff_toInt_le.mp q; rw [nI_toInt (by omega)] at this; omega
        simp only [f_X5_undo, if_neg h0, gR_0_3, Option.bind_some, gI_5_3, hs, if_neg e2]
    · have hn : ¬ (0 ≤ a0.toInt ∧ a0.toInt ≤ t) := by
        rcases h with h | h
        · have := toInt_neg h; omega
        · have := toInt_ge (by omega) h; omega
      simp only [f_X6_undo, gR_60_0, Option.bind_some, g0, hs0, i6, if_neg hn, if_true]
  · have hi : 0 ≤ (nI m).toInt ∧ (nI m).toInt ≤ t := by rw [nI_toInt (by omega)]; omega
    have es : nI t - nI m = nI (t - m) := pk_sub (by omega)
    have p5 : f_X5_undo (some 0) (nI m) (HP s) = some (nI (t - m), HP (uI s 163 (nI m))) := by
      simp only [f_X5_undo, f_X4_backTo, if_neg (nI_pos (show m < 2 ^ 31 by omega)), gR_0_3, Option.bind_some, gI_5_3, hs, if_pos (nI_le (show m ≤ t by omega) (show t < 2 ^ 31 by omega)), qO_5, if_true, sF_5_3, es]
    have hs0' : sV (uI s 163 (nI m)) 61 0 = nI t := hs0
    by_cases e : m = t
    · subst e
      refine ⟨nI (m - m), uI s 163 (nI m), uV (uI s 163 (nI m)) 61 0 (nI m), p5, ?_, ?_⟩
      · have l : jloop (f_X6_undo_b29 (some 60) (nI m) (nI (m - m))) jfuel 0 (HP (uI s 163 (nI m))) = some (.inr ((), HP (uI s 163 (nI m)))) := by
          rw [show m - m = 0 by omega]
          unfold jfuel
          rw [jloop]
          simp only [f_X6_undo_b29, if_neg (show ¬ (19 : Int32) ≤ 0 by decide), if_pos (show nI 0 ≤ 0 by decide)]
        simp only [f_X6_undo, f_X6_undo_j67, gR_60_0, Option.bind_some, g0, hs0', i6, if_pos hi, n10, if_false, es, l, s0]
      · have es : uV (uI s 163 (nI m)) 61 0 (nI m) = s := ST_ext (fun k => by
            show sI (uI s 163 (nI m)) k = sI s k
            rw [sI_uI]
            split
            · rename_i e; rw [e, hs]
            · rfl) rfl (fun k i => by
            rw [sV_uV, sV_uI]
            split
            · rename_i e; subst e
              split
              · rename_i e; rw [e, hs0]
              · rfl
            · rfl) rfl
        rw [es]
        exact hI
    · generalize hs1 : uI s 163 (nI m) = s1 at p5 hs0'
      have v1 : sV s1 = sV s := by rw [← hs1]; rfl
      refine ⟨nI (t - m), s1, uV (cpS s1 61 (20 + 19 * m) 61 1 19) 61 0 (nI m), p5, ?_, ?_⟩
      · have l : jloop (f_X6_undo_b29 (some 60) (nI m) (nI (t - m))) jfuel (nI 0) (HP (cpS s1 61 (20 + 19 * m) 61 1 0)) = some (.inr ((), HP (cpS s1 61 (20 + 19 * m) 61 1 19))) := by
          refine jseq (n := 19) (fun j => nI j) (fun j => HP (cpS s1 61 (20 + 19 * m) 61 1 j)) ?_ (fun j hj => ?_) 19 jfuel 0 (by omega) (by unfold jfuel; omega)
          · simp only [f_X6_undo_b29, if_pos (show (19 : Int32) ≤ nI 19 by decide)]
          · simp only [f_X6_undo_b29, if_neg (show ¬ (19 : Int32) ≤ nI j from nI_ge (b := 19) hj (by omega)), if_neg (nI_nle (show 0 < t - m by omega) (show t - m < 2 ^ 31 by omega)), gR_60_0, Option.bind_some, e20, e1p, g61 _ (show 20 + 19 * m + j < 3120 by omega), s61 _ (show 1 + j < 3120 by omega), nI_1, cpS_1 s1 (k := 61) (a := 20 + 19 * m) (b := 1) (m := j) (by omega)]
        rw [cpS_0] at l
        have l : jloop (f_X6_undo_b29 (some 60) (nI m) (nI (t - m))) jfuel 0 (HP s1) = _ := l
        simp only [f_X6_undo, f_X6_undo_j67, gR_60_0, Option.bind_some, g0, hs0', i6, if_pos hi, n10, if_false, es, l, s0]
      · generalize hs2 : uV (cpS s1 61 (20 + 19 * m) 61 1 19) 61 0 (nI m) = s2
        have w61 : ∀ j, sV s2 61 j = if j = 0 then nI m else if 1 ≤ j ∧ j < 1 + 19 then sV s 61 (20 + 19 * m + (j - 1)) else sV s 61 j := fun j => by rw [← hs2, sV_uV, if_pos rfl, sV_cpS, if_pos rfl, v1]
        have w1 : ∀ a, a ≠ 61 → sV s2 a = sV s a := fun a ha => by rw [← hs2, sV_uVne ha, sV_cpSne ha, v1]
        have i2 : ∀ k, sI s2 k = if k = 163 then nI m else sI s k := fun k => by rw [← hs2, ← hs1]; rfl
        have N2 : SameN s s2 := by rw [← hs2, ← hs1]; exact (SameN.uI (by unfold TwI; omega)).trans ((SameN.cp (by unfold TwA; omega)).trans (SameN.uV (by unfold TwA; omega)))
        have e63 := s63_N N2
        refine ⟨⟨n, InvF_N N2 hF, ⟨m, by omega, by rw [i2]; rfl, by rw [w61, if_pos rfl], ?_, fun u hu => ?_⟩, InvK_of h6 hK (fun k b1 b2 => w1 k (by omega)) (fun k b1 b2 => by rw [i2, if_neg (by omega)]) (fun j hj => by rw [w61, if_neg (by omega), if_neg (by omega)]) e63⟩, InvR_N N2 hI.2.1, InvM_N N2 hI.2.2⟩
        · exact InvS_of h6 (hP m (by omega)) (fun p _ => by rw [w1 (5 + 1) (by omega)]) (fun p _ => by rw [w1 (5 + 2) (by omega)]) (fun p _ => by rw [w1 (5 + 3) (by omega)]) (fun k hk => by rw [w61, if_neg (by omega), if_pos (by omega), show 20 + 19 * m + (0 + 1 + k - 1) = 20 + 19 * m + k by omega]) e63
        · refine InvS_of h6 (hP u (by omega)) (fun p _ => by rw [w1 (5 + 1) (by omega)]) (fun p _ => by rw [w1 (5 + 2) (by omega)]) (fun p _ => by rw [w1 (5 + 3) (by omega)]) (fun k hk => by rw [w61, if_neg (by omega), if_neg (by omega), show 0 + 20 + 19 * u + k = 20 + 19 * u + k by omega]) e63
