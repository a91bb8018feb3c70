/-! ===== safe, person, weeks, thwart ===== -/
theorem n_eq0 {n : Nat} (h : n ≤ 6) : (nI n = 0) = (n = 0) := by
  refine propext ⟨fun e => ?_, fun e => by rw [e]; rfl⟩
  exact (nI_eq (a := n) (b := 0) (by omega) (by omega)).mp e
def sfF (s : ST) (n : Nat) (p : Nat) (a : Int32) : Int32 := if sV s 63 p ≤ sV s 61 (7 + p) ∨ loss s n p = 0 then a ||| (1 <<< (nI p &&& 31)) else a
theorem nI_z {m : Nat} (h : m ≤ 100) : (nI m = 0) = (m = 0) := by
  refine propext ⟨fun e => ?_, fun e => by rw [e]; rfl⟩
  exact (nI_eq (a := m) (b := 0) (by omega) (by omega)).mp e
theorem ag_safe {s : ST} (hI : Inv s) : ∃ (v : Int32) (s1 s2 : ST), f_X5_safe (some 0) (HP s) = some (v, HP s1) ∧ f_X6_safe (some 60) (HP s1) = some (v, HP s2) ∧ Inv s2 := by
  obtain ⟨n, hF, hT, hK⟩ := hI.1
  have h6 := hF.le
  obtain ⟨t, ht, hs, -, hS, -⟩ := hT.t
  by_cases hn : n = 0
  · subst hn
    refine ⟨-4, s, s, ?_, ?_, hI⟩
    · simp only [f_X5_safe, gR_0_8, Option.bind_some, fk_n, hF.2.2.1]
      rfl
    · simp only [f_X6_safe, gI_60_1, Option.bind_some, hF.2.1]
      rfl
  · have e5 : jloop (f_X5_safe_b17 (some 0)) jfuel (0, 0) (HP s) = some (.inr (fold (sfF s n) n 0 0, HP s)) := by
      refine jfold (n := n) (sfF s n) (fun a => ?_) (fun j a hj => ?_) n jfuel 0 0 (by omega) (by unfold jfuel; omega)
      · simp only [f_X5_safe_b17, gR_0_8, Option.bind_some, fk_n, hF.2.2.1, if_pos (nI_le (Nat.le_refl n) (show n < 2 ^ 31 by omega))]
      · simp only [f_X5_safe_b17, f_X5_safe_b17_j44, gR_0_8, Option.bind_some, fk_n, hF.2.2.1, if_neg (nI_ge hj (show n < 2 ^ 31 by omega)), qO_0, if_true, p5_hasReached hF ht hs hS hj, p5_loss hF hT hj, nI_z (show loss s n j ≤ 100 by have := loss_le (p := j) hF; omega), nI_1, sfF]
        by_cases h1 : sV s 63 j ≤ sV s 61 (7 + j)
        · simp only [h1, if_true, n10, if_false, true_or]
        · by_cases h2 : loss s n j = 0
          · simp only [h1, if_true, if_false, h2, or_true]
          · simp only [h1, if_true, if_false, h2, or_self]
    have e6 : jloop (f_X6_safe_b14 (some 60)) jfuel (0, 0) (HP s) = some (.inr (fold (sfF s n) n 0 0, HP s)) := by
      refine jfold (n := n) (sfF s n) (fun a => ?_) (fun j a hj => ?_) n jfuel 0 0 (by omega) (by unfold jfuel; omega)
      · simp only [f_X6_safe_b14, gI_60_1, Option.bind_some, hF.2.1, if_pos (nI_le (Nat.le_refl n) (show n < 2 ^ 31 by omega))]
      · simp only [f_X6_safe_b14, f_X6_safe_b14_j39, gI_60_1, Option.bind_some, hF.2.1, if_neg (nI_ge hj (show n < 2 ^ 31 by omega)), qO_60, if_true, p6_isReached hF hS hj, p6_loss hF hj, nI_z (show loss s n j ≤ 100 by have := loss_le (p := j) hF; omega), nI_1, sfF]
        by_cases h1 : sV s 63 j ≤ sV s 61 (7 + j)
        · simp only [h1, if_true, n10, if_false, true_or]
        · by_cases h2 : loss s n j = 0
          · simp only [h1, if_true, if_false, h2, or_true]
          · simp only [h1, if_true, if_false, h2, or_self, Int32.or_zero]
    refine ⟨fold (sfF s n) n 0 0, s, s, ?_, ?_, hI⟩
    · simp only [f_X5_safe, gR_0_8, Option.bind_some, fk_n, hF.2.2.1, n_eq0 h6, hn, if_false, e5]
    · simp only [f_X6_safe, gI_60_1, Option.bind_some, hF.2.1, n_eq0 h6, hn, if_false, e6]
/-! person -/
def tr (s : ST) (n p c : Nat) : Int32 := match c with
  | 0 => sV s 62 p
  | 1 => sV s 63 p
  | 2 => sV s 64 p
  | 3 => sV s 61 (1 + p)
  | 4 => foe s n (nI p)
  | 5 => sV s 61 (7 + p)
  | 6 => sV s 61 (13 + p)
  | 7 => if sV s 63 p ≤ sV s 61 (7 + p) then 1 else 0
  | _ => sV s 65 p
set_option maxRecDepth 100000 in
theorem p5_trait {s : ST} {n p c : Nat} (hF : InvF s n) (hT : InvT s n 5 0) (hp : p < n) (hc : c < 9) : f_X5_trait (some 0) (nI p) (nI c) (HP s) = some (tr s n p c, HP s) := by
  have h6 := hF.le
  have hp6 : p < 6 := by omega
  obtain ⟨t, ht, hs, -, hS, -⟩ := hT.t
  have ek : sV s (fA (sW s) + 1) p = sV s 62 p := by rw [(hF.k hp).2.1, (hF.k hp).2.2]
  have ez : sV s (fA (sW s) + 3) p = sV s 64 p := by rw [(hF.z hp).2.1, (hF.z hp).2.2]
  have ev : sV s 6 (6 * t + p) = sV s 61 (1 + p) := (hS.1 p hp).1
  obtain ⟨d, -, h2, h3⟩ := hS.2.2.2.1 p hp
  have ed : sV s 7 (6 * t + p) = sV s 61 (7 + p) := by rw [h2, ← h3, show 1 + 6 + p = 7 + p by omega]
  have ef : sV s 8 (6 * t + p) = sV s 61 (13 + p) := by rw [hS.2.2.2.2.1 p hp, show 1 + 12 + p = 13 + p by omega]
  have hall : f_X5_trait (some 0) (nI p) (nI c) (HP s) = if nI c = 0 then some (sV s 62 p, HP s) else if nI c = 1 then some (sV s 63 p, HP s) else if nI c = 2 then some (sV s 64 p, HP s) else if nI c = 3 then some (sV s 61 (1 + p), HP s) else if nI c = 4 then some (foe s n (nI p), HP s) else if nI c = 5 then some (sV s 61 (7 + p), HP s) else if nI c = 6 then some (sV s 61 (13 + p), HP s) else if nI c = 7 then some (if sV s 63 p ≤ sV s 61 (7 + p) then 1 else 0, HP s) else some (sV s 65 p, HP s) := by
    simp only [f_X5_trait, gR_0_8, gR_0_3, Option.bind_some, fk_q, qO_5, qO_0, if_true, p1_kindOf hF hp, p1_aimOf hF hp, p1_zealOf hF hp, p1_lovedBy hF hp, p4_victimOf ht hs hp6, p4_foeOf hF hT hp6, p4_deedsOf ht hs hp6, p4_finesOf ht hs hp6, p5_hasReached hF ht hs hS hp, ek, ez, ev, ed, ef, hF.a hp, hF.lv hp]
    by_cases h : sV s 63 p ≤ sV s 61 (7 + p)
    · simp only [h, if_true, n10, if_false]
    · simp only [h, if_true, if_false]
  rw [hall]
  match c, hc with
  | 0, _ | 1, _ | 2, _ | 3, _ | 4, _ | 5, _ | 6, _ | 7, _ | 8, _ => rfl
  | c + 9, h => exact absurd h (by omega)
set_option maxRecDepth 100000 in
theorem p6_toldOf {s : ST} {n t p c : Nat} (hF : InvF s n) (hS : InvS s n 6 7 8 t 1) (hp : p < n) (hc : c < 9) : f_X6_toldOf (some 60) (nI p) (nI c) (HP s) = some (tr s n p c, HP s) := by
  have h6 := hF.le
  have hp6 : p < 6 := by omega
  have hall : f_X6_toldOf (some 60) (nI p) (nI c) (HP s) = if nI c = 0 then some (sV s 62 p, HP s) else if nI c = 1 then some (sV s 63 p, HP s) else if nI c = 2 then some (sV s 64 p, HP s) else if nI c = 3 then some (sV s 61 (1 + p), HP s) else if nI c = 4 then some (foe s n (nI p), HP s) else if nI c = 5 then some (sV s 61 (7 + p), HP s) else if nI c = 6 then some (sV s 61 (13 + p), HP s) else if nI c = 7 then some (if sV s 63 p ≤ sV s 61 (7 + p) then 1 else 0, HP s) else some (sV s 65 p, HP s) := by
    simp only [f_X6_toldOf, gR_60_2, gR_60_3, gR_60_4, gR_60_5, gR_60_0, Option.bind_some, qO_60, if_true, g62 s hp6, g63 s hp6, g64 s hp6, g65 s hp6, p6_victim s hp6, p6_foe hF, e7p, e13p, g61 s (show 7 + p < 3120 by omega), g61 s (show 13 + p < 3120 by omega), p6_isReached hF hS hp]
    by_cases h : sV s 63 p ≤ sV s 61 (7 + p)
    · simp only [h, if_true, n10, if_false]
    · simp only [h, if_true, if_false]
  rw [hall]
  match c, hc with
  | 0, _ | 1, _ | 2, _ | 3, _ | 4, _ | 5, _ | 6, _ | 7, _ | 8, _ => rfl
  | c + 9, h => exact absurd h (by omega)
/-- a number from 0 to m: within, for both ways of asking -/
theorem p6_in0 (x : Int32) (c : Int64) (ah : AH) : f_X6_in (Int32.toInt64 x) 0 c ah = some (if 0 ≤ x.toInt ∧ x.toInt ≤ c.toInt then 1 else 0, ah) := p6_inI x 0 c ah
theorem ag_person {s : ST} (hI : Inv s) (a0 a1 : Int32) : ∃ (v : Int32) (s1 s2 : ST), f_X5_person (some 0) a0 a1 (HP s) = some (v, HP s1) ∧ f_X6_person (some 60) a0 a1 (HP s1) = some (v, HP s2) ∧ Inv s2 := by
  obtain ⟨n, hF, hT, hK⟩ := hI.1
  have h6 := hF.le
  obtain ⟨t, ht, hs, hs0, hS, -⟩ := hT.t
  rcases ix_n a0 (n := n) (by omega) with h | ⟨p, hp, rfl⟩
  · refine ⟨-1, s, s, ?_, ?_, hI⟩
    · simp only [f_X5_person, gR_0_8, Option.bind_some, fk_q, if_true, p1_hasF hF h]
    · simp only [f_X6_person, qO_60, if_true, p6_isPF hF h, Option.bind_some]
  rcases pk_ix a1 (n := 9) (by omega) with h | h | ⟨c, hc, rfl⟩
  · have h1 := toInt_neg h
    refine ⟨-1, s, s, ?_, ?_, hI⟩
    · simp only [f_X5_person, gR_0_8, Option.bind_some, fk_q, if_true, p1_hasT hF hp, n10, if_false, if_pos h]
    · simp only [f_X6_person, qO_60, if_true, p6_isPT hF hp, Option.bind_some, n10, if_false, p6_in0, if_neg (show ¬ (0 ≤ a1.toInt ∧ a1.toInt ≤ (8 : Int64).toInt) by omega)]
  · have h1 := toInt_ge (by omega) h
    have e1 : ¬ a1 < 0 := fun q => by have := toInt_neg q; omega
    have e2 : ¬ a1 < 9 := fun q => by have := Int32.lt_iff_toInt_lt.mp q; simp at this; omega
    have e3 : ¬ (0 ≤ a1.toInt ∧ a1.toInt ≤ (8 : Int64).toInt) := fun q => by have := q.2; simp at this; omega
    refine ⟨-1, s, s, ?_, ?_, hI⟩
    · simp only [f_X5_person, gR_0_8, Option.bind_some, fk_q, if_true, p1_hasT hF hp, n10, if_false, if_neg e1, if_neg e2]
    · simp only [f_X6_person, qO_60, if_true, p6_isPT hF hp, Option.bind_some, n10, if_false, p6_in0, if_neg e3]
  · have e2 : nI c < 9 := nI_lt (b := 9) hc (by omega)
    have e3 : 0 ≤ (nI c).toInt ∧ (nI c).toInt ≤ (8 : Int64).toInt := by rw [nI_toInt (by omega)]; simp; omega
    have hF' : InvF (uI s 11 (tr s n p c)) n := InvF_same (SameT.uI (by unfold IdT; omega)) hF
    have hS' : InvS (uI s 11 (tr s n p c)) n 6 7 8 t 1 := hS
    have et : tr (uI s 11 (tr s n p c)) n p c = tr s n p c := rfl
    refine ⟨1, uI s 11 (tr s n p c), uI (uI s 11 (tr s n p c)) 1931 (tr s n p c), ?_, ?_, inv_tell hI _⟩
    · simp only [f_X5_person, gR_0_8, Option.bind_some, fk_q, if_true, p1_hasT hF hp, n10, if_false, if_neg (nI_pos (show c < 2 ^ 31 by omega)), if_pos e2, qO_0, p5_trait hF hT hp hc, sF_0_11]
    · simp only [f_X6_person, qO_60, if_true, p6_isPT hF' hp, Option.bind_some, n10, if_false, p6_in0, if_pos e3, p6_toldOf hF' hS' hp hc, et, p6_tell]
