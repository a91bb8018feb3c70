/-- whether p is FINED for a week without THWARTING -/
def owe (s : ST) (p : Nat) : Bool := decide (sV s 61 (1 + p) ≠ -9) && decide (kN s p ≠ 2) && decide (¬ (sV s 65 p >>> (sV s 61 (1 + p) &&& 31)) &&& 1 = 1) && decide (¬ sV s 63 (sV s 61 (1 + p)).toNatClampNeg ≤ sV s 61 (7 + (sV s 61 (1 + p)).toNatClampNeg))
theorem kIs2 (k : Nat) : kIs k 2 = decide (k = 2) := by
  unfold kIs
  by_cases h : k = 2
  · subst h; rfl
  · simp [h]
theorem p5_owes {s : ST} {n t p : Nat} (hF : InvF s n) (ht : t ≤ 40) (hs : sI s 163 = nI t) (hS : InvS s n 6 7 8 t 1) (hp : p < n) : f_X5_owesDuty (some 0) (nI p) (HP s) = some (if owe s p then 1 else 0, HP s) := by
  have h6 := hF.le
  have ev : sV s 6 (6 * t + p) = sV s 61 (1 + p) := (hS.1 p hp).1
  have e2 := p1_isOf hF hp (hF.k hp).2.1 (hF.k hp).1 (show (2 : Int32) = nI 2 from rfl) (by omega)
  rw [kIs2] at e2
  unfold owe
  rcases (hS.1 p hp).2 with h | ⟨q, hq, -, h⟩
  · simp only [f_X5_owesDuty, gR_0_3, Option.bind_some, qO_5, if_true, p4_victimOf ht hs (show p < 6 by omega), ev, h]
    simp
  · simp only [f_X5_owesDuty, gR_0_3, Option.bind_some, qO_5, if_true, p4_victimOf ht hs (show p < 6 by omega), ev, h, if_neg (nI_n9 (show q < 2 ^ 31 by omega)), gR_0_8, fk_q, e2, p1_lovedBy hF hp, hF.lv hp, p5_isIn (show q < 6 by omega), qO_0, p5_hasReached hF ht hs hS hq, nI_clamp (show q < 2 ^ 31 by omega), decide_eq_true_eq]
    by_cases c1 : kN s p = 2
    · simp [c1, nI_n9 (show q < 2 ^ 31 by omega)]
    · by_cases c2 : (sV s 65 p >>> (nI q &&& 31)) &&& 1 = 1
      · simp [c1, c2]
      · by_cases c3 : sV s 63 q ≤ sV s 61 (7 + q)
        · simp [c1, c2, c3]
        · simp [c1, c2, c3, nI_n9 (show q < 2 ^ 31 by omega)]
theorem p6_owes {s : ST} {n t p : Nat} (hF : InvF s n) (hS : InvS s n 6 7 8 t 1) (hp : p < n) : f_X6_owes (some 60) (nI p) (sV s 61 19) (HP s) = some (if owe s p then 1 else 0, HP s) := by
  have h6 := hF.le
  have hS0 := hS
  obtain ⟨hv, -, -, -, -, r, hr, hr1, hr2⟩ := hS
  have hr64 : r < 64 := Nat.lt_of_lt_of_le hr (Nat.pow_le_pow_right (by omega) h6)
  have hk := (hF.k hp).1
  unfold owe
  have e19 : sV s 61 19 = nI r := hr1
  have ek : (nI (kN s p) = 2) = (kN s p = 2) := propext (nI_eq (a := kN s p) (b := 2) (by omega) (by omega))
  rcases (hv p hp).2 with h | ⟨q, hq, -, h⟩
  · simp only [f_X6_owes, qO_60, if_true, p6_victim s (show p < 6 by omega), Option.bind_some, h]
    simp
  · have e := hr2 q hq
    rw [show 1 + 6 + q = 7 + q by omega] at e
    have e2 := bit_dec r hr64 q (by omega)
    have e3 : ((nI r >>> (nI q &&& 31)) &&& 1 = 1) = (sV s 63 q ≤ sV s 61 (7 + q)) := propext (e2.trans e)
    simp only [f_X6_owes, qO_60, if_true, p6_victim s (show p < 6 by omega), Option.bind_some, h, if_neg (nI_n9 (show q < 2 ^ 31 by omega)), gR_60_2, g62 s (show p < 6 by omega), (hF.k hp).2.2, ek, gR_60_5, g65 s (show p < 6 by omega), p6_has, e19, e3, nI_clamp (show q < 2 ^ 31 by omega)]
    by_cases c1 : kN s p = 2
    · simp [c1]
    · by_cases c2 : (sV s 65 p >>> (nI q &&& 31)) &&& 1 = 1
      · simp [c1, c2]
      · by_cases c3 : sV s 63 q ≤ sV s 61 (7 + q)
        · simp [c1, c2, c3]
        · simp [c1, c2, c3, nI_n9 (show q < 2 ^ 31 by omega)]
/-- how many have less STRENGTH against a SAINT -/
def cmF (s : ST) (p j : Nat) (a : Int32) : Int32 := if j = p then a else if (sV s 65 j >>> (nI p &&& 31)) &&& 1 = 1 then a else if nI (pw s j) ≤ nI (str s j p) then a else a + 1
theorem p5_calmed {s : ST} {n p : Nat} (hF : InvF s n) (hp : p < n) : f_X5_calmedBy (some 0) (nI p) (HP s) = some (fold (cmF s p) n 0 0, HP s) := by
  have h6 := hF.le
  have h : jloop (f_X5_calmedBy_b4 (some 0) (nI p)) jfuel (0, 0) (HP s) = some (.inr (fold (cmF s p) n 0 0, HP s)) := by
    refine jfold (n := n) (cmF s p) (fun a => ?_) (fun j a hj => ?_) n jfuel 0 0 (by omega) (by unfold jfuel; omega)
    · simp only [f_X5_calmedBy_b4, gR_0_8, Option.bind_some, fk_n, hF.2.2.1, if_pos (nI_le (Nat.le_refl n) (show n < 2 ^ 31 by omega))]
    · have ej : (nI j = nI p) = (j = p) := propext (nI_eq (by omega) (by omega))
      simp only [f_X5_calmedBy_b4, gR_0_8, Option.bind_some, fk_n, hF.2.2.1, if_neg (nI_ge hj (show n < 2 ^ 31 by omega)), ej, fk_q, if_true, p1_lovedBy hF hj, hF.lv hj, p5_isIn (show p < 6 by omega), p1_pw hF hj, p1_str hF hj hp, nI_1, cmF]
      by_cases c1 : j = p
      · simp only [c1, if_true]
      · by_cases c2 : (sV s 65 j >>> (nI p &&& 31)) &&& 1 = 1
        · simp only [c1, c2, if_true, if_false, n10]
        · by_cases c3 : nI (pw s j) ≤ nI (str s j p)
          · simp only [c1, c2, c3, if_true, if_false]
          · simp only [c1, c2, c3, if_true, if_false]
  simp only [f_X5_calmedBy, h, Option.bind_some]
theorem p6_saved {s : ST} {n p : Nat} (hF : InvF s n) (hp : p < n) : f_X6_saved (some 60) (nI p) (HP s) = some (fold (cmF s p) n 0 0, HP s) := by
  have h6 := hF.le
  have h : jloop (f_X6_saved_b4 (some 60) (nI p)) jfuel (0, 0) (HP s) = some (.inr (fold (cmF s p) n 0 0, HP s)) := by
    refine jfold (n := n) (cmF s p) (fun a => ?_) (fun j a hj => ?_) n jfuel 0 0 (by omega) (by unfold jfuel; omega)
    · simp only [f_X6_saved_b4, gI_60_1, Option.bind_some, hF.2.1, if_pos (nI_le (Nat.le_refl n) (show n < 2 ^ 31 by omega))]
    · have ej : (nI j = nI p) = (j = p) := propext (nI_eq (by omega) (by omega))
      simp only [f_X6_saved_b4, f_X6_saved_b4_j49, gI_60_1, Option.bind_some, hF.2.1, if_neg (nI_ge hj (show n < 2 ^ 31 by omega)), ej, gR_60_5, g65 s (show j < 6 by omega), p6_has, qO_60, if_true, p6_pw hF hj, p6_str hF hj hp, nI_1, cmF, Int32.add_zero]
      by_cases c1 : j = p
      · simp only [c1, if_true]
      · by_cases c2 : (sV s 65 j >>> (nI p &&& 31)) &&& 1 = 1
        · simp only [c1, c2, if_true, if_false, n10]
        · by_cases c3 : nI (pw s j) ≤ nI (str s j p)
          · simp only [c1, c2, c3, if_true, if_false]
          · simp only [c1, c2, c3, if_true, if_false]
  simp only [f_X6_saved, h, Option.bind_some]
/-- weeks for nine, by STRENGTH -/
def w9 (y : Nat) : Int32 := if y = 0 then -9 else nI ((8 + y) / y)
theorem j28 {y : Nat} (h : y ≤ 8) (ah : AH) : f_X5_weeksForNine_j28 (nI y) ah = some (w9 y, ah) := by
  match y, h with
  | 0, _ | 1, _ | 2, _ | 3, _ | 4, _ | 5, _ | 6, _ | 7, _ | 8, _ => rfl
  | y + 9, h => exact absurd h (by omega)
theorem j24 {y : Nat} (h : y ≤ 8) (ah : AH) : f_X6_weeksForNine_j24 (nI y) ah = some (w9 y, ah) := by
  match y, h with
  | 0, _ | 1, _ | 2, _ | 3, _ | 4, _ | 5, _ | 6, _ | 7, _ | 8, _ => rfl
  | y + 9, h => exact absurd h (by omega)
/-- STRENGTH against the own VICTIM, 0 if it is FREE -/
def sv (s : ST) (p : Nat) : Nat := if sV s 61 (1 + p) = -9 then 0 else str s p (sV s 61 (1 + p)).toNatClampNeg
theorem p5_w9 {s : ST} {n t p : Nat} (hF : InvF s n) (ht : t ≤ 40) (hs : sI s 163 = nI t) (hS : InvS s n 6 7 8 t 1) (hp : p < n) : f_X5_weeksForNine (some 0) (nI p) (HP s) = some (w9 (sv s p), HP s) := by
  have h6 := hF.le
  have ev : sV s 6 (6 * t + p) = sV s 61 (1 + p) := (hS.1 p hp).1
  unfold sv
  rcases (hS.1 p hp).2 with h | ⟨q, hq, -, h⟩
  · simp only [f_X5_weeksForNine, gR_0_3, Option.bind_some, qO_5, if_true, p4_victimOf ht hs (show p < 6 by omega), ev, h]
    exact j28 (y := 0) (by omega) _
  · simp only [f_X5_weeksForNine, gR_0_3, Option.bind_some, qO_5, if_true, p4_victimOf ht hs (show p < 6 by omega), ev, h, if_neg (nI_n9 (show q < 2 ^ 31 by omega)), gR_0_8, fk_q, p1_str hF hp hq, nI_clamp (show q < 2 ^ 31 by omega), j28 (str_le q hF hp)]
theorem p6_w9 {s : ST} {n t p : Nat} (hF : InvF s n) (hS : InvS s n 6 7 8 t 1) (hp : p < n) : f_X6_weeksForNine (some 60) (nI p) (HP s) = some (w9 (sv s p), HP s) := by
  have h6 := hF.le
  unfold sv
  rcases (hS.1 p hp).2 with h | ⟨q, hq, -, h⟩
  · simp only [f_X6_weeksForNine, qO_60, if_true, p6_victim s (show p < 6 by omega), Option.bind_some, h]
    exact j24 (y := 0) (by omega) _
  · simp only [f_X6_weeksForNine, qO_60, if_true, p6_victim s (show p < 6 by omega), Option.bind_some, h, if_neg (nI_n9 (show q < 2 ^ 31 by omega)), p6_str hF hp hq, nI_clamp (show q < 2 ^ 31 by omega), j24 (str_le q hF hp)]
theorem InvF.m {s : ST} {n p : Nat} (hF : InvF s n) (hp : p < n) : ∃ m : Nat, m < 64 ∧ sV s 65 p = nI m := by
  have h6 := hF.le
  obtain ⟨-, -, -, m, h1, h2, h3⟩ := hF.2.2.2.2 p hp
  exact ⟨m, Nat.lt_of_lt_of_le h1 (Nat.pow_le_pow_right (by omega) h6), h3⟩
/-- what mark tells, by the kind asked for -/
def mk (s : ST) (n p c : Nat) : Int32 := if c = 1 then nI (pw s p) else if c = 2 then fold (cmF s p) n 0 0 else if c = 3 then pc (sV s 65 p) else if c = 4 then w9 (sv s p) else if owe s p then 1 else 0
theorem ag_mark {s : ST} (hI : Inv s) (a0 a1 : Int32) : ∃ (v : Int32) (s1 s2 : ST), f_X5_mark (some 0) a0 a1 (HP s) = some (v, HP s1) ∧ f_X6_mark (some 60) a0 a1 (HP s1) = some (v, HP s2) ∧ Inv s2 := by
  obtain ⟨n, hF, hT, hK⟩ := hI.1
  have h6 := hF.le
  obtain ⟨t, ht, hs, hs0, hS, -⟩ := hT.t
  rcases ix_n a0 (n := n) (by omega) with h | ⟨p, hp, rfl⟩
  · refine ⟨-1, s, s, ?_, ?_, hI⟩
    · simp only [f_X5_mark, gR_0_8, Option.bind_some, fk_q, if_true, p1_hasF hF h]
    · simp only [f_X6_mark, qO_60, if_true, p6_isPF hF h, Option.bind_some]
  have e6 : ∀ ah, f_X6_in (Int32.toInt64 a1) 1 5 ah = some (if 1 ≤ a1.toInt ∧ a1.toInt ≤ 5 then 1 else 0, ah) := fun ah => p6_inI a1 1 5 ah
  by_cases hr : 1 ≤ a1.toInt ∧ a1.toInt ≤ 5
  · obtain ⟨c, hc, rfl⟩ : ∃ c : Nat, c ≤ 5 ∧ a1 = nI c := by
      rcases ix_n a1 (n := 6) (by omega) with q | ⟨W, q, rfl⟩
      · rcases q with q | q
        · have := toInt_neg q; omega
        · have := toInt_ge (by omega) q; omega
      · exact ⟨W, by omega, rfl⟩
    have hc1 : (nI c).toInt = c := nI_toInt (by omega)
    have e1 : ¬ nI c < 1 := nI_nlt (a := c) (b := 1) (by omega) (by omega)
    have e2 : nI c ≤ 5 := nI_le (b := 5) hc (by omega)
    have i5 := p1_isOf hF hp (hF.k hp).2.1 (hF.k hp).1 (show nI c = nI c from rfl) (show c < 6 by omega)
    have i6 := p6_isOf (s := s) (show p < 6 by omega) (hF.k hp).2.2 (hF.k hp).1 (show c < 6 by omega)
    by_cases hk : kIs (kN s p) c = true
    · obtain ⟨m, hm, em⟩ := hF.m hp
      have l5 : sV s (fA (sW s) + 4) p = nI m := (hF.lv hp).trans em
      have g19 : gA (HP s) (some 61) 19 = some (sV s 61 19) := g61 s (k := 19) (by omega)
      have q1 : (nI c = 1) = (c = 1) := propext (nI_eq (a := c) (b := 1) (by omega) (by omega))
      have q2 : (nI c = 2) = (c = 2) := propext (nI_eq (a := c) (b := 2) (by omega) (by omega))
      have q3 : (nI c = 3) = (c = 3) := propext (nI_eq (a := c) (b := 3) (by omega) (by omega))
      have q4 : (nI c = 4) = (c = 4) := propext (nI_eq (a := c) (b := 4) (by omega) (by omega))
      refine ⟨mk s n p c, s, s, ?_, ?_, hI⟩
      · simp only [f_X5_mark, gR_0_8, Option.bind_some, fk_q, if_true, p1_hasT hF hp, n10, if_false, if_neg e1, if_pos e2, i5, hk, q1, q2, q3, q4, p1_pw hF hp, qO_0, p5_calmed hF hp, p1_lovedBy hF hp, l5, p_bitCount hm, p5_w9 hF ht hs hS hp, p5_owes hF ht hs hS hp, mk, em]
        by_cases w1 : c = 1
        · simp [w1]
        · by_cases w2 : c = 2
          · simp [w1, w2]
          · by_cases w3 : c = 3
            · simp [w1, w2, w3]
            · by_cases w4 : c = 4
              · simp [w1, w2, w3, w4]
              · by_cases w5 : owe s p = true
                · simp [w1, w2, w3, w4, w5]
                · simp [w1, w2, w3, w4, w5]
      · simp only [f_X6_mark, qO_60, if_true, p6_isPT hF hp, Option.bind_some, n10, if_false, e6, if_pos hr, i6, hk, q1, q2, q3, q4, p6_pw hF hp, p6_saved hF hp, gR_60_5, g65 s (show p < 6 by omega), p6_bits, p6_w9 hF hS hp, gR_60_0, g19, p6_owes hF hS hp, mk]
        by_cases w1 : c = 1
        · simp [w1]
        · by_cases w2 : c = 2
          · simp [w1, w2]
          · by_cases w3 : c = 3
            · simp [w1, w2, w3]
            · by_cases w4 : c = 4
              · simp [w1, w2, w3, w4]
              · by_cases w5 : owe s p = true
                · simp [w1, w2, w3, w4, w5]
                · simp [w1, w2, w3, w4, w5]
    · have i6' := p6_isOf (s := fnd5 s 3) (p := p) (show p < 6 by omega) (by rw [sV5 s 3 (by omega)]; exact (hF.k hp).2.2) (hF.k hp).1 (show c < 6 by omega)
      have hF' : InvF (fnd5 s 3) n := InvF_same ((SameT.uI (by unfold IdT; omega)).trans (SameT.uV (by unfold TyT; omega))) hF
      refine ⟨-3, fnd5 s 3, fnd6 (fnd5 s 3) 3, ?_, ?_, inv_find hI 3⟩
      · simp only [f_X5_mark, gR_0_8, Option.bind_some, fk_q, if_true, p1_hasT hF hp, n10, if_false, if_neg e1, if_pos e2, i5, hk, Bool.false_eq_true, qO_0, p5_find (x := 3) s 3 rfl (by omega) (by omega)]
      · simp only [f_X6_mark, qO_60, if_true, p6_isPT hF' hp, Option.bind_some, n10, if_false, e6, if_pos hr, i6', hk, Bool.false_eq_true, p6_find (x := 3) _ 3 rfl (by omega)]
  · refine ⟨-1, s, s, ?_, ?_, hI⟩
    · by_cases h0 : a1 < 1
      · simp only [f_X5_mark, gR_0_8, Option.bind_some, fk_q, if_true, p1_hasT hF hp, n10, if_false, if_pos h0]
      · have h0' : ¬ a1.toInt < (1 : Int32).toInt := fun q => h0 (Int32.lt_iff_toInt_lt.mpr q)
        have e2 : ¬ a1 ≤ 5 := fun q => by have := Int32.le_iff_toInt_le.mp q; simp at this h0'; omega
        simp only [f_X5_mark, gR_0_8, Option.bind_some, fk_q, if_true, p1_hasT hF hp, n10, if_false, if_neg h0, if_neg e2]
    · simp only [f_X6_mark, qO_60, if_true, p6_isPT hF hp, Option.bind_some, n10, if_false, e6, if_neg hr]
