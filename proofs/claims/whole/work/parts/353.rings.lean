/-! ===== allies, rings ===== -/
theorem p4_foe9 {s : ST} : f_X4_foeOf (some 5) (-9) (HP s) = some (-9, HP s) := by
  have l : jloop (f_X4_foeOf_b2 (some 5) (-9)) jfuel 0 (HP s) = some (.inr ((), HP s)) := by
    refine jfoldG (n := 6) (fun (_ : Unit) j => nI j) (fun _ => ()) (fun _ a => a) (fun a => ?_) (fun j a hj => ?_) 6 jfuel 0 () (by omega) (by unfold jfuel; omega)
    · simp only [f_X4_foeOf_b2, if_pos (show (6 : Int32) ≤ nI 6 by decide)]
    · simp only [f_X4_foeOf_b2, if_neg (show ¬ (6 : Int32) ≤ nI j from nI_ge (b := 6) hj (by omega)), if_pos (show (-9 : Int32) < 0 by decide), nI_1]
  simp only [f_X4_foeOf, l, Option.bind_some]
def pcN (a : Nat) : Nat := fold (fun p b => b + (a >>> p) % 2) 6 0 0
set_option maxRecDepth 100000 in
theorem pcN_or : ∀ a, a < 64 → ∀ k, k < 6 → a.testBit k = false → pcN (a ||| 2 ^ k) = pcN a + 1 := by decide +kernel
set_option maxRecDepth 100000 in
theorem pcN_le : ∀ a, a < 64 → ∀ k, k < 6 → a.testBit k = false → pcN a ≤ 5 := by decide +kernel
theorem tb_or {a k p : Nat} : (a ||| 2 ^ k).testBit p = (a.testBit p || decide (k = p)) := by rw [Nat.testBit_or, Nat.testBit_two_pow]
/-- the FOE's FOE -/
def gg (s : ST) (n : Nat) (q : Nat) : Int32 := if foe s n (nI q) = -9 then -9 else foe s n (foe s n (nI q))
theorem gg_spec {s : ST} {n : Nat} (hF : InvF s n) (q : Nat) : gg s n q = -9 ∨ ∃ k, k < n ∧ gg s n q = nI k := by
  unfold gg
  split
  · exact Or.inl rfl
  · rcases foe_spec hF (foe s n (nI q)) with h | ⟨k, hk, -, h⟩
    · exact Or.inl h
    · exact Or.inr ⟨k, hk, h⟩
theorem p5_gg {s : ST} {n q : Nat} (hF : InvF s n) (hT : InvT s n 5 0) (hq : q < n) : ((f_X4_foeOf (some 5) (nI q) (HP s)).bind fun q22 => if qO q22.2 (some 5) 4 = true then f_X4_foeOf (some 5) q22.1 q22.2 else none) = some (gg s n q, HP s) := by
  have h6 := hF.le
  unfold gg
  simp only [p4_foeOf hF hT (show q < 6 by omega), Option.bind_some, qO_5, if_true]
  rcases foe_spec hF (nI q) with h | ⟨k, hk, -, h⟩
  · rw [h, if_pos rfl, p4_foe9]
  · rw [h, if_neg (nI_n9 (by omega)), p4_foeOf hF hT (by omega)]
theorem al_loop {s : ST} {n p : Nat} (hF : InvF s n) (hT : InvT s n 5 0) (hp : p < n) : ∀ (m a q f f' : Nat), pcN a + m = 5 → a < 64 → a.testBit p = false → q < n → m + 1 < f → m + 2 < f' → ∃ v, jloop (f_X5_allies_b34 (some 0) (nI p)) f (nI a, gg s n q, nI (pcN a)) (HP s) = some (.inl (v, HP s)) ∧ jloop (f_X6_allies_b14 (some 60) (nI p)) f' (nI a, nI q) (HP s) = some (.inr (v, HP s)) := by
  have h6 := hF.le
  intro m
  induction m with
  | zero =>
    intro a q f f' hm ha hap hq hf hf'
    obtain ⟨f, rfl⟩ : ∃ g, f = g + 1 := ⟨f - 1, by omega⟩
    obtain ⟨f', rfl⟩ : ∃ g, f' = g + 2 := ⟨f' - 2, by omega⟩
    have s5 : ¬ (6 : Int32) ≤ nI (pcN a) := nI_ge (b := 6) (by omega) (by omega)
    have hbad : gg s n q = -9 ∨ gg s n q = nI p ∨ ∃ k, k < n ∧ gg s n q = nI k ∧ ¬ k = p ∧ a.testBit k = true := by
      rcases gg_spec hF q with h | ⟨k, hk, h⟩
      · exact Or.inl h
      · by_cases e : k = p
        · subst e; exact Or.inr (Or.inl h)
        · refine Or.inr (Or.inr ⟨k, hk, h, e, ?_⟩)
          cases ht : a.testBit k with
          | true => rfl
          | false =>
            have h1 := pcN_or a ha k (by omega) ht
            have h2 := pcN_le (a ||| 2 ^ k) (or_lt ha (by omega)) p (by omega) (by rw [tb_or, hap]; simp [e])
            omega
    have e9 : ¬ nI q = -9 := nI_n9 (by omega)
    refine ⟨nI a, ?_, ?_⟩
    · rw [jloop]
      rcases hbad with h | h | ⟨k, hk, h, e, ht⟩
      · simp only [f_X5_allies_b34, if_neg s5, h, if_pos (show (-9 : Int32) < 0 by decide)]
      · simp only [f_X5_allies_b34, if_neg s5, h, if_neg (nI_pos (show p < 2 ^ 31 by omega)), if_true]
      · have e1 : ¬ nI k = nI p := fun q => e ((nI_eq (by omega) (by omega)).mp q)
        simp only [f_X5_allies_b34, if_neg s5, h, if_neg (nI_pos (show k < 2 ^ 31 by omega)), if_neg e1, p5_isIn (show k < 6 by omega), Option.bind_some, if_pos ((bit_dec a ha k (by omega)).mpr ht), n10, if_false]
    · rw [jloop]
      have j44 : f_X6_allies_b14_j44 (some 60) (nI p) (nI a) (gg s n q) (HP s) = some (.inr (.inr ((nI a, -9), HP s))) := by
        rcases hbad with h | h | ⟨k, hk, h, e, ht⟩
        · simp only [f_X6_allies_b14_j44, f_X6_allies_b14_j68, f_X6_allies_b14_j75, h, if_true, Int32.or_zero]
        · simp only [f_X6_allies_b14_j44, f_X6_allies_b14_j68, f_X6_allies_b14_j75, h, if_true, if_neg (nI_n9 (show p < 2 ^ 31 by omega)), Int32.or_zero]
        · have e1 : ¬ nI k = nI p := fun q => e ((nI_eq (by omega) (by omega)).mp q)
          simp only [f_X6_allies_b14_j44, f_X6_allies_b14_j68, f_X6_allies_b14_j75, h, if_true, if_neg (nI_n9 (show k < 2 ^ 31 by omega)), if_neg e1, p6_has, Option.bind_some, if_pos ((bit_dec a ha k (by omega)).mpr ht), n10, if_false, Int32.or_zero]
      have hb : f_X6_allies_b14 (some 60) (nI p) (nI a, nI q) (HP s) = some (.inr (.inr ((nI a, -9), HP s))) := by
        rw [← j44]
        unfold gg
        by_cases c : foe s n (nI q) = -9
        · simp only [f_X6_allies_b14, if_neg e9, qO_60, if_true, p6_foe hF, Option.bind_some, c]
        · simp only [f_X6_allies_b14, if_neg e9, qO_60, if_true, p6_foe hF, Option.bind_some, c, if_false]
      rw [hb]
      show jloop _ (f' + 1) (nI a, -9) (HP s) = _
      rw [jloop]
      simp only [f_X6_allies_b14, if_true]
  | succ m ih =>
    intro a q f f' hm ha hap hq hf hf'
    obtain ⟨f, rfl⟩ : ∃ g, f = g + 1 := ⟨f - 1, by omega⟩
    obtain ⟨f', rfl⟩ : ∃ g, f' = g + 2 := ⟨f' - 2, by omega⟩
    have s5 : ¬ (6 : Int32) ≤ nI (pcN a) := nI_ge (b := 6) (by omega) (by omega)
    have e9 : ¬ nI q = -9 := nI_n9 (by omega)
    by_cases hgood : ∃ k, k < n ∧ gg s n q = nI k ∧ ¬ k = p ∧ a.testBit k = false
    · obtain ⟨k, hk, h, e, ht⟩ := hgood
      have e1 : ¬ nI k = nI p := fun q => e ((nI_eq (by omega) (by omega)).mp q)
      have hnb : ¬ (nI a >>> (nI k &&& 31)) &&& 1 = 1 := fun z => by have := (bit_dec a ha k (by omega)).mp z; rw [ht] at this; cases this
      have hc := pcN_or a ha k (by omega) ht
      obtain ⟨v, h1, h2⟩ := ih (a ||| 2 ^ k) k f (f' + 1) (by omega) (or_lt ha (by omega)) (by rw [tb_or, hap]; simp [e]) hk (by omega) (by omega)
      refine ⟨v, ?_, ?_⟩
      · rw [jloop]
        have e5 := p5_gg hF hT hk
        have hb : f_X5_allies_b34 (some 0) (nI p) (nI a, gg s n q, nI (pcN a)) (HP s) = some (.inr (.inr ((nI (a ||| 2 ^ k), gg s n k, nI (pcN a + 1)), HP s))) := by
          rcases foe_spec hF (nI k) with h3 | ⟨k2, hk2, -, h3⟩
          · have eg : gg s n k = -9 := by unfold gg; rw [if_pos h3]
            simp only [f_X5_allies_b34, if_neg s5, h, if_neg (nI_pos (show k < 2 ^ 31 by omega)), if_neg e1, p5_isIn (show k < 6 by omega), Option.bind_some, if_neg hnb, if_true, gR_0_3, qO_5, p4_foeOf hF hT (show k < 6 by omega), h3, p4_foe9, eg, or_dec a ha k (by omega), nI_1]
          · have eg : gg s n k = foe s n (nI k2) := by unfold gg; rw [h3, if_neg (nI_n9 (by omega))]
            simp only [f_X5_allies_b34, if_neg s5, h, if_neg (nI_pos (show k < 2 ^ 31 by omega)), if_neg e1, p5_isIn (show k < 6 by omega), Option.bind_some, if_neg hnb, if_true, gR_0_3, qO_5, p4_foeOf hF hT (show k < 6 by omega), h3, p4_foeOf hF hT (show k2 < 6 by omega), eg, or_dec a ha k (by omega), nI_1]
        rw [hb, ← hc]
        exact h1
      · rw [jloop]
        have j44 : f_X6_allies_b14_j44 (some 60) (nI p) (nI a) (gg s n q) (HP s) = some (.inr (.inr ((nI (a ||| 2 ^ k), nI k), HP s))) := by
          simp only [f_X6_allies_b14_j44, f_X6_allies_b14_j75, h, if_true, if_neg (nI_n9 (show k < 2 ^ 31 by omega)), if_neg e1, p6_has, Option.bind_some, if_neg hnb, or_dec a ha k (by omega)]
        have hb : f_X6_allies_b14 (some 60) (nI p) (nI a, nI q) (HP s) = some (.inr (.inr ((nI (a ||| 2 ^ k), nI k), HP s))) := by
          rw [← j44]
          unfold gg
          by_cases c : foe s n (nI q) = -9
          · simp only [f_X6_allies_b14, if_neg e9, qO_60, if_true, p6_foe hF, Option.bind_some, c]
          · simp only [f_X6_allies_b14, if_neg e9, qO_60, if_true, p6_foe hF, Option.bind_some, c, if_false]
        rw [hb]
        exact h2
    · have hbad : gg s n q = -9 ∨ gg s n q = nI p ∨ ∃ k, k < n ∧ gg s n q = nI k ∧ ¬ k = p ∧ a.testBit k = true := by
        rcases gg_spec hF q with h | ⟨k, hk, h⟩
        · exact Or.inl h
        · by_cases e : k = p
          · subst e; exact Or.inr (Or.inl h)
          · refine Or.inr (Or.inr ⟨k, hk, h, e, ?_⟩)
            cases ht : a.testBit k with
            | true => rfl
            | false => exact absurd ⟨k, hk, h, e, ht⟩ hgood
      refine ⟨nI a, ?_, ?_⟩
      · rw [jloop]
        rcases hbad with h | h | ⟨k, hk, h, e, ht⟩
        · simp only [f_X5_allies_b34, if_neg s5, h, if_pos (show (-9 : Int32) < 0 by decide)]
        · simp only [f_X5_allies_b34, if_neg s5, h, if_neg (nI_pos (show p < 2 ^ 31 by omega)), if_true]
        · have e1 : ¬ nI k = nI p := fun q => e ((nI_eq (by omega) (by omega)).mp q)
          simp only [f_X5_allies_b34, if_neg s5, h, if_neg (nI_pos (show k < 2 ^ 31 by omega)), if_neg e1, p5_isIn (show k < 6 by omega), Option.bind_some, if_pos ((bit_dec a ha k (by omega)).mpr ht), n10, if_false]
      · rw [jloop]
        have j44 : f_X6_allies_b14_j44 (some 60) (nI p) (nI a) (gg s n q) (HP s) = some (.inr (.inr ((nI a, -9), HP s))) := by
          rcases hbad with h | h | ⟨k, hk, h, e, ht⟩
          · simp only [f_X6_allies_b14_j44, f_X6_allies_b14_j68, f_X6_allies_b14_j75, h, if_true, Int32.or_zero]
          · simp only [f_X6_allies_b14_j44, f_X6_allies_b14_j68, f_X6_allies_b14_j75, h, if_true, if_neg (nI_n9 (show p < 2 ^ 31 by omega)), Int32.or_zero]
          · have e1 : ¬ nI k = nI p := fun q => e ((nI_eq (by omega) (by omega)).mp q)
            simp only [f_X6_allies_b14_j44, f_X6_allies_b14_j68, f_X6_allies_b14_j75, h, if_true, if_neg (nI_n9 (show k < 2 ^ 31 by omega)), if_neg e1, p6_has, Option.bind_some, if_pos ((bit_dec a ha k (by omega)).mpr ht), n10, if_false, Int32.or_zero]
        have hb : f_X6_allies_b14 (some 60) (nI p) (nI a, nI q) (HP s) = some (.inr (.inr ((nI a, -9), HP s))) := by
          rw [← j44]
          unfold gg
          by_cases c : foe s n (nI q) = -9
          · simp only [f_X6_allies_b14, if_neg e9, qO_60, if_true, p6_foe hF, Option.bind_some, c]
          · simp only [f_X6_allies_b14, if_neg e9, qO_60, if_true, p6_foe hF, Option.bind_some, c, if_false]
        rw [hb]
        show jloop _ (f' + 1) (nI a, -9) (HP s) = _
        rw [jloop]
        simp only [f_X6_allies_b14, if_true]
theorem ag_allies {s : ST} (hI : Inv s) (a0 : Int32) : ∃ (v : Int32) (s1 s2 : ST), f_X5_allies (some 0) a0 (HP s) = some (v, HP s1) ∧ f_X6_allies (some 60) a0 (HP s1) = some (v, HP s2) ∧ Inv s2 := by
  obtain ⟨n, hF, hT, hK⟩ := hI.1
  have h6 := hF.le
  rcases ix_n a0 (n := n) (by omega) with h | ⟨p, hp, rfl⟩
  · refine ⟨-1, s, s, ?_, ?_, hI⟩
    · simp only [f_X5_allies, gR_0_8, Option.bind_some, fk_q, if_true, p1_hasF hF h]
    · simp only [f_X6_allies, qO_60, if_true, p6_isPF hF h, Option.bind_some]
  obtain ⟨v, h1, h2⟩ := al_loop hF hT hp 5 0 p jfuel jfuel (by decide) (by omega) (Nat.zero_testBit p) hp (by unfold jfuel; omega) (by unfold jfuel; omega)
  have h1 : jloop (f_X5_allies_b34 (some 0) (nI p)) jfuel (0, gg s n p, 0) (HP s) = _ := h1
  have h2 : jloop (f_X6_allies_b14 (some 60) (nI p)) jfuel (0, nI p) (HP s) = _ := h2
  refine ⟨v, s, s, ?_, ?_, hI⟩
  · rcases foe_spec hF (nI p) with h3 | ⟨k2, hk2, -, h3⟩
    · have eg : gg s n p = -9 := by unfold gg; rw [if_pos h3]
      rw [eg] at h1
      simp only [f_X5_allies, gR_0_8, gR_0_3, qO_5, Option.bind_some, fk_q, if_true, p1_hasT hF hp, n10, if_false, p4_foeOf hF hT (show p < 6 by omega), h3, p4_foe9, h1]
    · have eg : gg s n p = foe s n (nI k2) := by unfold gg; rw [h3, if_neg (nI_n9 (by omega))]
      rw [eg] at h1
      simp only [f_X5_allies, gR_0_8, gR_0_3, qO_5, Option.bind_some, fk_q, if_true, p1_hasT hF hp, n10, if_false, p4_foeOf hF hT (show p < 6 by omega), h3, p4_foeOf hF hT (show k2 < 6 by omega), h1]
  · simp only [f_X6_allies, qO_60, if_true, p6_isPT hF hp, Option.bind_some, n10, if_false, h2]
