/-! ===== rings ===== -/
theorem sv_inj {s : ST} {n t : Nat} (hS : InvS s n 6 7 8 t 1) {p q k : Nat} (hp : p < n) (hq : q < n) (h6 : n ≤ 6) (hk : k < 6) (h1 : sV s 61 (1 + p) = nI k) (h2 : sV s 61 (1 + q) = nI k) : p = q :=
  hS.2.2.1 p q hp hq (h1.trans h2.symm) (by rw [h1]; exact nI_n9 (by omega))
theorem ri_loop {s : ST} {n t p : Nat} (hF : InvF s n) (ht : t ≤ 40) (hs : sI s 163 = nI t) (hS : InvS s n 6 7 8 t 1) (hp : p < n) : ∀ (m a q f f' : Nat), pcN a + m = 5 → a < 64 → q < n → a.testBit q = false → (a.testBit p = true ∨ q = p) → (q = p ∨ ∃ z, z < n ∧ a.testBit z = true ∧ sV s 61 (1 + z) = nI q) → (∀ y, y < n → a.testBit y = true → y ≠ p → ∃ z, z < n ∧ a.testBit z = true ∧ sV s 61 (1 + z) = nI y) → m < f → m + 1 < f' → ∃ v : Nat, v < 64 ∧ jloop (f_X5_ringOf_b7 (some 0) (nI p)) f (nI a, nI q, nI (pcN a)) (HP s) = some (.inl (nI v, HP s)) ∧ ∀ s' : ST, sV s' = sV s → ∃ (a' x' : Int32), jloop (f_X6_ringOf_b4 (some 60) (nI p)) f' (nI a, nI q) (HP s') = some (.inr ((a', x'), HP s')) ∧ (if x' = nI p then a' else 0) = nI v := by
  have h6 := hF.le
  intro m
  induction m with
  | zero =>
    intro a q f f' hm ha hq haq hap hfr hin hf hf'
    obtain ⟨f, rfl⟩ : ∃ g, f = g + 1 := ⟨f - 1, by omega⟩
    obtain ⟨f', rfl⟩ : ∃ g, f' = g + 2 := ⟨f' - 2, by omega⟩
    have s5 : ¬ (6 : Int32) ≤ nI (pcN a) := nI_ge (b := 6) (by omega) (by omega)
    have e9 : ¬ nI q = -9 := nI_n9 (by omega)
    have hnb : ¬ (nI a >>> (nI q &&& 31)) &&& 1 = 1 := fun z => by have := (bit_dec a ha q (by omega)).mp z; rw [haq] at this; cases this
    have hap2 : (a ||| 2 ^ q).testBit p = true := by
      rw [tb_or]
      rcases hap with h | h
      · rw [h]; rfl
      · simp [h]
    have hlt := or_lt (k := q) ha (by omega)
    have b6 : ∀ s' : ST, sV s' = sV s → f_X6_ringOf_b4 (some 60) (nI p) (nI a, nI q) (HP s') = some (.inr (.inr ((nI (a ||| 2 ^ q), sV s 61 (1 + q)), HP s'))) := fun s' e => by
      simp only [f_X6_ringOf_b4, if_neg e9, p6_has, Option.bind_some, if_neg hnb, if_true, qO_60, p6_victim s' (show q < 6 by omega), e, or_dec a ha q (by omega)]
    rcases (hS.1 q hq).2 with h | ⟨k, hk, hkq, h⟩
    · refine ⟨0, by omega, ?_, fun s' e => ⟨nI (a ||| 2 ^ q), -9, ?_, ?_⟩⟩
      · rw [jloop]
        simp only [f_X5_ringOf_b7, if_neg s5, gR_0_3, Option.bind_some, qO_5, if_true, p4_victimOf ht hs (show q < 6 by omega), (hS.1 q hq).1, h, if_neg (fun z : (-9 : Int32) = nI p => nI_n9 (show p < 2 ^ 31 by omega) z.symm), if_neg (show ¬ (0 : Int32) ≤ -9 by decide)]
        rfl
      · rw [jloop, b6 s' e, h]
        show jloop _ (f' + 1) (nI (a ||| 2 ^ q), -9) (HP s') = _
        rw [jloop]
        simp only [f_X6_ringOf_b4, if_true]
      · rw [if_neg (fun z : (-9 : Int32) = nI p => nI_n9 (show p < 2 ^ 31 by omega) z.symm)]
        rfl
    · have hkp : k = p := by
        by_cases e : k = p
        · exact e
        exfalso
        have ht2 : (a ||| 2 ^ q).testBit k = false := by
          cases hb : (a ||| 2 ^ q).testBit k with
          | false => rfl
          | true =>
            rw [tb_or] at hb
            have hak : a.testBit k = true := by
              have : decide (q = k) = false := by simp; omega
              rw [this, Bool.or_false] at hb
              exact hb
            obtain ⟨z, hz, hz1, hz2⟩ := hin k hk hak e
            have := sv_inj hS hz hq h6 (show k < 6 by omega) hz2 h
            subst this
            rw [haq] at hz1
            cases hz1
        have h1 := pcN_or a ha q (by omega) haq
        have h2 := pcN_le _ hlt k (by omega) ht2
        omega
      subst hkp
      refine ⟨a ||| 2 ^ q, hlt, ?_, fun s' e => ⟨nI (a ||| 2 ^ q), nI k, ?_, ?_⟩⟩
      · rw [jloop]
        simp only [f_X5_ringOf_b7, if_neg s5, gR_0_3, Option.bind_some, qO_5, if_true, p4_victimOf ht hs (show q < 6 by omega), (hS.1 q hq).1, h, or_dec a ha q (by omega)]
      · rw [jloop, b6 s' e, h]
        show jloop _ (f' + 1) (nI (a ||| 2 ^ q), nI k) (HP s') = _
        rw [jloop]
        simp only [f_X6_ringOf_b4, if_neg (nI_n9 (show k < 2 ^ 31 by omega)), p6_has, Option.bind_some, if_pos ((bit_dec _ hlt k (by omega)).mpr hap2), n10, if_false]
      · rw [if_pos rfl]
  | succ m ih =>
    intro a q f f' hm ha hq haq hap hfr hin hf hf'
    obtain ⟨f, rfl⟩ : ∃ g, f = g + 1 := ⟨f - 1, by omega⟩
    obtain ⟨f', rfl⟩ : ∃ g, f' = g + 2 := ⟨f' - 2, by omega⟩
    have s5 : ¬ (6 : Int32) ≤ nI (pcN a) := nI_ge (b := 6) (by omega) (by omega)
    have e9 : ¬ nI q = -9 := nI_n9 (by omega)
    have hnb : ¬ (nI a >>> (nI q &&& 31)) &&& 1 = 1 := fun z => by have := (bit_dec a ha q (by omega)).mp z; rw [haq] at this; cases this
    have hap2 : (a ||| 2 ^ q).testBit p = true := by
      rw [tb_or]
      rcases hap with h | h
      · rw [h]; rfl
      · simp [h]
    have hlt := or_lt (k := q) ha (by omega)
    have b6 : ∀ s' : ST, sV s' = sV s → f_X6_ringOf_b4 (some 60) (nI p) (nI a, nI q) (HP s') = some (.inr (.inr ((nI (a ||| 2 ^ q), sV s 61 (1 + q)), HP s'))) := fun s' e => by
      simp only [f_X6_ringOf_b4, if_neg e9, p6_has, Option.bind_some, if_neg hnb, if_true, qO_60, p6_victim s' (show q < 6 by omega), e, or_dec a ha q (by omega)]
    rcases (hS.1 q hq).2 with h | ⟨k, hk, hkq, h⟩
    · refine ⟨0, by omega, ?_, fun s' e => ⟨nI (a ||| 2 ^ q), -9, ?_, ?_⟩⟩
      · rw [jloop]
        simp only [f_X5_ringOf_b7, if_neg s5, gR_0_3, Option.bind_some, qO_5, if_true, p4_victimOf ht hs (show q < 6 by omega), (hS.1 q hq).1, h, if_neg (fun z : (-9 : Int32) = nI p => nI_n9 (show p < 2 ^ 31 by omega) z.symm), if_neg (show ¬ (0 : Int32) ≤ -9 by decide)]
        rfl
      · rw [jloop, b6 s' e, h]
        show jloop _ (f' + 1) (nI (a ||| 2 ^ q), -9) (HP s') = _
        rw [jloop]
        simp only [f_X6_ringOf_b4, if_true]
      · rw [if_neg (fun z : (-9 : Int32) = nI p => nI_n9 (show p < 2 ^ 31 by omega) z.symm)]
        rfl
    · by_cases hkp : k = p
      · subst hkp
        refine ⟨a ||| 2 ^ q, hlt, ?_, fun s' e => ⟨nI (a ||| 2 ^ q), nI k, ?_, ?_⟩⟩
        · rw [jloop]
          simp only [f_X5_ringOf_b7, if_neg s5, gR_0_3, Option.bind_some, qO_5, if_true, p4_victimOf ht hs (show q < 6 by omega), (hS.1 q hq).1, h, or_dec a ha q (by omega)]
        · rw [jloop, b6 s' e, h]
          show jloop _ (f' + 1) (nI (a ||| 2 ^ q), nI k) (HP s') = _
          rw [jloop]
          simp only [f_X6_ringOf_b4, if_neg (nI_n9 (show k < 2 ^ 31 by omega)), p6_has, Option.bind_some, if_pos ((bit_dec _ hlt k (by omega)).mpr hap2), n10, if_false]
        · rw [if_pos rfl]
      · have ht2 : (a ||| 2 ^ q).testBit k = false := by
          cases hb : (a ||| 2 ^ q).testBit k with
          | false => rfl
          | true =>
            rw [tb_or] at hb
            have hak : a.testBit k = true := by
              have : decide (q = k) = false := by simp; omega
              rw [this, Bool.or_false] at hb
              exact hb
            obtain ⟨z, hz, hz1, hz2⟩ := hin k hk hak hkp
            have := sv_inj hS hz hq h6 (show k < 6 by omega) hz2 h
            subst this
            rw [haq] at hz1
            cases hz1
        have hc := pcN_or a ha q (by omega) haq
        have e1 : ¬ nI k = nI p := fun z => hkp ((nI_eq (by omega) (by omega)).mp z)
        obtain ⟨v, hv, h1, h2⟩ := ih (a ||| 2 ^ q) k f (f' + 1) (by omega) hlt hk ht2 (Or.inl hap2) (Or.inr ⟨q, hq, by rw [tb_or]; simp, h⟩) (fun y hy hby hyp => by
          rw [tb_or] at hby
          by_cases hyq : q = y
          · subst hyq
            rcases hfr with w | ⟨z, hz, hz1, hz2⟩
            · exact absurd w hyp
            · exact ⟨z, hz, by rw [tb_or, hz1]; rfl, hz2⟩
          · have hak : a.testBit y = true := by simpa [hyq] using hby
            obtain ⟨z, hz, hz1, hz2⟩ := hin y hy hak hyp
            exact ⟨z, hz, by rw [tb_or, hz1]; rfl, hz2⟩) (by omega) (by omega)
        refine ⟨v, hv, ?_, fun s' e => ?_⟩
        · rw [jloop]
          have hb : f_X5_ringOf_b7 (some 0) (nI p) (nI a, nI q, nI (pcN a)) (HP s) = some (.inr (.inr ((nI (a ||| 2 ^ q), nI k, nI (pcN a + 1)), HP s))) := by
            simp only [f_X5_ringOf_b7, if_neg s5, gR_0_3, Option.bind_some, qO_5, if_true, p4_victimOf ht hs (show q < 6 by omega), (hS.1 q hq).1, h, if_neg e1, if_pos (nI_pos' (show k < 2 ^ 31 by omega)), or_dec a ha q (by omega), nI_1]
          rw [hb, ← hc]
          exact h1
        · obtain ⟨a', x', h3, h4⟩ := h2 s' e
          refine ⟨a', x', ?_, h4⟩
          rw [jloop, b6 s' e, h]
          exact h3
theorem ri_ex {s : ST} {n t p : Nat} (hF : InvF s n) (ht : t ≤ 40) (hs : sI s 163 = nI t) (hS : InvS s n 6 7 8 t 1) (hp : p < n) : ∃ v : Nat, v < 64 ∧ f_X5_ringOf (some 0) (nI p) (HP s) = some (nI v, HP s) ∧ ∀ s' : ST, sV s' = sV s → f_X6_ringOf (some 60) (nI p) (HP s') = some (nI v, HP s') := by
  obtain ⟨v, hv, h1, h2⟩ := ri_loop hF ht hs hS hp 5 0 p jfuel jfuel (by decide) (by omega) hp (Nat.zero_testBit p) (Or.inr rfl) (Or.inl rfl) (fun y _ h => by rw [Nat.zero_testBit] at h; cases h) (by unfold jfuel; omega) (by unfold jfuel; omega)
  have h1 : jloop (f_X5_ringOf_b7 (some 0) (nI p)) jfuel (0, nI p, 0) (HP s) = _ := h1
  refine ⟨v, hv, ?_, fun s' e => ?_⟩
  · simp only [f_X5_ringOf, h1, Option.bind_some]
  · obtain ⟨a', x', h3, h4⟩ := h2 s' e
    have h3 : jloop (f_X6_ringOf_b4 (some 60) (nI p)) jfuel (0, nI p) (HP s') = _ := h3
    simp only [f_X6_ringOf, h3, Option.bind_some, f_X6_ringOf_j33]
    rw [← h4]
    split <;> rfl
set_option maxRecDepth 100000 in
theorem oo_dec : ∀ a, a < 64 → ∀ b, b < 64 → nI a ||| nI b = nI (a ||| b) := by decide +kernel
set_option maxRecDepth 100000 in
theorem pc_ge0 : ∀ a, a < 64 → pc 0 ≤ pc (nI a) := by decide +kernel
/-- how many, the longest, those seen -/
def riF (R : Nat → Nat) (p : Nat) (a : Int32 × Nat × Nat) : Int32 × Nat × Nat := if (if a.2.2.testBit p then 0 else R p) = 0 then a else (a.1 + 1, (if pc (nI (R p)) ≤ pc (nI a.2.1) then a.2.1 else R p), a.2.2 ||| R p)
theorem ri_ok {R : Nat → Nat} {p : Nat} {a : Int32 × Nat × Nat} (hR : R p < 64) (h : a.2.1 < 64 ∧ a.2.2 < 64) : (riF R p a).2.1 < 64 ∧ (riF R p a).2.2 < 64 := by
  unfold riF
  by_cases c : (if a.2.2.testBit p = true then 0 else R p) = 0
  · rw [if_pos c]
    exact h
  · rw [if_neg c]
    refine ⟨?_, Nat.or_lt_two_pow (n := 6) h.2 hR⟩
    show (if pc (nI (R p)) ≤ pc (nI a.2.1) then a.2.1 else R p) < 64
    split
    · exact h.1
    · exact hR
theorem ag_rings {s : ST} (hI : Inv s) : ∃ (v : Int32) (s1 s2 : ST), f_X5_rings (some 0) (HP s) = some (v, HP s1) ∧ f_X6_rings (some 60) (HP s1) = some (v, HP s2) ∧ Inv s2 := by
  obtain ⟨n, hF, hT, hK⟩ := hI.1
  have h6 := hF.le
  obtain ⟨t, ht, hs, -, hS, -⟩ := hT.t
  obtain ⟨R, hR⟩ : ∃ R : Nat → Nat, ∀ p, p < n → R p < 64 ∧ f_X5_ringOf (some 0) (nI p) (HP s) = some (nI (R p), HP s) ∧ ∀ s' : ST, sV s' = sV s → f_X6_ringOf (some 60) (nI p) (HP s') = some (nI (R p), HP s') :=
    ⟨fun p => if h : p < n then (ri_ex hF ht hs hS h).choose else 0, fun p hp => by
      show (dite (p < n) _ _) < 64 ∧ _
      simp only [hp, dite_true]
      exact (ri_ex hF ht hs hS hp).choose_spec⟩
  have l5 := jfoldH (body := f_X5_rings_b9 (some 0)) (n := n) (fun (a : Int32 × Nat × Nat) j => (a.1, nI a.2.1, nI a.2.2, nI j)) (fun a => (a.1, nI a.2.1)) (fun _ => HP s) (riF R) (fun _ a => a.2.1 < 64 ∧ a.2.2 < 64) (fun j a hj h => ri_ok (hR j hj).1 h) (fun a _ => by
      simp only [f_X5_rings_b9, gR_0_8, Option.bind_some, fk_n, hF.2.2.1, if_pos (nI_le (Nat.le_refl n) (show n < 2 ^ 31 by omega))]) (fun j a hj h => by
      have hrj := (hR j hj).1
      simp only [f_X5_rings_b9, f_X5_rings_b9_j40, gR_0_8, Option.bind_some, fk_n, hF.2.2.1, if_neg (nI_ge hj (show n < 2 ^ 31 by omega)), p5_isIn (show j < 6 by omega), qO_0, (hR j hj).2.1, if_true, nI_1, riF, p_bitCount hrj, p_bitCount h.1, oo_dec a.2.2 h.2 (R j) hrj]
      by_cases c1 : a.2.2.testBit j = true
      · simp only [if_pos ((bit_dec a.2.2 h.2 j (by omega)).mpr c1), n10, if_false, c1, if_true]
      · have c2 : ¬ (nI a.2.2 >>> (nI j &&& 31)) &&& 1 = 1 := fun z => c1 ((bit_dec a.2.2 h.2 j (by omega)).mp z)
        simp only [if_neg c2, if_true, c1, if_false, nI_z (show R j ≤ 100 by omega), Bool.false_eq_true]
        by_cases c3 : R j = 0
        · simp only [c3, if_true]
        · by_cases c4 : pc (nI (R j)) ≤ pc (nI a.2.1)
          · simp only [c3, c4, if_true, if_false]
          · simp only [c3, c4, if_true, if_false]) n jfuel 0 (0, 0, 0) (by omega) (by unfold jfuel; omega) ⟨by show 0 < 64; omega, by show 0 < 64; omega⟩
  have l6 := fun w => jfoldH (body := f_X6_rings_b11 (some 60)) (n := n) (fun (a : Int32 × Nat × Nat) j => (a.1, nI a.2.2, nI j)) (fun a => a.1) (fun a => HP (uI (uI s 11 w) 1931 (nI a.2.1))) (riF R) (fun _ a => a.2.1 < 64 ∧ a.2.2 < 64) (fun j a hj h => ri_ok (hR j hj).1 h) (fun a _ => by
      simp only [f_X6_rings_b11, gI_60_1, Option.bind_some, sI_uI, if_neg (show ¬ 1921 = 1931 by omega), if_neg (show ¬ 1921 = 11 by omega), hF.2.1, if_pos (nI_le (Nat.le_refl n) (show n < 2 ^ 31 by omega))]) (fun j a hj h => by
      have hrj := (hR j hj).1
      have eu : ∀ y, uI (uI (uI s 11 w) 1931 (nI a.2.1)) 1931 y = uI (uI s 11 w) 1931 y := fun y => by
        unfold uI
        simp only [Prod.mk.injEq, and_true]
        funext k
        by_cases hk : k = 1931 <;> simp [hk]
      simp only [f_X6_rings_b11, f_X6_rings_b11_j36, f_X6_rings_b11_j54, f_X6_rings_b11_j81, gI_60_1, gI_60_11, sF_60_11, Option.bind_some, sI_uI, if_neg (show ¬ 1921 = 1931 by omega), if_neg (show ¬ 1921 = 11 by omega), hF.2.1, if_neg (nI_ge hj (show n < 2 ^ 31 by omega)), p6_has, qO_60, (hR j hj).2.2 (uI (uI s 11 w) 1931 (nI a.2.1)) rfl, if_true, nI_1, riF, p6_bits, oo_dec a.2.2 h.2 (R j) hrj, eu, Int32.add_zero, Int32.or_zero]
      by_cases c1 : a.2.2.testBit j = true
      · simp only [if_pos ((bit_dec a.2.2 h.2 j (by omega)).mpr c1), n10, if_false, c1, if_true, pc_ge0 a.2.1 h.1]
      · have c2 : ¬ (nI a.2.2 >>> (nI j &&& 31)) &&& 1 = 1 := fun z => c1 ((bit_dec a.2.2 h.2 j (by omega)).mp z)
        simp only [if_neg c2, if_true, c1, if_false, nI_z (show R j ≤ 100 by omega), Bool.false_eq_true]
        by_cases c3 : R j = 0
        · have e0 : nI (R j) = 0 := by rw [c3]; rfl
          simp only [c3, if_true, Nat.or_zero, show nI 0 = 0 from rfl, pc_ge0 a.2.1 h.1]
        · by_cases c4 : pc (nI (R j)) ≤ pc (nI a.2.1)
          · simp only [c3, c4, if_true, if_false]
          · simp only [c3, c4, if_true, if_false]) n jfuel 0 (0, 0, 0) (by omega) (by unfold jfuel; omega) ⟨by show 0 < 64; omega, by show 0 < 64; omega⟩
  have m5 := l5.1
  have m6 := fun w => (l6 w).1
  generalize fold (riF R) n 0 (0, 0, 0) = r at m5 m6
  have m5 : jloop (f_X5_rings_b9 (some 0)) jfuel (0, 0, 0, 0) (HP s) = some (.inr ((r.1, nI r.2.1), HP s)) := m5
  have m6 : jloop (f_X6_rings_b11 (some 60)) jfuel (0, 0, 0) (HP (uI (uI s 11 (nI r.2.1)) 1931 0)) = some (.inr (r.1, HP (uI (uI s 11 (nI r.2.1)) 1931 (nI r.2.1)))) := m6 (nI r.2.1)
  refine ⟨r.1, uI s 11 (nI r.2.1), uI (uI s 11 (nI r.2.1)) 1931 (nI r.2.1), ?_, ?_, inv_tell hI (nI r.2.1)⟩
  · simp only [f_X5_rings, m5, Option.bind_some, sF_0_11]
  · simp only [f_X6_rings, sF_60_11, Option.bind_some, m6]
