/-! ===== chances in lowest terms; maps, odds, both ===== -/
theorem lg0_eq {b : Nat} (hb : b < 2 ^ 31) : (lg_cmp (lN b) 0 = 0) = (b = 0) := propext (by
  unfold lg_cmp
  by_cases h : b = 0
  · subst h
    simp [lN]
  · have h1 : lN b > 0 := (lN_lt (a := 0) (b := b) (by omega) hb).mpr (by omega)
    rw [if_pos h1]
    simp [h])
theorem lg0_le {b : Nat} (hb : b < 2 ^ 31) : (lg_cmp (lN b) 0 ≤ 0) = (b = 0) := propext (by
  unfold lg_cmp
  by_cases h : b = 0
  · subst h
    simp [lN]
  · have h1 : lN b > 0 := (lN_lt (a := 0) (b := b) (by omega) hb).mpr (by omega)
    rw [if_pos h1]
    simp [h])
theorem lN_z {b : Nat} (hb : b < 2 ^ 31) : (lN b = 0) = (b = 0) := propext (lN_eq (b := 0) hb (by omega))
theorem gcd_step (a b : Nat) : Nat.gcd b (a % b) = Nat.gcd a b := by
  rw [Nat.gcd_comm b, Nat.gcd_comm a, ← Nat.gcd_rec]
theorem eu6 (x y : Int64) (ah : AH) : ∀ (b a f : Nat), b < f → a < 2 ^ 31 → b < 2 ^ 31 → jloop (f_X6_tellParts_b6 (some 60) x y) f (lN a, lN b) ah = some (.inr (lN (Nat.gcd a b), ah)) := by
  intro b
  induction b using Nat.strongRecOn with
  | ind b ih =>
    intro a f hf ha hb
    obtain ⟨f, rfl⟩ : ∃ f', f = f' + 1 := ⟨f - 1, by omega⟩
    rw [jloop]
    simp only [f_X6_tellParts_b6, lg0_eq hb, lN_z hb]
    by_cases h : b = 0
    · subst h
      simp only [if_true, Nat.gcd_zero_right]
    · simp only [h, if_false, pk_lRem (show a < 2 ^ 63 by omega) (show 0 < b by omega) (show b < 2 ^ 63 by omega)]
      have hr := Nat.mod_lt a (show b > 0 by omega)
      have := ih (a % b) hr b f (by omega) hb (by omega)
      rw [gcd_step] at this
      exact this
theorem eu5 (ah : AH) : ∀ (k a b j f : Nat), b < 2 ^ k → j + 2 * k + 1 ≤ 100 → 2 * k + 1 < f → a < 2 ^ 31 → b < 2 ^ 31 → jloop f_X5_commonDivisor_b9 f (lN a, lN b, nI j) ah = some (.inr (lN (Nat.gcd a b), ah)) := by
  intro k
  induction k with
  | zero =>
    intro a b j f hk hj hf ha hb
    obtain ⟨f, rfl⟩ : ∃ f', f = f' + 1 := ⟨f - 1, by omega⟩
    have e : b = 0 := by simpa using hk
    subst e
    rw [jloop]
    simp only [f_X5_commonDivisor_b9, if_neg (show ¬ (100 : Int32) ≤ nI j from nI_ge (b := 100) (by omega) (by omega)), lg0_le hb, if_true, Nat.gcd_zero_right]
  | succ k ih =>
    intro a b j f hk hj hf ha hb
    obtain ⟨f, rfl⟩ : ∃ f', f = f' + 2 := ⟨f - 2, by omega⟩
    rw [jloop]
    simp only [f_X5_commonDivisor_b9, if_neg (show ¬ (100 : Int32) ≤ nI j from nI_ge (b := 100) (by omega) (by omega)), lg0_le hb, lN_z hb]
    by_cases h : b = 0
    · subst h
      simp only [if_true, Nat.gcd_zero_right]
    · have hr := Nat.mod_lt a (show b > 0 by omega)
      simp only [h, if_false, pk_lRem (show a < 2 ^ 63 by omega) (show 0 < b by omega) (show b < 2 ^ 63 by omega), nI_1]
      show jloop f_X5_commonDivisor_b9 (f + 1) (lN b, lN (a % b), nI (j + 1)) ah = _
      rw [jloop]
      simp only [f_X5_commonDivisor_b9, if_neg (show ¬ (100 : Int32) ≤ nI (j + 1) from nI_ge (b := 100) (by omega) (by omega)), lg0_le (show a % b < 2 ^ 31 by omega), lN_z (show a % b < 2 ^ 31 by omega)]
      rw [← gcd_step a b]
      by_cases h2 : a % b = 0
      · simp only [h2, if_true, Nat.gcd_zero_right]
      · have hr2 := Nat.mod_lt b (show a % b > 0 by omega)
        simp only [h2, if_false, pk_lRem (show b < 2 ^ 63 by omega) (show 0 < a % b by omega) (show a % b < 2 ^ 63 by omega), nI_1]
        have hh : b % (a % b) < 2 ^ k := by
          have h3 := Nat.div_add_mod b (a % b)
          have h4 : 1 ≤ b / (a % b) := Nat.div_pos (by omega) (by omega)
          have h5 : a % b * 1 ≤ a % b * (b / (a % b)) := Nat.mul_le_mul_left _ h4
          rw [Nat.pow_succ] at hk
          omega
        have := ih (a % b) (b % (a % b)) (j + 1 + 1) f hh (by omega) (by omega) (by omega) (by omega)
        rw [gcd_step] at this
        exact this
theorem p5_tell (s : ST) {a b : Nat} (ha : a < 2 ^ 31) (hb : b < 512) (h0 : 0 < b) : f_X5_tell (some 0) (lN a) (lN b) (HP s) = some (1, HP (uL (uL s 0 (lN (a / Nat.gcd a b))) 1 (lN (b / Nat.gcd a b)))) := by
  have hg : 0 < Nat.gcd a b := Nat.gcd_pos_of_pos_right a h0
  have hgb : Nat.gcd a b ≤ b := Nat.gcd_le_right a h0
  have l : jloop f_X5_commonDivisor_b9 jfuel (lN a, lN b, 0) (HP s) = _ := eu5 (HP s) 9 a b 0 jfuel (by omega) (by omega) (by unfold jfuel; omega) ha (by omega)
  simp only [f_X5_tell, f_X5_commonDivisor, l, Option.bind_some, lg0_le (show Nat.gcd a b < 2 ^ 31 by omega), lN_z (show Nat.gcd a b < 2 ^ 31 by omega), if_neg (show ¬ Nat.gcd a b = 0 by omega), sF_0_12, sF_0_13, pk_lDiv (show a < 2 ^ 63 by omega) hg (show Nat.gcd a b < 2 ^ 63 by omega), pk_lDiv (show b < 2 ^ 63 by omega) hg (show Nat.gcd a b < 2 ^ 63 by omega)]
theorem p6_tellParts (s : ST) {a b : Nat} (ha : a < 2 ^ 31) (hb : b < 512) (h0 : 0 < b) : f_X6_tellParts (some 60) (lN a) (lN b) (HP s) = some (1, HP (uL (uL s 2 (lN (a / Nat.gcd a b))) 3 (lN (b / Nat.gcd a b)))) := by
  have hg : 0 < Nat.gcd a b := Nat.gcd_pos_of_pos_right a h0
  have hgb : Nat.gcd a b ≤ b := Nat.gcd_le_right a h0
  have l := eu6 (lN a) (lN b) (HP s) b a jfuel (by unfold jfuel; omega) ha (by omega)
  simp only [f_X6_tellParts, l, Option.bind_some, lN_z (show Nat.gcd a b < 2 ^ 31 by omega), if_neg (show ¬ Nat.gcd a b = 0 by omega), sF_60_12, sF_60_13, pk_lDiv (show a < 2 ^ 63 by omega) hg (show Nat.gcd a b < 2 ^ 63 by omega), pk_lDiv (show b < 2 ^ 63 by omega) hg (show Nat.gcd a b < 2 ^ 63 by omega)]
theorem inv_uL {s : ST} (hI : Inv s) (u v : Int64) : Inv (uL (uL (uL (uL s 0 u) 1 v) 2 u) 3 v) :=
  ⟨InvA_same (((SameT.uL.trans SameT.uL).trans SameT.uL).trans SameT.uL) hI.1, InvR_same (((SameR.uL.trans SameR.uL).trans SameR.uL).trans SameR.uL) hI.2.1, ⟨hI.2.2.1, hI.2.2.2.1, rfl, rfl, hI.2.2.2.2.2.2⟩⟩
theorem InvF_L {s : ST} {n k : Nat} {v : Int64} (hF : InvF s n) : InvF (uL s k v) n := InvF_same SameT.uL hF
theorem mpl_65 {s s' : ST} (h : sV s' 65 = sV s 65) : mpl s' = mpl s := by
  funext n V x
  unfold mpl Bx lvN
  rw [h]
theorem p1_everyone {s : ST} {n : Nat} (hF : InvF s n) : f_X1_everyone (some (fA (sW s))) (HP s) = some (nI (2 ^ n - 1), HP s) := by
  have h6 := hF.le
  simp only [f_X1_everyone, fk_n, Option.bind_some, hF.2.2.1, (ev_dec n (by omega)).1]
theorem yx0 : yx 0 = 1 := by decide
theorem yx1 : yx 1 = 0 := by decide
theorem pow_pred (n : Nat) : 2 ^ n - 1 < 2 ^ n := by have := Nat.two_pow_pos n; omega
/-- behind both tellings -/
theorem inv_told {s sA sB : ST} (hI : Inv s) (u v : Int64) (h1 : SameS s sA) (h2 : SameS (uL (uL sA 0 u) 1 v) sB) : Inv (uL (uL sB 2 u) 3 v) :=
  Inv_S (cS_L (cS_L ((cS_L (cS_L h1 0 u) 1 v).trans h2) 2 u) 3 v) (inv_uL hI u v)
theorem ag_maps {s : ST} (hI : Inv s) : ∃ (v : Int32) (s1 s2 : ST), f_X5_maps (some 0) (HP s) = some (v, HP s1) ∧ f_X6_maps (some 60) (HP s1) = some (v, HP s2) ∧ Inv s2 := by
  obtain ⟨n, hF, hT, hK⟩ := hI.1
  have h6 := hF.le
  by_cases hn : n = 0
  · subst hn
    refine ⟨-4, s, s, ?_, ?_, hI⟩
    · simp only [f_X5_maps, gR_0_8, Option.bind_some, fk_n, hF.2.2.1, if_pos (show nI 0 = 0 from rfl)]
    · simp only [f_X6_maps, gI_60_1, Option.bind_some, hF.2.1, if_pos (show nI 0 = 0 from rfl)]
  obtain ⟨sA, a1, a2, a3⟩ := p0_seek (x := 0) hF (pow_pred n)
  have hlen := mpl_len (x := 0) hF (pow_pred n)
  generalize hL : mpl s n (2 ^ n - 1) 0 = L at a3 hlen
  have e1 : Nat.gcd L.length 1 = 1 := Nat.gcd_one_right _
  have t1 := p5_tell sA (a := L.length) (b := 1) (by omega) (by omega) (by omega)
  rw [e1, Nat.div_one] at t1
  have hF1 : InvF (uL (uL sA 0 (lN L.length)) 1 (lN 1)) n := InvF_L (InvF_L (InvF_S a2 hF))
  obtain ⟨sB, b1, b2, b3⟩ := p6_lay 0 hF1 hn
  rw [mpl_65 (s := s) (by rw [sV_uL, sV_uL]; exact S_V a2 (by unfold ScA; omega)), hL] at b3
  refine ⟨1, uL (uL sA 0 (lN L.length)) 1 (lN 1), uL (uL sB 2 (lN L.length)) 3 (lN 1), ?_, ?_, inv_told hI _ _ a2 b2⟩
  · have t1 : f_X5_tell (some 0) (lN L.length) 1 (HP sA) = _ := t1
    simp only [f_X5_maps, gR_0_8, Option.bind_some, fk_n, hF.2.2.1, n_eq0 h6, hn, if_false, gR_0_5, fk_q, if_true, p1_everyone hF, qO_10, a1, gI_10_3, a3.1, nI_l (show L.length < 2 ^ 31 by omega), qO_0, t1]
  · rw [yx0] at b1
    simp only [f_X6_maps, gI_60_1, Option.bind_some, hF1.2.1, n_eq0 h6, hn, if_false, qO_60, if_true, b1, gI_60_26, b3.1, f_X6_tellMany, nI_l (show L.length < 2 ^ 31 by omega), sF_60_12, sF_60_13]
    rfl
/-! how many have a pair -/
theorem HA.at {s : ST} {n i : Nat} {L : List (Nat → Nat)} (h : HA s n L) (hi : i < L.length) : sV s 11 i = nI (cod n (L.getD i T0) n) := h.2.2 i _ (by rw [List.getD_eq_getElem?_getD, List.getElem?_eq_getElem hi]; rfl)
theorem HR.at {s : ST} {n i : Nat} {L : List (Nat → Nat)} (h : HR s n L) (hi : i < L.length) : sV s 75 i = nI (cod n (L.getD i T0) n) := h.2 i _ (by rw [List.getD_eq_getElem?_getD, List.getElem?_eq_getElem hi]; rfl)
def vI (n v : Nat) : Int32 := if v < n then nI v else -9
theorem p0_victimIn {s : ST} {n i p : Nat} {L : List (Nat → Nat)} (h6 : n ≤ 6) (hA : HA s n L) (hL : L.length ≤ 320) (hi : i < L.length) (hp : p < n) : f_X0_victimIn (some 10) (nI i) (nI p) (HP s) = some (vI n (L.getD i T0 p), HP s) := by
  simp only [f_X0_victimIn, if_neg (nI_pos (show i < 2 ^ 31 by omega)), gI_10_3, Option.bind_some, hA.1, if_neg (nI_ge hi (show L.length < 2 ^ 31 by omega)), if_pos (show nI i < 320 from nI_lt (b := 320) (by omega) (by omega)), gR_10_0, g11 _ (show i < 320 by omega), hA.at hi, dig_at h6 _ hp]
  unfold cd vI
  by_cases c : L.getD i T0 p < n
  · have e : ¬ nI (L.getD i T0 p) = 7 := fun z => by have := (nI_eq (b := 7) (by omega) (by omega)).mp z; omega
    rw [if_pos c, if_neg e, if_pos c]
  · rw [if_neg c, if_pos (show nI 7 = 7 from rfl), if_neg c]
theorem vI_eq {n v q : Nat} (h6 : n ≤ 6) (hq : q < n) : (vI n v = nI q) = (v = q) := propext (by
  unfold vI
  by_cases c : v < n
  · rw [if_pos c, nI_eq (by omega) (by omega)]
  · rw [if_neg c]
    exact ⟨fun z => absurd z.symm (nI_n9 (by omega)), fun z => by omega⟩)
theorem cd_eq {n v q : Nat} (h6 : n ≤ 6) (hq : q < n) : (nI (cd n v) = nI q) = (v = q) := propext (by
  unfold cd
  by_cases c : v < n
  · rw [if_pos c, nI_eq (by omega) (by omega)]
  · rw [if_neg c, nI_eq (by omega) (by omega)]
    omega)
theorem p6_of {n p : Nat} (h6 : n ≤ 6) (T : Nat → Nat) (hp : p < n) (ah : AH) : f_X6_of (nI (cod n T n)) (nI p) ah = some (nI (cd n (T p)), ah) := by
  simp only [f_X6_of, dig_at h6 T hp]
def cpF (L : List (Nat → Nat)) (p q : Nat) (j a : Nat) : Nat := if L.getD j T0 p = q then a + 1 else a
def cmF2 (L : List (Nat → Nat)) (p q : Nat) (j a : Nat) : Nat := if L.getD j T0 p = q ∧ L.getD j T0 q = p then a + 1 else a
theorem fold_le {F : Nat → Nat → Nat} (h : ∀ j a, F j a ≤ a + 1) : ∀ (m j a : Nat), fold F m j a ≤ a + m
  | 0, _, _ => Nat.le_refl _
  | m + 1, j, a => by
    rw [fold]
    have h1 := fold_le h m (j + 1) (F j a)
    have h2 := h j a
    omega
theorem cpF_le (L : List (Nat → Nat)) (p q j a : Nat) : cpF L p q j a ≤ a + 1 := by unfold cpF; split <;> omega
theorem cmF2_le (L : List (Nat → Nat)) (p q j a : Nat) : cmF2 L p q j a ≤ a + 1 := by unfold cmF2; split <;> omega
theorem p0_countPair {s : ST} {n p q : Nat} {L : List (Nat → Nat)} (h6 : n ≤ 6) (hA : HA s n L) (hL : L.length ≤ 320) (hp : p < n) (hq : q < n) : f_X0_countPair (some 10) (nI p) (nI q) (HP s) = some (nI (fold (cpF L p q) L.length 0 0), HP s) := by
  have l := jfoldG (body := f_X0_countPair_b5 (some 10) (nI p) (nI q)) (ah := HP s) (n := L.length) (fun (a : Nat) j => (nI a, nI j)) (fun a => nI a) (cpF L p q) (fun a => by
      simp only [f_X0_countPair_b5, gI_10_3, Option.bind_some, hA.1, if_pos (nI_le (Nat.le_refl L.length) (show L.length < 2 ^ 31 by omega))]) (fun j a hj => by
      simp only [f_X0_countPair_b5, gI_10_3, Option.bind_some, hA.1, if_neg (nI_ge hj (show L.length < 2 ^ 31 by omega)), qO_10, if_true, p0_victimIn h6 hA hL hj hp, vI_eq h6 hq, nI_1, cpF]
      by_cases c : L.getD j T0 p = q
      · rw [if_pos c, if_pos c]
      · rw [if_neg c, if_neg c]) L.length jfuel 0 0 (by omega) (by unfold jfuel; omega)
  have l : jloop (f_X0_countPair_b5 (some 10) (nI p) (nI q)) jfuel (0, 0) (HP s) = _ := l
  simp only [f_X0_countPair, l, Option.bind_some]
theorem p0_countMutual {s : ST} {n p q : Nat} {L : List (Nat → Nat)} (h6 : n ≤ 6) (hA : HA s n L) (hL : L.length ≤ 320) (hp : p < n) (hq : q < n) : f_X0_countMutual (some 10) (nI p) (nI q) (HP s) = some (nI (fold (cmF2 L p q) L.length 0 0), HP s) := by
  have l := jfoldG (body := f_X0_countMutual_b5 (some 10) (nI p) (nI q)) (ah := HP s) (n := L.length) (fun (a : Nat) j => (nI a, nI j)) (fun a => nI a) (cmF2 L p q) (fun a => by
      simp only [f_X0_countMutual_b5, gI_10_3, Option.bind_some, hA.1, if_pos (nI_le (Nat.le_refl L.length) (show L.length < 2 ^ 31 by omega))]) (fun j a hj => by
      simp only [f_X0_countMutual_b5, gI_10_3, Option.bind_some, hA.1, if_neg (nI_ge hj (show L.length < 2 ^ 31 by omega)), qO_10, if_true, p0_victimIn h6 hA hL hj hp, p0_victimIn h6 hA hL hj hq, vI_eq h6 hq, vI_eq h6 hp, nI_1, cmF2]
      by_cases c : L.getD j T0 p = q
      · by_cases c2 : L.getD j T0 q = p
        · rw [if_pos c, if_pos c2, if_pos ⟨c, c2⟩]
        · rw [if_pos c, if_neg c2, if_neg (fun z => c2 z.2)]
      · rw [if_neg c, if_neg (fun z => c z.1)]) L.length jfuel 0 0 (by omega) (by unfold jfuel; omega)
  have l : jloop (f_X0_countMutual_b5 (some 10) (nI p) (nI q)) jfuel (0, 0) (HP s) = _ := l
  simp only [f_X0_countMutual, l, Option.bind_some]
theorem p6_oddsL {s : ST} {n p q : Nat} {L : List (Nat → Nat)} (h6 : n ≤ 6) (hR : HR s n L) (hL : L.length ≤ 265) (hp : p < n) (hq : q < n) : jloop (f_X6_odds_b34 (some 60) (nI p) (nI q)) jfuel (0, 0) (HP s) = some (.inr (nI (fold (cpF L p q) L.length 0 0), HP s)) := by
  exact jfoldG (body := f_X6_odds_b34 (some 60) (nI p) (nI q)) (ah := HP s) (n := L.length) (fun (a : Nat) j => (nI a, nI j)) (fun a => nI a) (cpF L p q) (fun a => by
      simp only [f_X6_odds_b34, gI_60_26, Option.bind_some, hR.1, if_pos (nI_le (Nat.le_refl L.length) (show L.length < 2 ^ 31 by omega))]) (fun j a hj => by
      simp only [f_X6_odds_b34, gI_60_26, Option.bind_some, hR.1, if_neg (nI_ge hj (show L.length < 2 ^ 31 by omega)), gR_60_25, g75 _ (show j < 265 by omega), hR.at hj, p6_of h6 _ hp, cd_eq h6 hq, nI_1, cpF, Int32.add_zero]
      by_cases c : L.getD j T0 p = q
      · rw [if_pos c, if_pos c]
      · rw [if_neg c, if_neg c]) L.length jfuel 0 0 (by omega) (by unfold jfuel; omega)
theorem p6_bothL {s : ST} {n p q : Nat} {L : List (Nat → Nat)} (h6 : n ≤ 6) (hR : HR s n L) (hL : L.length ≤ 265) (hp : p < n) (hq : q < n) : jloop (f_X6_both_b34 (some 60) (nI p) (nI q)) jfuel (0, 0) (HP s) = some (.inr (nI (fold (cmF2 L p q) L.length 0 0), HP s)) := by
  exact jfoldG (body := f_X6_both_b34 (some 60) (nI p) (nI q)) (ah := HP s) (n := L.length) (fun (a : Nat) j => (nI a, nI j)) (fun a => nI a) (cmF2 L p q) (fun a => by
      simp only [f_X6_both_b34, gI_60_26, Option.bind_some, hR.1, if_pos (nI_le (Nat.le_refl L.length) (show L.length < 2 ^ 31 by omega))]) (fun j a hj => by
      simp only [f_X6_both_b34, f_X6_both_b34_j78, gI_60_26, Option.bind_some, hR.1, if_neg (nI_ge hj (show L.length < 2 ^ 31 by omega)), gR_60_25, g75 _ (show j < 265 by omega), hR.at hj, p6_of h6 _ hp, p6_of h6 _ hq, cd_eq h6 hq, cd_eq h6 hp, nI_1, cmF2, Int32.add_zero]
      by_cases c : L.getD j T0 p = q
      · by_cases c2 : L.getD j T0 q = p
        · rw [if_pos c, if_pos c2, if_pos ⟨c, c2⟩]
        · rw [if_pos c, if_neg c2, if_neg (fun z => c2 z.2)]
      · rw [if_neg c, if_neg (fun z => c z.1)]) L.length jfuel 0 0 (by omega) (by unfold jfuel; omega)
theorem mpl_265 {s : ST} {n : Nat} {x : Int32} (hF : InvF s n) : (mpl s n (2 ^ n - 1) x).length ≤ 265 := by
  have h6 := hF.le
  exact Nat.le_trans (trl_less h6 (fun p _ => Bx_lt hF x p) (pow_pred n)) (trl_265 n (by omega))
theorem p6_two {s : ST} {n p q : Nat} (hF : InvF s n) (hp : p < n) (hq : q < n) (hpq : p ≠ q) : f_X6_areTwo (some 60) (nI p) (nI q) (HP s) = some (1, HP s) := by
  have h6 := hF.le
  have hne : ¬ nI p = nI q := fun h => hpq ((nI_eq (by omega) (by omega)).mp h)
  simp only [f_X6_areTwo, qO_60, if_true, p6_isPT hF hp, p6_isPT hF hq, Option.bind_some, n10, if_false, if_neg hne]
theorem T_F {s s' : ST} {n : Nat} (h : SameT s s') (hF : InvF s n) : InvF s' n := InvF_same h hF
theorem draw_none {s : ST} (hI : Inv s) {n p q : Nat} (hF : InvF s n) (hn : n ≠ 0) {sA : ST} (e1 : f_X5_isPair (some 0) (nI p) (nI q) (HP s) = some (1, HP s)) (a1 : f_X0_seek (some 10) (some (fA (sW s))) (nI (2 ^ n - 1)) 0 (HP s) = some ((), HP sA)) (a2 : SameS s sA) (a3 : HA sA n []) (hL : mpl s n (2 ^ n - 1) 0 = []) : ∃ s2, f_X5_refuseDraw (some 0) (nI p) (nI q) (HP s) = some (-3, HP (fnd5 sA 4)) ∧ f_X6_layMaps (some 60) 1 (HP (fnd5 sA 4)) = some ((), HP s2) ∧ InvF (fnd5 sA 4) n ∧ sI s2 1946 = 0 ∧ Inv (fnd6 s2 4) := by
  have e65 : sV sA 65 = sV s 65 := S_V a2 (by unfold ScA; omega)
  have hF1 := InvF_5 4 (InvF_S a2 hF)
  obtain ⟨sB, b1, b2, b3⟩ := p6_lay 0 hF1 hn
  rw [yx0] at b1
  rw [mpl_65 (s := s) (by rw [sV5 sA 4 (by omega)]; exact e65), hL] at b3
  have a4 : sI sA 323 = 0 := a3.1
  refine ⟨sB, ?_, b1, hF1, b3.1, Inv_S (cS_f6 ((cS_f5 a2 4).trans b2) 4) (inv_find hI 4)⟩
  simp -implicitDefEqProofs only [f_X5_refuseDraw, qO_0, if_true, e1, Option.bind_some, n10, if_false, gR_0_5, gR_0_8, fk_q, p1_everyone hF, qO_10, a1, gI_10_3, a4, p5_find (x := 4) sA 4 rfl (by omega) (by omega)]
theorem draw_some {s : ST} (hI : Inv s) {n p q : Nat} (hF : InvF s n) (hn : n ≠ 0) {sA : ST} {L : List (Nat → Nat)} (e1 : f_X5_isPair (some 0) (nI p) (nI q) (HP s) = some (1, HP s)) (a1 : f_X0_seek (some 10) (some (fA (sW s))) (nI (2 ^ n - 1)) 0 (HP s) = some ((), HP sA)) (a2 : SameS s sA) (a3 : HA sA n L) (hL : mpl s n (2 ^ n - 1) 0 = L) (h0 : 0 < L.length) (h265 : L.length ≤ 265) : f_X5_refuseDraw (some 0) (nI p) (nI q) (HP s) = some (0, HP sA) ∧ ∀ u v : Int64, InvF (uL (uL sA 0 u) 1 v) n ∧ ∃ sB, f_X6_layMaps (some 60) 1 (HP (uL (uL sA 0 u) 1 v)) = some ((), HP sB) ∧ HR sB n L ∧ Inv (uL (uL sB 2 u) 3 v) := by
  have e65 : sV sA 65 = sV s 65 := S_V a2 (by unfold ScA; omega)
  have en : ¬ nI L.length = 0 := nI_ne0 (by omega) (by omega)
  refine ⟨?_, fun u v => ?_⟩
  · simp -implicitDefEqProofs only [f_X5_refuseDraw, qO_0, if_true, e1, Option.bind_some, n10, if_false, gR_0_5, gR_0_8, fk_q, p1_everyone hF, qO_10, a1, gI_10_3, a3.1, en]
  · have hF1 : InvF (uL (uL sA 0 u) 1 v) n := InvF_L (InvF_L (InvF_S a2 hF))
    obtain ⟨sB, b1, b2, b3⟩ := p6_lay 0 hF1 hn
    rw [yx0] at b1
    rw [mpl_65 (s := s) (by rw [sV_uL, sV_uL]; exact e65), hL] at b3
    exact ⟨hF1, sB, b1, b3, inv_told hI u v a2 b2⟩
/-- what a draw of two leaves: none, or some -/
theorem draw_two {s : ST} (hI : Inv s) {n p q : Nat} (hF : InvF s n) (hp : p < n) (e1 : f_X5_isPair (some 0) (nI p) (nI q) (HP s) = some (1, HP s)) :
    (∃ s1 s2, f_X5_refuseDraw (some 0) (nI p) (nI q) (HP s) = some (-3, HP (fnd5 s1 4)) ∧ f_X6_layMaps (some 60) 1 (HP (fnd5 s1 4)) = some ((), HP s2) ∧ InvF (fnd5 s1 4) n ∧ sI s2 1946 = 0 ∧ Inv (fnd6 s2 4)) ∨
    ∃ (sA : ST) (L : List (Nat → Nat)), f_X5_refuseDraw (some 0) (nI p) (nI q) (HP s) = some (0, HP sA) ∧ SameS s sA ∧ HA sA n L ∧ 0 < L.length ∧ L.length ≤ 265 ∧ ∀ u v : Int64, InvF (uL (uL sA 0 u) 1 v) n ∧ ∃ sB, f_X6_layMaps (some 60) 1 (HP (uL (uL sA 0 u) 1 v)) = some ((), HP sB) ∧ HR sB n L ∧ Inv (uL (uL sB 2 u) 3 v) := by
  have hn : n ≠ 0 := by omega
  obtain ⟨sA, a1, a2, a3⟩ := p0_seek (x := 0) hF (pow_pred n)
  have h265 := mpl_265 (x := 0) hF
  generalize hL : mpl s n (2 ^ n - 1) 0 = L at a3 h265
  cases L with
  | nil =>
    obtain ⟨s2, w⟩ := draw_none hI hF hn e1 a1 a2 a3 hL
    exact Or.inl ⟨sA, s2, w⟩
  | cons T L =>
    obtain ⟨w1, w2⟩ := draw_some hI hF hn e1 a1 a2 a3 hL (Nat.succ_pos _) h265
    exact Or.inr ⟨sA, _, w1, a2, a3, Nat.succ_pos _, h265, w2⟩
theorem ag_odds {s : ST} (hI : Inv s) (a0 a1 : Int32) : ∃ (v : Int32) (s1 s2 : ST), f_X5_odds (some 0) a0 a1 (HP s) = some (v, HP s1) ∧ f_X6_odds (some 60) a0 a1 (HP s1) = some (v, HP s2) ∧ Inv s2 := by
  obtain ⟨n, hF, hT, hK⟩ := hI.1
  have h6 := hF.le
  rcases two_cases hF a0 a1 with ⟨p, q, hp, hq, hpq, rfl, rfl, e1, -⟩ | ⟨e1, e2⟩
  · rcases draw_two hI hF hp e1 with ⟨s1, s2, w1, w2, w3, w4, w5⟩ | ⟨sA, L, w1, w2, w3, w4, w5, w6⟩
    · refine ⟨-3, fnd5 s1 4, fnd6 s2 4, ?_, ?_, w5⟩
      · simp only [f_X5_odds, qO_0, if_true, w1, Option.bind_some, n30, if_false]
      · simp only [f_X6_odds, qO_60, if_true, p6_two w3 hp hq hpq, Option.bind_some, n10, if_false, w2, gI_60_26, w4, p6_find (x := 4) _ 4 rfl (by omega)]
    · have hc := fold_le (cpF_le L p q) L.length 0 0
      generalize hcc : fold (cpF L p q) L.length 0 0 = c at hc
      have en : ¬ nI L.length = 0 := nI_ne0 (by omega) (by omega)
      obtain ⟨y1, sB, y2, y3, y4⟩ := w6 (lN (c / Nat.gcd c L.length)) (lN (L.length / Nat.gcd c L.length))
      refine ⟨1, uL (uL sA 0 (lN (c / Nat.gcd c L.length))) 1 (lN (L.length / Nat.gcd c L.length)), uL (uL sB 2 (lN (c / Nat.gcd c L.length))) 3 (lN (L.length / Nat.gcd c L.length)), ?_, ?_, y4⟩
      · simp only [f_X5_odds, qO_0, if_true, w1, Option.bind_some, gR_0_5, qO_10, p0_countPair h6 w3 (by omega) hp hq, hcc, gI_10_3, w3.1, nI_l (show c < 2 ^ 31 by omega), nI_l (show L.length < 2 ^ 31 by omega), p5_tell sA (show c < 2 ^ 31 by omega) (show L.length < 512 by omega) w4]
      · simp only [f_X6_odds, qO_60, if_true, p6_two y1 hp hq hpq, Option.bind_some, n10, if_false, y2, gI_60_26, y3.1, en, p6_oddsL h6 y3 w5 hp hq, hcc, nI_l (show c < 2 ^ 31 by omega), nI_l (show L.length < 2 ^ 31 by omega), p6_tellParts sB (show c < 2 ^ 31 by omega) (show L.length < 512 by omega) w4]
  · refine ⟨-1, s, s, ?_, ?_, hI⟩
    · simp only [f_X5_odds, f_X5_refuseDraw, qO_0, if_true, e1, Option.bind_some, nm1, if_false]
    · simp only [f_X6_odds, qO_60, if_true, e2, Option.bind_some]
theorem ag_both {s : ST} (hI : Inv s) (a0 a1 : Int32) : ∃ (v : Int32) (s1 s2 : ST), f_X5_both (some 0) a0 a1 (HP s) = some (v, HP s1) ∧ f_X6_both (some 60) a0 a1 (HP s1) = some (v, HP s2) ∧ Inv s2 := by
  obtain ⟨n, hF, hT, hK⟩ := hI.1
  have h6 := hF.le
  rcases two_cases hF a0 a1 with ⟨p, q, hp, hq, hpq, rfl, rfl, e1, -⟩ | ⟨e1, e2⟩
  · rcases draw_two hI hF hp e1 with ⟨s1, s2, w1, w2, w3, w4, w5⟩ | ⟨sA, L, w1, w2, w3, w4, w5, w6⟩
    · refine ⟨-3, fnd5 s1 4, fnd6 s2 4, ?_, ?_, w5⟩
      · simp only [f_X5_both, qO_0, if_true, w1, Option.bind_some, n30, if_false]
      · simp only [f_X6_both, qO_60, if_true, p6_two w3 hp hq hpq, Option.bind_some, n10, if_false, w2, gI_60_26, w4, p6_find (x := 4) _ 4 rfl (by omega)]
    · have hc := fold_le (cmF2_le L p q) L.length 0 0
      generalize hcc : fold (cmF2 L p q) L.length 0 0 = c at hc
      have en : ¬ nI L.length = 0 := nI_ne0 (by omega) (by omega)
      obtain ⟨y1, sB, y2, y3, y4⟩ := w6 (lN (c / Nat.gcd c L.length)) (lN (L.length / Nat.gcd c L.length))
      refine ⟨1, uL (uL sA 0 (lN (c / Nat.gcd c L.length))) 1 (lN (L.length / Nat.gcd c L.length)), uL (uL sB 2 (lN (c / Nat.gcd c L.length))) 3 (lN (L.length / Nat.gcd c L.length)), ?_, ?_, y4⟩
      · simp only [f_X5_both, qO_0, if_true, w1, Option.bind_some, gR_0_5, qO_10, p0_countMutual h6 w3 (by omega) hp hq, hcc, gI_10_3, w3.1, nI_l (show c < 2 ^ 31 by omega), nI_l (show L.length < 2 ^ 31 by omega), p5_tell sA (show c < 2 ^ 31 by omega) (show L.length < 512 by omega) w4]
      · simp only [f_X6_both, qO_60, if_true, p6_two y1 hp hq hpq, Option.bind_some, n10, if_false, y2, gI_60_26, y3.1, en, p6_bothL h6 y3 w5 hp hq, hcc, nI_l (show c < 2 ^ 31 by omega), nI_l (show L.length < 2 ^ 31 by omega), p6_tellParts sB (show c < 2 ^ 31 by omega) (show L.length < 512 by omega) w4]
  · refine ⟨-1, s, s, ?_, ?_, hI⟩
    · simp only [f_X5_both, f_X5_refuseDraw, qO_0, if_true, e1, Option.bind_some, nm1, if_false]
    · simp only [f_X6_both, qO_60, if_true, e2, Option.bind_some]
