/-! ===== sets of PERSONS; count ===== -/
theorem fold_add {A : Type} (F : Nat → A → A) : ∀ (m r j : Nat) (a : A), fold F (m + r) j a = fold F r (j + m) (fold F m j a)
  | 0, r, j, a => by rw [Nat.zero_add, Nat.add_zero]; rfl
  | m + 1, r, j, a => by
    rw [show m + 1 + r = (m + r) + 1 by omega, fold, fold, fold_add F m r (j + 1), show j + 1 + m = j + (m + 1) by omega]
theorem fold_id {A : Type} {F : Nat → A → A} : ∀ (m j : Nat) (a : A), (∀ k b, j ≤ k → k < j + m → F k b = b) → fold F m j a = a
  | 0, _, _, _ => rfl
  | m + 1, j, a, h => by
    rw [fold, h j a (by omega) (by omega)]
    exact fold_id m (j + 1) a (fun k b h1 h2 => h k b (by omega) (by omega))
/-- what does nothing from m on, up to 6 -/
theorem fold_cut {A : Type} {F G : Nat → A → A} {m : Nat} (h : m ≤ 6) (a : A) (h1 : ∀ k b, k < m → F k b = G k b) (h2 : ∀ k b, m ≤ k → k < 6 → F k b = b) : fold F 6 0 a = fold G m 0 a := by
  obtain ⟨r, e⟩ : ∃ r, 6 = m + r := ⟨6 - m, by omega⟩
  have : fold F (m + r) 0 a = fold G m 0 a := by
    rw [fold_add, fold_id r (0 + m) _ (fun k b q1 q2 => h2 k b (by omega) (by omega))]
    exact fold_congr m 0 a (fun k b _ hk => h1 k b (by omega))
  rwa [← e] at this
theorem fold_P {A : Type} {F : Nat → A → A} (P : A → Prop) : ∀ (m j : Nat) (a : A), (∀ k b, j ≤ k → k < j + m → P b → P (F k b)) → P a → P (fold F m j a)
  | 0, _, _, _, h => h
  | m + 1, j, a, h, ha => by
    rw [fold]
    exact fold_P P m (j + 1) _ (fun k b h1 h2 => h k b (by omega) (by omega)) (h j a (by omega) (by omega) ha)
set_option maxRecDepth 100000 in
theorem or_dec : ∀ a, a < 64 → ∀ k, k < 6 → nI a ||| ((1 : Int32) <<< (nI k &&& 31)) = nI (a ||| 2 ^ k) := by decide +kernel
theorem or_lt {a k : Nat} (ha : a < 64) (hk : k < 6) : a ||| 2 ^ k < 64 := Nat.or_lt_two_pow (n := 6) ha (Nat.pow_lt_pow_right (a := 2) (by omega) hk)
/-- a set with one more, if it is one -/
def inS (v : Int32) (a : Nat) : Nat := if v = -9 then a else a ||| 2 ^ v.toNatClampNeg
/-- the set of VICTIMS -/
def vset (s : ST) (n : Nat) : Nat := fold (fun p a => inS (sV s 61 (1 + p)) a) n 0 0
theorem vok_lt {n p : Nat} {v : Int32} (h6 : n ≤ 6) (hv : Vok n p v) {a : Nat} (ha : a < 64) : inS v a < 64 := by
  unfold inS
  rcases hv with h | ⟨k, hk, -, h⟩
  · rw [if_pos h]; exact ha
  · rw [h, if_neg (nI_n9 (by omega)), nI_clamp (by omega)]
    exact or_lt ha (by omega)
theorem vset_lt {s : ST} {n t : Nat} (h6 : n ≤ 6) (hS : InvS s n 6 7 8 t 1) : vset s n < 64 :=
  fold_P (fun a => a < 64) n 0 0 (fun k b _ hk hb => vok_lt h6 (hS.1 k (by omega)).2 hb) (by omega)
theorem p4_vset {s : ST} {n : Nat} (hF : InvF s n) (hT : InvT s n 5 0) : f_X4_victimSet (some 5) (HP s) = some (nI (vset s n), HP s) := by
  have h6 := hF.le
  obtain ⟨t, ht, hs, -, hS, -⟩ := hT.t
  have l := jfoldH (body := f_X4_victimSet_b4 (some 5)) (n := 6) (fun (a : Nat) j => (nI a, nI j)) (fun a => nI a) (fun _ => HP s) (fun p a => inS (sV s 6 (6 * t + p)) a) (fun _ a => a < 64) (fun j a hj ha => by
      by_cases hjn : j < n
      · have e := hS.1 j hjn
        rw [e.1]
        exact vok_lt h6 e.2 ha
      · rw [hS.2.1 j (by omega) hj]
        exact ha) (fun a _ => by
      simp only [f_X4_victimSet_b4, if_pos (show (6 : Int32) ≤ nI 6 by decide)]) (fun j a hj ha => by
      simp only [f_X4_victimSet_b4, if_neg (show ¬ (6 : Int32) ≤ nI j from nI_ge (b := 6) hj (by omega)), qO_5, if_true, p4_victimOf ht hs hj, Option.bind_some, nI_1]
      by_cases hjn : j < n
      · have e := hS.1 j hjn
        rw [e.1]
        unfold inS
        rcases e.2 with h | ⟨k, hk, -, h⟩
        · rw [h, if_pos (show (-9 : Int32) < 0 by decide), if_pos rfl]
        · rw [h, if_neg (nI_pos (by omega)), if_neg (nI_n9 (by omega)), nI_clamp (by omega), or_dec a ha k (by omega)]
      · rw [hS.2.1 j (by omega) hj]
        rfl) 6 jfuel 0 0 (by omega) (by unfold jfuel; omega) (by omega)
  have e : fold (fun p a => inS (sV s 6 (6 * t + p)) a) 6 0 0 = vset s n := by
    exact fold_cut h6 0 (fun k b hk => by rw [(hS.1 k hk).1]) (fun k b h1 h2 => by rw [hS.2.1 k h1 h2]; rfl)
  have l1 := l.1
  rw [e] at l1
  have l1 : jloop (f_X4_victimSet_b4 (some 5)) jfuel (0, 0) (HP s) = _ := l1
  simp only [f_X4_victimSet, l1, Option.bind_some]
theorem p6_vset {s : ST} {n t : Nat} (hF : InvF s n) (hS : InvS s n 6 7 8 t 1) : f_X6_victimsNow (some 60) (HP s) = some (nI (vset s n), HP s) := by
  have h6 := hF.le
  have l := jfoldH (body := f_X6_victimsNow_b4 (some 60)) (n := n) (fun (a : Nat) j => (nI a, nI j)) (fun a => nI a) (fun _ => HP s) (fun p a => inS (sV s 61 (1 + p)) a) (fun _ a => a < 64) (fun j a hj ha => vok_lt h6 (hS.1 j hj).2 ha) (fun a _ => by
      simp only [f_X6_victimsNow_b4, gI_60_1, Option.bind_some, hF.2.1, if_pos (nI_le (Nat.le_refl n) (show n < 2 ^ 31 by omega))]) (fun j a hj ha => by
      simp only [f_X6_victimsNow_b4, gI_60_1, Option.bind_some, hF.2.1, if_neg (nI_ge hj (show n < 2 ^ 31 by omega)), qO_60, if_true, p6_victim s (show j < 6 by omega), nI_1, inS]
      rcases (hS.1 j hj).2 with h | ⟨k, hk, -, h⟩
      · simp only [h, if_true, Int32.or_zero]
      · simp only [h, if_neg (nI_n9 (show k < 2 ^ 31 by omega)), nI_clamp (show k < 2 ^ 31 by omega), or_dec a ha k (by omega)]) n jfuel 0 0 (by omega) (by unfold jfuel; omega) (by omega)
  have l1 : jloop (f_X6_victimsNow_b4 (some 60)) jfuel (0, 0) (HP s) = some (.inr (nI (vset s n), HP s)) := l.1
  simp only [f_X6_victimsNow, l1, Option.bind_some]
/-- those with P, as a set -/
def pset (P : Nat → Bool) (n : Nat) : Nat := fold (fun p a => if P p then a ||| 2 ^ p else a) n 0 0
theorem pset_bit (P : Nat → Bool) : ∀ (m j a i : Nat), (fold (fun p a => if P p then a ||| 2 ^ p else a) m j a).testBit i = (a.testBit i || (decide (j ≤ i) && decide (i < j + m) && P i))
  | 0, j, a, i => by
    have : (decide (j ≤ i) && decide (i < j + 0)) = false := by
      by_cases h : j ≤ i <;> simp [h]
    rw [this]
    simp [fold]
  | m + 1, j, a, i => by
    rw [fold, pset_bit P m (j + 1)]
    by_cases hp : P j = true
    · rw [if_pos hp, Nat.testBit_or, Nat.testBit_two_pow]
      by_cases hi : j = i
      · subst hi
        simp [hp]
      · have e1 : decide (j + 1 ≤ i) = decide (j ≤ i) := by rw [decide_eq_decide]; omega
        have e2 : decide (i < j + 1 + m) = decide (i < j + (m + 1)) := by rw [decide_eq_decide]; omega
        simp [hi, e1, e2]
    · rw [if_neg hp]
      by_cases hi : j = i
      · subst hi
        simp [hp]
      · have e1 : decide (j + 1 ≤ i) = decide (j ≤ i) := by rw [decide_eq_decide]; omega
        have e2 : decide (i < j + 1 + m) = decide (i < j + (m + 1)) := by rw [decide_eq_decide]; omega
        simp [e1, e2]
theorem pset_lt (P : Nat → Bool) {n : Nat} (h6 : n ≤ 6) : pset P n < 64 := fold_P (fun a => a < 64) n 0 0 (fun k b _ hk hb => by
  show (if P k = true then b ||| 2 ^ k else b) < 64
  split
  · exact or_lt hb (by omega)
  · exact hb) (by omega)
theorem pset_tb (P : Nat → Bool) (n i : Nat) : (pset P n).testBit i = (decide (i < n) && P i) := by
  unfold pset
  rw [pset_bit]
  simp
theorem pset_eq {P : Nat → Bool} {n r : Nat} (hr : r < 2 ^ n) (h : ∀ p, p < n → (r.testBit p = true ↔ P p = true)) : pset P n = r := by
  apply Nat.eq_of_testBit_eq
  intro i
  rw [pset_tb]
  by_cases hi : i < n
  · have := h i hi
    simp only [hi, decide_true, Bool.true_and]
    exact Bool.eq_iff_iff.mpr this.symm
  · rw [Nat.testBit_lt_two_pow (Nat.lt_of_lt_of_le hr (Nat.pow_le_pow_right (by omega) (show n ≤ i by omega)))]
    simp [hi]
/-- the set of those who have REACHED -/
def rset (s : ST) (n : Nat) : Nat := pset (fun p => decide (sV s 63 p ≤ sV s 61 (7 + p))) n
theorem rset_eq {s : ST} {n t : Nat} (hS : InvS s n 6 7 8 t 1) : sV s 61 19 = nI (rset s n) := by
  obtain ⟨-, -, -, -, -, r, hr, hr1, hr2⟩ := hS
  have : rset s n = r := pset_eq hr (fun p hp => by rw [hr2 p hp, decide_eq_true_eq, show 1 + 6 + p = 7 + p by omega])
  rw [this]
  exact hr1
theorem p5_rset {s : ST} {n : Nat} (hF : InvF s n) (hT : InvT s n 5 0) : f_X5_reachedSet (some 0) (HP s) = some (nI (rset s n), HP s) := by
  have h6 := hF.le
  obtain ⟨t, ht, hs, -, hS, -⟩ := hT.t
  have l := jfoldH (body := f_X5_reachedSet_b4 (some 0)) (n := n) (fun (a : Nat) j => (nI a, nI j)) (fun a => nI a) (fun _ => HP s) (fun p a => if decide (sV s 63 p ≤ sV s 61 (7 + p)) = true then a ||| 2 ^ p else a) (fun _ a => a < 64) (fun j a hj ha => by
      show (if decide (sV s 63 j ≤ sV s 61 (7 + j)) = true then a ||| 2 ^ j else a) < 64
      split
      · exact or_lt ha (by omega)
      · exact ha) (fun a _ => by
      simp only [f_X5_reachedSet_b4, gR_0_8, Option.bind_some, fk_n, hF.2.2.1, if_pos (nI_le (Nat.le_refl n) (show n < 2 ^ 31 by omega))]) (fun j a hj ha => by
      simp only [f_X5_reachedSet_b4, gR_0_8, Option.bind_some, fk_n, hF.2.2.1, if_neg (nI_ge hj (show n < 2 ^ 31 by omega)), qO_0, if_true, p5_hasReached hF ht hs hS hj, nI_1, or_dec a ha j (by omega), decide_eq_true_eq]
      by_cases h : sV s 63 j ≤ sV s 61 (7 + j)
      · simp only [h, if_true, n10, if_false]
      · simp only [h, if_true, if_false]) n jfuel 0 0 (by omega) (by unfold jfuel; omega) (by omega)
  have l1 : jloop (f_X5_reachedSet_b4 (some 0)) jfuel (0, 0) (HP s) = some (.inr (nI (rset s n), HP s)) := l.1
  simp only [f_X5_reachedSet, l1, Option.bind_some]
def fiF (s : ST) (p : Nat) (a : Int32) : Int32 := a + sV s 61 (13 + p)
theorem p5_fines {s : ST} {n : Nat} (hF : InvF s n) (hT : InvT s n 5 0) : f_X5_allFines (some 0) (HP s) = some (fold (fiF s) n 0 0, HP s) := by
  have h6 := hF.le
  obtain ⟨t, ht, hs, -, hS, -⟩ := hT.t
  have l : jloop (f_X5_allFines_b4 (some 0)) jfuel (0, 0) (HP s) = some (.inr (fold (fiF s) n 0 0, HP s)) := by
    refine jfold (n := n) (fiF s) (fun a => ?_) (fun j a hj => ?_) n jfuel 0 0 (by omega) (by unfold jfuel; omega)
    · simp only [f_X5_allFines_b4, gR_0_8, Option.bind_some, fk_n, hF.2.2.1, if_pos (nI_le (Nat.le_refl n) (show n < 2 ^ 31 by omega))]
    · have ef : sV s 8 (6 * t + j) = sV s 61 (13 + j) := by rw [hS.2.2.2.2.1 j hj, show 1 + 12 + j = 13 + j by omega]
      simp only [f_X5_allFines_b4, gR_0_8, gR_0_3, qO_5, Option.bind_some, fk_n, hF.2.2.1, if_neg (nI_ge hj (show n < 2 ^ 31 by omega)), if_true, p4_finesOf ht hs (show j < 6 by omega), ef, nI_1, fiF]
  simp only [f_X5_allFines, l, Option.bind_some]
theorem p6_fines {s : ST} {n : Nat} (hF : InvF s n) : f_X6_sumFrom (some 60) 13 (HP s) = some (fold (fiF s) n 0 0, HP s) := by
  have h6 := hF.le
  have l : jloop (f_X6_sumFrom_b4 (some 60) 13) jfuel (0, 0) (HP s) = some (.inr (fold (fiF s) n 0 0, HP s)) := by
    refine jfold (n := n) (fiF s) (fun a => ?_) (fun j a hj => ?_) n jfuel 0 0 (by omega) (by unfold jfuel; omega)
    · simp only [f_X6_sumFrom_b4, gI_60_1, Option.bind_some, hF.2.1, if_pos (nI_le (Nat.le_refl n) (show n < 2 ^ 31 by omega))]
    · simp only [f_X6_sumFrom_b4, gI_60_1, gR_60_0, Option.bind_some, hF.2.1, if_neg (nI_ge hj (show n < 2 ^ 31 by omega)), e13p, g61 s (show 13 + j < 3120 by omega), nI_1, fiF]
  simp only [f_X6_sumFrom, l, Option.bind_some]
def zeF (s : ST) (p : Nat) (a : Int32) : Int32 := if kIs (kN s p) 1 then a + 1 else a
theorem p5_zealots {s : ST} {n : Nat} (hF : InvF s n) : f_X5_zealots (some 0) (HP s) = some (fold (zeF s) n 0 0, HP s) := by
  have h6 := hF.le
  have l : jloop (f_X5_zealots_b4 (some 0)) jfuel (0, 0) (HP s) = some (.inr (fold (zeF s) n 0 0, HP s)) := by
    refine jfold (n := n) (zeF s) (fun a => ?_) (fun j a hj => ?_) n jfuel 0 0 (by omega) (by unfold jfuel; omega)
    · simp only [f_X5_zealots_b4, gR_0_8, Option.bind_some, fk_n, hF.2.2.1, if_pos (nI_le (Nat.le_refl n) (show n < 2 ^ 31 by omega))]
    · simp only [f_X5_zealots_b4, gR_0_8, fk_q, Option.bind_some, fk_n, hF.2.2.1, if_neg (nI_ge hj (show n < 2 ^ 31 by omega)), if_true, p1_isOf hF hj (hF.k hj).2.1 (hF.k hj).1 (show (1 : Int32) = nI 1 from rfl) (show 1 < 6 by omega), nI_1, zeF]
      by_cases h : kIs (kN s j) 1 = true
      · simp only [h, if_true, n10, if_false]
      · simp only [h, if_true, if_false, Bool.false_eq_true]
  simp only [f_X5_zealots, l, Option.bind_some]
theorem p6_zealots {s : ST} {n : Nat} (hF : InvF s n) : f_X6_zealots (some 60) (HP s) = some (fold (zeF s) n 0 0, HP s) := by
  have h6 := hF.le
  have l : jloop (f_X6_zealots_b4 (some 60)) jfuel (0, 0) (HP s) = some (.inr (fold (zeF s) n 0 0, HP s)) := by
    refine jfold (n := n) (zeF s) (fun a => ?_) (fun j a hj => ?_) n jfuel 0 0 (by omega) (by unfold jfuel; omega)
    · simp only [f_X6_zealots_b4, gI_60_1, Option.bind_some, hF.2.1, if_pos (nI_le (Nat.le_refl n) (show n < 2 ^ 31 by omega))]
    · have e := p6_isOf (s := s) (show j < 6 by omega) (hF.k hj).2.2 (hF.k hj).1 (show 1 < 6 by omega)
      rw [show nI 1 = 1 from rfl] at e
      simp only [f_X6_zealots_b4, gI_60_1, qO_60, Option.bind_some, hF.2.1, if_neg (nI_ge hj (show n < 2 ^ 31 by omega)), if_true, e, nI_1, zeF, Int32.add_zero]
      by_cases h : kIs (kN s j) 1 = true
      · simp only [h, if_true, n10, if_false]
      · simp only [h, if_true, if_false, Bool.false_eq_true]
  simp only [f_X6_zealots, l, Option.bind_some]
theorem gE_1 (s : ST) {i : Nat} (h : i < 6) : gE (HP s) (some 1) (nI i) = some (some (lc i)) := by
  match i, h with
  | 0, _ | 1, _ | 2, _ | 3, _ | 4, _ | 5, _ => rfl
  | i + 6, h => exact absurd h (by omega)
theorem gE_2 (s : ST) {i : Nat} (h : i < 4) : gE (HP s) (some 2) (nI i) = some (some (lc (6 + i))) := by
  match i, h with
  | 0, _ | 1, _ | 2, _ | 3, _ => rfl
  | i + 4, h => exact absurd h (by omega)
theorem gE_9 (s : ST) {i : Nat} (h : i < 3) : gE (HP s) (some 9) (nI i) = some (some (48 + 4 * i)) := by
  match i, h with
  | 0, _ | 1, _ | 2, _ => rfl
  | i + 3, h => exact absurd h (by omega)
theorem lA_1 (s : ST) : lA (HP s) (some 1) = some (nI 6) := rfl
theorem lA_2 (s : ST) : lA (HP s) (some 2) = some (nI 4) := rfl
theorem lA_9 (s : ST) : lA (HP s) (some 9) = some (nI 3) := rfl
theorem sh_4 (s : ST) {i : Nat} (h : i < 3) : gI (HP s) (some (48 + 4 * i)) 4 4 = some (sI s (32 * (48 + 4 * i) + 4)) := by
  match i, h with
  | 0, _ | 1, _ | 2, _ => rfl
  | i + 3, h => exact absurd h (by omega)
/-- how many of the first m are not below 0 -/
def prF (V : Nat → Int32) (m : Nat) (j : Nat) (a : Int32) : Int32 := if j < m ∧ 0 ≤ V j then a + 1 else a
theorem prF_cut (V : Nat → Int32) {m : Nat} (h : m ≤ 6) : fold (prF V m) 6 0 0 = fold (prF V m) m 0 0 :=
  fold_cut h 0 (fun _ _ _ => rfl) (fun k b h1 h2 => if_neg (by omega))
theorem p5_rows {s : ST} (hR : InvR s) : f_X5_present (some 1) (HP s) = some (fold (prF (sV s 66) 6) 6 0 0, HP s) := by
  have l : jloop (f_X5_present_b10 (some 1) (nI 6)) jfuel (0, 0) (HP s) = some (.inr (fold (prF (sV s 66) 6) 6 0 0, HP s)) := by
    refine jfold (n := 6) (prF (sV s 66) 6) (fun a => ?_) (fun j a hj => ?_) 6 jfuel 0 0 (by omega) (by unfold jfuel; omega)
    · simp only [f_X5_present_b10, if_pos (nI_le (Nat.le_refl 6) (show 6 < 2 ^ 31 by omega))]
    · have e : sI s (32 * lc j + 1) = sV s 66 j := by
        rcases hR.1 j hj with ⟨h1, h2⟩ | ⟨m, -, h1, h2, -⟩
        · exact (show sI s (32 * lc j + 1) = -1 from h1).trans h2.symm
        · exact (show sI s (32 * lc j + 1) = nI m from h1).trans h2.symm
      simp only [f_X5_present_b10, if_neg (nI_ge hj (show 6 < 2 ^ 31 by omega)), gE_1 s hj, Option.bind_some, ln_q s (show j < 10 by omega), if_true, p2_isMissing s (show j < 10 by omega), e, nI_1, prF, hj, true_and]
      by_cases h : 0 ≤ sV s 66 j
      · simp only [h, if_true]
      · simp only [h, if_false, n10]
  simp only [f_X5_present, lA_1, Option.bind_some, l]
theorem p5_texts {s : ST} (hR : InvR s) : f_X5_present (some 2) (HP s) = some (fold (prF (sV s 68) 4) 6 0 0, HP s) := by
  rw [prF_cut _ (by omega)]
  have l : jloop (f_X5_present_b10 (some 2) (nI 4)) jfuel (0, 0) (HP s) = some (.inr (fold (prF (sV s 68) 4) 4 0 0, HP s)) := by
    refine jfold (n := 4) (prF (sV s 68) 4) (fun a => ?_) (fun j a hj => ?_) 4 jfuel 0 0 (by omega) (by unfold jfuel; omega)
    · simp only [f_X5_present_b10, if_pos (nI_le (Nat.le_refl 4) (show 4 < 2 ^ 31 by omega))]
    · have e : sI s (32 * lc (6 + j) + 1) = sV s 68 j := by
        rw [lc_t]
        rcases hR.2 j hj with ⟨h1, h2⟩ | ⟨m, -, h1, h2, -⟩
        · exact h1.trans h2.symm
        · exact h1.trans h2.symm
      simp only [f_X5_present_b10, if_neg (nI_ge hj (show 4 < 2 ^ 31 by omega)), gE_2 s hj, Option.bind_some, ln_q s (show 6 + j < 10 by omega), if_true, p2_isMissing s (show 6 + j < 10 by omega), e, nI_1, prF, hj, true_and]
      by_cases h : 0 ≤ sV s 68 j
      · simp only [h, if_true]
      · simp only [h, if_false, n10]
  simp only [f_X5_present, lA_2, Option.bind_some, l]
theorem p5_kept {s : ST} {n : Nat} (hK : InvK s n) : f_X5_keptTowns (some 0) (HP s) = some (fold (prF (fun k => sV s 61 (780 * (1 + k))) 3) 6 0 0, HP s) := by
  rw [prF_cut _ (by omega)]
  have l : jloop (f_X5_keptTowns_b13 (some 9) (nI 3)) jfuel (0, 0) (HP s) = some (.inr (fold (prF (fun k => sV s 61 (780 * (1 + k))) 3) 3 0 0, HP s)) := by
    refine jfold (n := 3) (prF (fun k => sV s 61 (780 * (1 + k))) 3) (fun a => ?_) (fun j a hj => ?_) 3 jfuel 0 0 (by omega) (by unfold jfuel; omega)
    · simp only [f_X5_keptTowns_b13, if_pos (nI_le (Nat.le_refl 3) (show 3 < 2 ^ 31 by omega))]
    · simp only [f_X5_keptTowns_b13, if_neg (nI_ge hj (show 3 < 2 ^ 31 by omega)), gE_9 s hj, Option.bind_some, sh_4 s hj, nI_1, prF, hj, true_and]
      rcases hK j hj with ⟨h1, h2⟩ | ⟨h1, t, ht, -, h2, -⟩
      · rw [h1, h2, if_pos rfl, if_neg (by decide)]
      · rw [h1, h2, if_neg (by decide), if_pos (nI_pos' (by omega))]
  simp only [f_X5_keptTowns, gR_0_4, lA_9, Option.bind_some, l]
theorem e780 (j : Nat) : (780 * (1 + nI j)) + 0 = nI (780 * (1 + j)) := by
  rw [Int32.add_zero, show (1 : Int32) + nI j = nI (1 + j) from nI_add 1 j, ← pk_mul]
  rfl
theorem p6_there {s : ST} {c : Nat} (hc : c = 7 ∨ c = 8 ∨ c = 9) : f_X6_thereOf (some 60) (nI c) (HP s) = some (if c = 7 then fold (prF (sV s 66) 6) 6 0 0 else if c = 8 then fold (prF (sV s 68) 4) 6 0 0 else fold (prF (fun k => sV s 61 (780 * (1 + k))) 3) 6 0 0, HP s) := by
  rcases hc with rfl | rfl | rfl
  · have l : jloop (f_X6_thereOf_b4 (some 60) (nI 7)) jfuel (0, 0) (HP s) = some (.inr (fold (prF (sV s 66) 6) 6 0 0, HP s)) := by
      refine jfold (n := 6) (prF (sV s 66) 6) (fun a => ?_) (fun j a hj => ?_) 6 jfuel 0 0 (by omega) (by unfold jfuel; omega)
      · simp only [f_X6_thereOf_b4, if_pos (show (6 : Int32) ≤ nI 6 by decide)]
      · simp only [f_X6_thereOf_b4, if_neg (show ¬ (6 : Int32) ≤ nI j from nI_ge (b := 6) hj (by omega)), if_pos (show nI 7 = 7 from rfl), gR_60_7, Option.bind_some, gA66 s hj, nI_1, prF, hj, true_and, Int32.add_zero]
        by_cases h : 0 ≤ sV s 66 j
        · simp only [h, if_true]
        · simp only [h, if_false]
    simp only [f_X6_thereOf, l, Option.bind_some, if_true]
  · have l : jloop (f_X6_thereOf_b4 (some 60) (nI 8)) jfuel (0, 0) (HP s) = some (.inr (fold (prF (sV s 68) 4) 6 0 0, HP s)) := by
      refine jfold (n := 6) (prF (sV s 68) 4) (fun a => ?_) (fun j a hj => ?_) 6 jfuel 0 0 (by omega) (by unfold jfuel; omega)
      · simp only [f_X6_thereOf_b4, if_pos (show (6 : Int32) ≤ nI 6 by decide)]
      · simp only [f_X6_thereOf_b4, f_X6_thereOf_b4_j58, if_neg (show ¬ (6 : Int32) ≤ nI j from nI_ge (b := 6) hj (by omega)), if_neg (show ¬ nI 8 = 7 by decide), if_pos (show nI 8 = 8 from rfl), gR_60_9, Option.bind_some, nI_1, prF, Int32.add_zero]
        by_cases hj4 : j < 4
        · simp only [if_neg (show ¬ (4 : Int32) ≤ nI j from nI_ge (b := 4) hj4 (by omega)), gA68 s hj4, Option.bind_some, hj4, true_and, i32_nlt, ite_not]
          split <;> rfl
        · simp only [if_pos (show (4 : Int32) ≤ nI j from nI_le (a := 4) (by omega) (by omega)), hj4, false_and, if_false]
    simp only [f_X6_thereOf, l, Option.bind_some, if_true, if_neg (show ¬ 8 = 7 by omega)]
  · have l : jloop (f_X6_thereOf_b4 (some 60) (nI 9)) jfuel (0, 0) (HP s) = some (.inr (fold (prF (fun k => sV s 61 (780 * (1 + k))) 3) 6 0 0, HP s)) := by
      refine jfold (n := 6) (prF (fun k => sV s 61 (780 * (1 + k))) 3) (fun a => ?_) (fun j a hj => ?_) 6 jfuel 0 0 (by omega) (by unfold jfuel; omega)
      · simp only [f_X6_thereOf_b4, if_pos (show (6 : Int32) ≤ nI 6 by decide)]
      · simp only [f_X6_thereOf_b4, f_X6_thereOf_b4_j88, if_neg (show ¬ (6 : Int32) ≤ nI j from nI_ge (b := 6) hj (by omega)), if_neg (show ¬ nI 9 = 7 by decide), if_neg (show ¬ nI 9 = 8 by decide), gR_60_0, Option.bind_some, nI_1, prF, e780]
        by_cases hj4 : j < 3
        · simp only [if_neg (show ¬ (3 : Int32) ≤ nI j from nI_ge (b := 3) hj4 (by omega)), g61 s (show 780 * (1 + j) < 3120 by omega), Option.bind_some, hj4, true_and, i32_nlt, ite_not, Int32.add_zero]
          split <;> rfl
        · simp only [if_pos (show (3 : Int32) ≤ nI j from nI_le (a := 3) (by omega) (by omega)), hj4, false_and, if_false, Int32.add_zero]
    simp only [f_X6_thereOf, l, Option.bind_some, if_neg (show ¬ 9 = 7 by omega), if_neg (show ¬ 9 = 8 by omega)]
/-- what is counted -/
def cn (s : ST) (n c : Nat) : Int32 := match c with
  | 0 => nI n
  | 1 => pc (nI (vset s n))
  | 2 => sI s 1926
  | 3 => sV s 61 0
  | 4 => pc (nI (rset s n))
  | 5 => fold (fiF s) n 0 0
  | 6 => fold (zeF s) n 0 0
  | 7 => fold (prF (sV s 66) 6) 6 0 0
  | 8 => fold (prF (sV s 68) 4) 6 0 0
  | _ => fold (prF (fun k => sV s 61 (780 * (1 + k))) 3) 6 0 0
set_option maxRecDepth 100000 in
theorem p5_count {s : ST} {n c : Nat} (hF : InvF s n) (hT : InvT s n 5 0) (hK : InvK s n) (hR : InvR s) (hc : c < 10) : f_X5_count (some 0) (nI c) (HP s) = some (cn s n c, HP s) := by
  have h6 := hF.le
  obtain ⟨t, ht, hs, hs0, hS, -⟩ := hT.t
  have hall : f_X5_count (some 0) (nI c) (HP s) = if nI c = 0 then some (cn s n 0, HP s) else if nI c = 1 then some (cn s n 1, HP s) else if nI c = 2 then some (cn s n 2, HP s) else if nI c = 3 then some (cn s n 3, HP s) else if nI c = 4 then some (cn s n 4, HP s) else if nI c = 5 then some (cn s n 5, HP s) else if nI c = 6 then some (cn s n 6, HP s) else if nI c = 7 then some (cn s n 7, HP s) else if nI c = 8 then some (cn s n 8, HP s) else if nI c = 9 then some (cn s n 9, HP s) else some (-1, HP s) := by
    simp only [f_X5_count, gR_0_8, gR_0_3, gR_0_0, gR_0_1, Option.bind_some, fk_n, fk_l, hF.2.2.1, hF.2.2.2.1, qO_5, qO_0, if_true, p4_vset hF hT, p_bitCount (vset_lt h6 hS), gI_5_3, hs, hs0, p5_rset hF hT, p_bitCount (pset_lt (fun p => decide (sV s 63 p ≤ sV s 61 (7 + p))) h6), rset, p5_fines hF hT, p5_zealots hF, p5_rows hR, p5_texts hR, p5_kept hK, cn]
  rw [hall]
  match c, hc with
  | 0, _ | 1, _ | 2, _ | 3, _ | 4, _ | 5, _ | 6, _ | 7, _ | 8, _ | 9, _ => rfl
  | c + 10, h => exact absurd h (by omega)
set_option maxRecDepth 100000 in
theorem p6_count {s : ST} {n t c : Nat} (hF : InvF s n) (hS : InvS s n 6 7 8 t 1) (hc : c < 10) : f_X6_countOf (some 60) (nI c) (HP s) = some (cn s n c, HP s) := by
  have h6 := hF.le
  have g19 : gA (HP s) (some 61) 19 = some (sV s 61 19) := g61 s (k := 19) (by omega)
  have g0 : gA (HP s) (some 61) 0 = some (sV s 61 0) := g61 s (k := 0) (by omega)
  by_cases h7 : c < 7
  · have hall : f_X6_countOf (some 60) (nI c) (HP s) = if nI c = 0 then some (cn s n 0, HP s) else if nI c = 1 then some (cn s n 1, HP s) else if nI c = 2 then some (cn s n 2, HP s) else if nI c = 3 then some (cn s n 3, HP s) else if nI c = 4 then some (cn s n 4, HP s) else if nI c = 5 then some (cn s n 5, HP s) else if nI c = 6 then some (cn s n 6, HP s) else ((f_X6_thereOf (some 60) (nI c) (HP s)).bind fun q26 => some (q26.1, q26.2)) := by
      simp only [f_X6_countOf, gI_60_1, gI_60_6, gR_60_0, Option.bind_some, hF.2.1, qO_60, if_true, p6_vset hF hS, p6_bits, g0, g19, rset_eq hS, p6_fines hF, p6_zealots hF, cn]
    rw [hall]
    match c, h7 with
    | 0, _ | 1, _ | 2, _ | 3, _ | 4, _ | 5, _ | 6, _ => rfl
    | c + 7, h => exact absurd h (by omega)
  · have e := p6_there (s := s) (c := c) (by omega)
    have ne : ∀ k, k < 7 → ¬ nI c = nI k := fun k hk h => by have := (nI_eq (by omega) (by omega)).mp h; omega
    simp only [f_X6_countOf, if_neg (show ¬ nI c = 0 from ne 0 (by omega)), if_neg (show ¬ nI c = 1 from ne 1 (by omega)), if_neg (show ¬ nI c = 2 from ne 2 (by omega)), if_neg (show ¬ nI c = 3 from ne 3 (by omega)), if_neg (show ¬ nI c = 4 from ne 4 (by omega)), if_neg (show ¬ nI c = 5 from ne 5 (by omega)), if_neg (show ¬ nI c = 6 from ne 6 (by omega)), qO_60, if_true, e, Option.bind_some]
    match c, h7, hc with
    | 7, _, _ | 8, _, _ | 9, _, _ => rfl
    | 0, h, _ | 1, h, _ | 2, h, _ | 3, h, _ | 4, h, _ | 5, h, _ | 6, h, _ => exact absurd h (by omega)
    | c + 10, _, h => exact absurd h (by omega)
theorem ag_count {s : ST} (hI : Inv s) (a0 : Int32) : ∃ (v : Int32) (s1 s2 : ST), f_X5_count (some 0) a0 (HP s) = some (v, HP s1) ∧ f_X6_count (some 60) a0 (HP s1) = some (v, HP s2) ∧ Inv s2 := by
  obtain ⟨n, hF, hT, hK⟩ := hI.1
  have h6 := hF.le
  obtain ⟨t, ht, hs, hs0, hS, -⟩ := hT.t
  have i6 : ∀ x ah, f_X6_in (Int32.toInt64 x) 0 9 ah = some (if 0 ≤ x.toInt ∧ x.toInt ≤ 9 then 1 else 0, ah) := fun x ah => p6_inI x 0 9 ah
  rcases ix_n a0 (n := 10) (by omega) with h | ⟨c, hc, rfl⟩
  · have ht : ¬ (0 ≤ a0.toInt ∧ a0.toInt ≤ 9) := by
      rcases h with h | h
      · have := toInt_neg h; omega
      · have := toInt_ge (by omega) h; omega
    have ne : ∀ k, k < 10 → ¬ a0 = nI k := fun k hk e => by
      subst e
      rw [nI_toInt (by omega)] at ht
      omega
    refine ⟨-1, s, s, ?_, ?_, hI⟩
    · simp only [f_X5_count, if_neg (show ¬ a0 = 0 from ne 0 (by omega)), if_neg (show ¬ a0 = 1 from ne 1 (by omega)), if_neg (show ¬ a0 = 2 from ne 2 (by omega)), if_neg (show ¬ a0 = 3 from ne 3 (by omega)), if_neg (show ¬ a0 = 4 from ne 4 (by omega)), if_neg (show ¬ a0 = 5 from ne 5 (by omega)), if_neg (show ¬ a0 = 6 from ne 6 (by omega)), if_neg (show ¬ a0 = 7 from ne 7 (by omega)), if_neg (show ¬ a0 = 8 from ne 8 (by omega)), if_neg (show ¬ a0 = 9 from ne 9 (by omega))]
    · simp only [f_X6_count, i6, if_neg ht, Option.bind_some, if_true]
  · refine ⟨cn s n c, s, s, p5_count hF hT hK hI.2.1 hc, ?_, hI⟩
    simp only [f_X6_count, i6, if_pos (show 0 ≤ (nI c).toInt ∧ (nI c).toInt ≤ 9 by rw [nI_toInt (by omega)]; omega), Option.bind_some, n10, if_false, qO_60, if_true, p6_count hF hS hc]
