/-! ===== weeks, thwart ===== -/
/-- DEEDS behind a week: one more, what is lost, 0 at least -/
def stpW (k2 b w d : Int32) : Int32 := if 0 ≤ (d + 1) - (if k2 ≤ 0 then 0 else if w - w / k2 * k2 = 0 then b else 0) then (d + 1) - (if k2 ≤ 0 then 0 else if w - w / k2 * k2 = 0 then b else 0) else 0
theorem max0 (y : Int32) : (if 0 < y then y else 0) = (if 0 ≤ y then y else 0) := by
  by_cases h : 0 < y
  · rw [if_pos h, if_pos (Int32.le_of_lt h)]
  · rw [if_neg h]
    by_cases h2 : 0 ≤ y
    · rw [if_pos h2]
      have h3 : ¬ (0 : Int32).toInt < y.toInt := fun q => h (Int32.lt_iff_toInt_lt.mpr q)
      have h4 : (0 : Int32).toInt ≤ y.toInt := Int32.le_iff_toInt_le.mp h2
      exact Int32.toInt_inj.mp (by omega)
    · rw [if_neg h2]
theorem k_ne0 {k : Int32} (h : ¬ k ≤ 0) : ¬ k = 0 := fun e => h (by rw [e]; exact Int32.le_refl 0)
theorem p5_week {s : ST} {n p : Nat} (hF : InvF s n) (hp : p < n) (k2 b d x : Int32) : f_X5_fewestWeeks_b29 (some 0) (nI p) k2 b (d, x) (HP s) = if 30 < x then some (.inr (.inl ((), HP s))) else if stpW k2 b x d < sV s 63 p then some (.inr (.inr ((stpW k2 b x d, x + 1), HP s))) else some (.inl (x, HP s)) := by
  simp only [f_X5_fewestWeeks_b29, f_X5_fewestWeeks_b29_j51, f_X5_fewestWeeks_b29_j52, f_X5_fewestWeeks_b29_j66, f_X5_afterWeek, Option.bind_some, gR_0_8, fk_q, if_true, p1_aimOf hF hp, hF.a hp, n10, if_false, max0, stpW]
  by_cases h0 : 30 < x
  · simp only [h0, if_true]
  · by_cases h1 : k2 ≤ 0
    · simp only [h0, h1, if_true, if_false]
    · by_cases h2 : x - x / k2 * k2 = 0
      · simp only [h0, h1, h2, k_ne0 h1, if_true, if_false]
      · simp only [h0, h1, h2, k_ne0 h1, if_true, if_false]
theorem p6_week {s : ST} {p : Nat} (hp : p < 6) (k2 M b d x : Int32) : f_X6_weeksOf_b31 (some 60) (nI p) k2 M b (d, x) (HP s) = if M < x then some (.inr (.inl ((), HP s))) else if stpW k2 b x d < sV s 63 p then some (.inr (.inr ((stpW k2 b x d, x + 1), HP s))) else some (.inl (x, HP s)) := by
  simp only [f_X6_weeksOf_b31, f_X6_weeksOf_b31_j58, f_X6_weeksOf_b31_j59, f_X6_weeksOf_b31_j73, Option.bind_some, gR_60_3, g63 s hp, stpW]
  by_cases h0 : M < x
  · simp only [h0, if_true]
  · by_cases h1 : k2 ≤ 0
    · simp only [h0, h1, if_true, if_false]
      split <;> rfl
    · by_cases h2 : x - x / k2 * k2 = 0
      · simp only [h0, h1, h2, k_ne0 h1, if_true, if_false]
        split <;> rfl
      · simp only [h0, h1, h2, k_ne0 h1, if_true, if_false]
        split <;> rfl
/-- the first week, from w on, among m, in which it is REACHED -/
def wk (a k2 b : Int32) : Nat → Nat → Int32 → Int32
  | 0, _, _ => -9
  | m + 1, w, d => if stpW k2 b (nI w) d < a then wk a k2 b m (w + 1) (stpW k2 b (nI w) d) else nI w
theorem wk_spec (a k2 b : Int32) : ∀ (m w : Nat) (d : Int32), wk a k2 b m w d = -9 ∨ ∃ v, w ≤ v ∧ v < w + m ∧ wk a k2 b m w d = nI v
  | 0, _, _ => Or.inl rfl
  | m + 1, w, d => by
    rw [wk]
    split
    · rcases wk_spec a k2 b m (w + 1) (stpW k2 b (nI w) d) with h | ⟨v, h1, h2, h3⟩
      · exact Or.inl h
      · exact Or.inr ⟨v, by omega, by omega, h3⟩
    · exact Or.inr ⟨w, by omega, by omega, rfl⟩
/-- fewer weeks: the same, or none -/
theorem wk_less (a k2 b : Int32) : ∀ (m r w : Nat) (d : Int32), w + m + r < 1000 → (wk a k2 b m w d = -9 ↔ wk a k2 b (m + r) w d = -9 ∨ ∃ v, w + m ≤ v ∧ v < w + m + r ∧ wk a k2 b (m + r) w d = nI v)
  | 0, r, w, d, _ => by
    rw [Nat.zero_add]
    refine ⟨fun _ => ?_, fun _ => rfl⟩
    rcases wk_spec a k2 b r w d with h | ⟨v, h1, h2, h3⟩
    · exact Or.inl h
    · exact Or.inr ⟨v, by omega, by omega, h3⟩
  | m + 1, r, w, d, hb => by
    rw [show m + 1 + r = (m + r) + 1 by omega, wk, wk]
    by_cases h : stpW k2 b (nI w) d < a
    · rw [if_pos h, if_pos h, wk_less a k2 b m r (w + 1) (stpW k2 b (nI w) d) (by omega)]
      constructor
      · rintro (h | ⟨v, h1, h2, h3⟩)
        · exact Or.inl h
        · exact Or.inr ⟨v, by omega, by omega, h3⟩
      · rintro (h | ⟨v, h1, h2, h3⟩)
        · exact Or.inl h
        · exact Or.inr ⟨v, by omega, by omega, h3⟩
    · rw [if_neg h, if_neg h]
      constructor
      · intro h2
        exact Or.inl h2
      · rintro (h2 | ⟨v, h1, h2, h3⟩)
        · exact h2
        · have := (nI_eq (a := w) (b := v) (by omega) (by omega)).mp h3
          omega
theorem jwk {body : Int32 × Int32 → AH → Option ((Int32 × AH) ⊕ ((Unit × AH) ⊕ ((Int32 × Int32) × AH)))} {ah : AH} {M : Nat} {a k2 b : Int32} (hM : M < 1000) (hb : ∀ d x, body (d, x) ah = if nI M < x then some (.inr (.inl ((), ah))) else if stpW k2 b x d < a then some (.inr (.inr ((stpW k2 b x d, x + 1), ah))) else some (.inl (x, ah))) : ∀ (m f w : Nat) (d : Int32), w + m = M + 1 → m < f → jloop body f (d, nI w) ah = some (if wk a k2 b m w d = -9 then .inr ((), ah) else .inl (wk a k2 b m w d, ah)) := by
  intro m
  induction m with
  | zero =>
    intro f w d hw hf
    obtain ⟨f, rfl⟩ : ∃ f', f = f' + 1 := ⟨f - 1, by omega⟩
    rw [jloop, hb, if_pos (nI_lt (show M < w by omega) (by omega))]
    rfl
  | succ m ih =>
    intro f w d hw hf
    obtain ⟨f, rfl⟩ : ∃ f', f = f' + 1 := ⟨f - 1, by omega⟩
    rw [jloop, hb, if_neg (nI_nlt (show w ≤ M by omega) (by omega)), wk]
    by_cases h : stpW k2 b (nI w) d < a
    · rw [if_pos h, if_pos h]
      show jloop body f (stpW k2 b (nI w) d, nI w + 1) ah = _
      rw [nI_1, ih f (w + 1) _ (by omega) (by omega)]
    · rw [if_neg h, if_neg h, if_neg (nI_n9 (by omega))]
/-- the fewest weeks, at most M -/
def fewest (s : ST) (n p : Nat) (k2 : Int32) (M : Nat) : Int32 := if sV s 63 p ≤ sV s 61 (7 + p) then 0 else wk (sV s 63 p) k2 (nI (loss s n p)) M 1 (sV s 61 (7 + p))
theorem inl_inr {α β : Type} {c : Prop} [Decidable c] {x : α} {y : β} {γ : Type} (f : α → γ) (g : β → γ) : (match (if c then (.inr y : α ⊕ β) else .inl x) with | .inl r => f r | .inr z => g z) = if c then g y else f x := by
  split <;> split <;> simp_all
theorem p5_fewest {s : ST} {n p : Nat} (hF : InvF s n) (hT : InvT s n 5 0) (hp : p < n) (k2 : Int32) : f_X5_fewestWeeks (some 0) (nI p) k2 (HP s) = some (fewest s n p k2 30, HP s) := by
  have h6 := hF.le
  obtain ⟨t, ht, hs, -, hS, -⟩ := hT.t
  obtain ⟨d, -, h2, h3⟩ := hS.2.2.2.1 p hp
  have ed : sV s 7 (6 * t + p) = sV s 61 (7 + p) := by rw [h2, ← h3, show 1 + 6 + p = 7 + p by omega]
  have hl : jloop (f_X5_fewestWeeks_b29 (some 0) (nI p) k2 (nI (loss s n p))) jfuel (sV s 61 (7 + p), 1) (HP s) = _ := jwk (M := 30) (by omega) (fun d x => p5_week hF hp k2 (nI (loss s n p)) d x) 30 jfuel 1 (sV s 61 (7 + p)) (by omega) (by unfold jfuel; omega)
  simp only [f_X5_fewestWeeks, gR_0_3, Option.bind_some, qO_5, qO_0, if_true, p4_deedsOf ht hs (show p < 6 by omega), ed, p5_loss hF hT hp, p5_hasReached hF ht hs hS hp, hl, fewest]
  by_cases h : sV s 63 p ≤ sV s 61 (7 + p)
  · simp only [h, if_true, n10, if_false]
  · simp only [h, if_true, if_false]
    by_cases hw : wk (sV s 63 p) k2 (nI (loss s n p)) 30 1 (sV s 61 (7 + p)) = -9
    · rw [if_pos hw, hw]
    · rw [if_neg hw]
theorem p6_fewest {s : ST} {n t p : Nat} (hF : InvF s n) (hS : InvS s n 6 7 8 t 1) (hp : p < n) (k2 : Int32) {M : Nat} (hM : M < 1000) : f_X6_weeksOf (some 60) (nI p) k2 (nI M) (HP s) = some (fewest s n p k2 M, HP s) := by
  have h6 := hF.le
  have hl : jloop (f_X6_weeksOf_b31 (some 60) (nI p) k2 (nI M) (nI (loss s n p))) jfuel (sV s 61 (7 + p), 1) (HP s) = _ := jwk (M := M) hM (fun d x => p6_week (show p < 6 by omega) k2 (nI M) (nI (loss s n p)) d x) M jfuel 1 (sV s 61 (7 + p)) (by omega) (by unfold jfuel; omega)
  simp only [f_X6_weeksOf, gR_60_0, Option.bind_some, e7p, g61 s (show 7 + p < 3120 by omega), qO_60, if_true, p6_loss hF hp, p6_isReached hF hS hp, hl, fewest]
  by_cases h : sV s 63 p ≤ sV s 61 (7 + p)
  · simp only [h, if_true, n10, if_false]
  · simp only [h, if_true, if_false]
    by_cases hw : wk (sV s 63 p) k2 (nI (loss s n p)) M 1 (sV s 61 (7 + p)) = -9
    · rw [if_pos hw, hw]
    · rw [if_neg hw]
theorem ag_weeks {s : ST} (hI : Inv s) (a0 a1 : Int32) : ∃ (v : Int32) (s1 s2 : ST), f_X5_weeks (some 0) a0 a1 (HP s) = some (v, HP s1) ∧ f_X6_weeks (some 60) a0 a1 (HP s1) = some (v, HP s2) ∧ Inv s2 := by
  obtain ⟨n, hF, hT, hK⟩ := hI.1
  have h6 := hF.le
  obtain ⟨t, ht, hs, hs0, hS, -⟩ := hT.t
  rcases ix_n a0 (n := n) (by omega) with h | ⟨p, hp, rfl⟩
  · refine ⟨-1, s, s, ?_, ?_, hI⟩
    · simp only [f_X5_weeks, gR_0_8, Option.bind_some, fk_q, if_true, p1_hasF hF h]
    · simp only [f_X6_weeks, qO_60, if_true, p6_isPF hF h, Option.bind_some]
  by_cases hr : 0 ≤ a1.toInt ∧ a1.toInt ≤ 9
  · have e1 : ¬ a1 < 0 := fun q => by have := toInt_neg q; omega
    have e2 : a1 ≤ 9 := Int32.le_iff_toInt_le.mpr (by simp; omega)
    have e3 : 0 ≤ a1.toInt ∧ a1.toInt ≤ (9 : Int64).toInt := by simp; omega
    refine ⟨fewest s n p a1 30, s, s, ?_, ?_, hI⟩
    · simp only [f_X5_weeks, gR_0_8, Option.bind_some, fk_q, if_true, p1_hasT hF hp, n10, if_false, if_neg e1, if_pos e2, qO_0, p5_fewest hF hT hp]
    · simp only [f_X6_weeks, qO_60, if_true, p6_isPT hF hp, Option.bind_some, n10, if_false, p6_in0, if_pos e3, show (30 : Int32) = nI 30 from rfl, p6_fewest hF hS hp a1 (show 30 < 1000 by omega)]
  · have e3 : ¬ (0 ≤ a1.toInt ∧ a1.toInt ≤ (9 : Int64).toInt) := by simp; omega
    refine ⟨-1, s, s, ?_, ?_, hI⟩
    · by_cases h0 : a1 < 0
      · simp only [f_X5_weeks, gR_0_8, Option.bind_some, fk_q, if_true, p1_hasT hF hp, n10, if_false, if_pos h0]
      · have h0' : ¬ a1.toInt < (0 : Int32).toInt := fun q => h0 (Int32.lt_iff_toInt_lt.mpr q)
        have e2 : ¬ a1 ≤ 9 := fun q => by have := Int32.le_iff_toInt_le.mp q; simp at this h0'; omega
        simp only [f_X5_weeks, gR_0_8, Option.bind_some, fk_q, if_true, p1_hasT hF hp, n10, if_false, if_neg h0, if_neg e2]
    · simp only [f_X6_weeks, qO_60, if_true, p6_isPT hF hp, Option.bind_some, n10, if_false, p6_in0, if_neg e3]
