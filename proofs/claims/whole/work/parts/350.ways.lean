/-! ===== loops in general; ways ===== -/
theorem jfoldH {S A X T : Type} {body : S → AH → Option ((T × AH) ⊕ ((X × AH) ⊕ (S × AH)))} {n : Nat} (mk : A → Nat → S) (ex : A → X) (hp : A → AH) (F : Nat → A → A) (P : Nat → A → Prop) (hP : ∀ j a, j < n → P j a → P (j + 1) (F j a)) (hx : ∀ a, P n a → body (mk a n) (hp a) = some (.inr (.inl (ex a, hp a)))) (hs : ∀ j a, j < n → P j a → body (mk a j) (hp a) = some (.inr (.inr (mk (F j a) (j + 1), hp (F j a))))) : ∀ (m f j : Nat) (a : A), j + m = n → m < f → P j a → jloop body f (mk a j) (hp a) = some (.inr (ex (fold F m j a), hp (fold F m j a))) ∧ P n (fold F m j a) := by
  intro m
  induction m with
  | zero =>
    intro f j a hj hf hp1
    obtain ⟨f, rfl⟩ : ∃ f', f = f' + 1 := ⟨f - 1, by omega⟩
    have e : j = n := by omega
    subst e
    rw [jloop, hx a hp1]
    exact ⟨rfl, hp1⟩
  | succ m ih =>
    intro f j a hj hf hp1
    obtain ⟨f, rfl⟩ : ∃ f', f = f' + 1 := ⟨f - 1, by omega⟩
    rw [jloop, hs j a (by omega) hp1]
    exact ih f (j + 1) (F j a) (by omega) (by omega) (hP j a (by omega) hp1)
theorem jfoldG {S A X T : Type} {body : S → AH → Option ((T × AH) ⊕ ((X × AH) ⊕ (S × AH)))} {ah : AH} {n : Nat} (mk : A → Nat → S) (ex : A → X) (F : Nat → A → A) (hx : ∀ a, body (mk a n) ah = some (.inr (.inl (ex a, ah)))) (hs : ∀ j a, j < n → body (mk a j) ah = some (.inr (.inr (mk (F j a) (j + 1), ah)))) (m f j : Nat) (a : A) (hj : j + m = n) (hf : m < f) : jloop body f (mk a j) ah = some (.inr (ex (fold F m j a), ah)) :=
  (jfoldH mk ex (fun _ => ah) F (fun _ _ => True) (fun _ _ _ _ => trivial) (fun a _ => hx a) (fun j a h _ => hs j a h) m f j a hj hf trivial).1
/-- DEEDS behind a week of a row of weeks -/
def stR (b e w d : Int32) : Int32 := if 0 ≤ (d + 1) - (if (e >>> (w &&& 31)) &&& 1 = 1 then b else 0) then (d + 1) - (if (e >>> (w &&& 31)) &&& 1 = 1 then b else 0) else 0
/-- whether it is REACHED within m weeks from w on -/
def rb (a b e : Int32) : Nat → Nat → Int32 → Bool
  | 0, _, d => decide (a ≤ d)
  | m + 1, w, d => if a ≤ d then true else rb a b e m (w + 1) (stR b e (nI w) d)
theorem p5_rt {s : ST} {n p W : Nat} (hF : InvF s n) (hp : p < n) (hW : W ≤ 8) (b e : Int32) : ∀ (m f w : Nat) (d : Int32), w + m = W → m < f → (jloop (f_X5_reachesThrough_b20 (some 0) (nI p) (nI W) e b) f (d, nI w) (HP s) = some (.inl (1, HP s)) ∧ rb (sV s 63 p) b e m w d = true) ∨ ∃ d', jloop (f_X5_reachesThrough_b20 (some 0) (nI p) (nI W) e b) f (d, nI w) (HP s) = some (.inr (d', HP s)) ∧ rb (sV s 63 p) b e m w d = decide (sV s 63 p ≤ d') := by
  intro m
  induction m with
  | zero =>
    intro f w d hw hf
    obtain ⟨f, rfl⟩ : ∃ f', f = f' + 1 := ⟨f - 1, by omega⟩
    refine Or.inr ⟨d, ?_, rfl⟩
    rw [jloop]
    simp only [f_X5_reachesThrough_b20, if_pos (nI_le (show W ≤ w by omega) (show w < 2 ^ 31 by omega))]
  | succ m ih =>
    intro f w d hw hf
    obtain ⟨f, rfl⟩ : ∃ f', f = f' + 1 := ⟨f - 1, by omega⟩
    rw [jloop, rb]
    simp only [f_X5_reachesThrough_b20, f_X5_reachesThrough_b20_j59, f_X5_afterWeek, if_neg (nI_ge (show w < W by omega) (show W < 2 ^ 31 by omega)), gR_0_8, Option.bind_some, fk_q, if_true, p1_aimOf hF hp, hF.a hp, nI_1, max0]
    by_cases h : sV s 63 p ≤ d
    · rw [if_neg (fun q => (i32_nlt.mp q) h), if_pos h]
      exact Or.inl ⟨rfl, rfl⟩
    · rw [if_pos (i32_nlt.mpr h), if_neg h]
      have hh := ih f (w + 1) (stR b e (nI w) d) (by omega) (by omega)
      by_cases hb : (e >>> (nI w &&& 31)) &&& 1 = 1
      · simp only [hb, if_true]
        simp only [stR, hb, if_true] at hh ⊢
        exact hh
      · simp only [hb, if_false]
        simp only [stR, hb, if_false] at hh ⊢
        exact hh
theorem add_sub3 (d b : Int32) : d + (1 - b) = (d + 1) - b := by
  rw [Int32.sub_eq_add_neg, Int32.sub_eq_add_neg, Int32.add_assoc]
theorem p6_rt {s : ST} {n p W : Nat} (hF : InvF s n) (hp : p < n) (hW : W ≤ 8) (e : Int32) : ∀ (m f w : Nat) (d : Int32), w + m = W → m < f → jloop (f_X6_isReachedBy_b21 (some 60) (nI p) (nI W) e) f (d, (if sV s 63 p ≤ d then 1 else 0), nI w) (HP s) = some (.inr ((if rb (sV s 63 p) (nI (loss s n p)) e m w d then 1 else 0), HP s)) := by
  have h6 := hF.le
  intro m
  induction m with
  | zero =>
    intro f w d hw hf
    obtain ⟨f, rfl⟩ : ∃ f', f = f' + 1 := ⟨f - 1, by omega⟩
    rw [jloop]
    simp only [f_X6_isReachedBy_b21, if_pos (nI_le (show W ≤ w by omega) (show w < 2 ^ 31 by omega)), rb, decide_eq_true_eq]
  | succ m ih =>
    intro f w d hw hf
    obtain ⟨f, rfl⟩ : ∃ f', f = f' + 1 := ⟨f - 1, by omega⟩
    rw [jloop, rb]
    have hh := ih f (w + 1) (stR (nI (loss s n p)) e (nI w) d) (by omega) (by omega)
    by_cases h : sV s 63 p ≤ d
    · simp only [f_X6_isReachedBy_b21, if_neg (nI_ge (show w < W by omega) (show W < 2 ^ 31 by omega)), h, if_true, n10, if_false]
    · have j68 : ∀ y, f_X6_isReachedBy_b21_j68 (some 60) (nI p) (nI W) e (nI w) y (HP s) = some (.inr (.inr ((y, (if sV s 63 p ≤ y then 1 else 0), nI (w + 1)), HP s))) := fun y => by
        simp only [f_X6_isReachedBy_b21_j68, gR_60_3, Option.bind_some, g63 s (show p < 6 by omega), nI_1]
        by_cases q : sV s 63 p ≤ y
        · rw [if_neg (fun z => (i32_nlt.mp z) q), if_pos q]
        · rw [if_pos (i32_nlt.mpr q), if_neg q]
      simp only [f_X6_isReachedBy_b21, f_X6_isReachedBy_b21_j53, if_neg (nI_ge (show w < W by omega) (show W < 2 ^ 31 by omega)), h, if_true, if_false, p6_has, Option.bind_some, qO_60, p6_loss hF hp, j68, add_sub3]
      by_cases hb : (e >>> (nI w &&& 31)) &&& 1 = 1
      · simp only [hb, if_true, n10, if_false]
        simp only [stR, hb, if_true] at hh ⊢
        by_cases q : 0 ≤ d + 1 - nI (loss s n p)
        · simp only [q, if_true] at hh ⊢
          exact hh
        · simp only [q, if_false] at hh ⊢
          exact hh
      · simp only [hb, if_true, if_false]
        simp only [stR, hb, if_false] at hh ⊢
        by_cases q : 0 ≤ d + 1 - 0
        · simp only [q, if_true] at hh ⊢
          exact hh
        · simp only [q, if_false] at hh ⊢
          exact hh
/-- REACHED in a row of W weeks, THWARTED in those of e -/
def rw_ (s : ST) (n p W : Nat) (e : Int32) : Bool := rb (sV s 63 p) (nI (loss s n p)) e W 0 (sV s 61 (7 + p))
theorem p5_rw {s : ST} {n p W : Nat} (hF : InvF s n) (hT : InvT s n 5 0) (hp : p < n) (hW : W ≤ 8) (e : Int32) : f_X5_reachesThrough (some 0) (nI p) (nI W) e (HP s) = some (if rw_ s n p W e then 1 else 0, HP s) := by
  have h6 := hF.le
  obtain ⟨t, ht, hs, -, hS, -⟩ := hT.t
  obtain ⟨d, -, h2, h3⟩ := hS.2.2.2.1 p hp
  have ed : sV s 7 (6 * t + p) = sV s 61 (7 + p) := by rw [h2, ← h3, show 1 + 6 + p = 7 + p by omega]
  unfold rw_
  have hl := p5_rt hF hp hW (nI (loss s n p)) e W jfuel 0 (sV s 61 (7 + p)) (by omega) (by unfold jfuel; omega)
  rw [show nI 0 = 0 from rfl] at hl
  rcases hl with ⟨h, q⟩ | ⟨d', h, q⟩
  · simp only [f_X5_reachesThrough, gR_0_3, Option.bind_some, qO_5, qO_0, if_true, p4_deedsOf ht hs (show p < 6 by omega), ed, p5_loss hF hT hp, h, q]
  · simp only [f_X5_reachesThrough, gR_0_3, gR_0_8, fk_q, Option.bind_some, qO_5, qO_0, if_true, p4_deedsOf ht hs (show p < 6 by omega), ed, p5_loss hF hT hp, h, q, p1_aimOf hF hp, hF.a hp, decide_eq_true_eq]
    by_cases q : sV s 63 p ≤ d'
    · rw [if_neg (fun z => (i32_nlt.mp z) q), if_pos q]
    · rw [if_pos (i32_nlt.mpr q), if_neg q]
theorem ite01 (c : Prop) [Decidable c] : ((if c then (1 : Int32) else 0) = 0 ∨ (if c then (1 : Int32) else 0) = 1) = True := by
  split <;> simp
theorem p6_rw {s : ST} {n t p W : Nat} (hF : InvF s n) (hS : InvS s n 6 7 8 t 1) (hp : p < n) (hW : W ≤ 8) (e : Int32) : f_X6_isReachedBy (some 60) (nI p) (nI W) e (HP s) = some (if rw_ s n p W e then 1 else 0, HP s) := by
  have h6 := hF.le
  have hl : jloop (f_X6_isReachedBy_b21 (some 60) (nI p) (nI W) e) jfuel (sV s 61 (7 + p), (if sV s 63 p ≤ sV s 61 (7 + p) then 1 else 0), 0) (HP s) = _ := p6_rt hF hp hW e W jfuel 0 (sV s 61 (7 + p)) (by omega) (by unfold jfuel; omega)
  unfold rw_
  simp only [f_X6_isReachedBy, gR_60_0, Option.bind_some, e7p, g61 s (show 7 + p < 3120 by omega), qO_60, if_true, p6_isReached hF hS hp, hl, ite01]
def pc8 (x : Int32) : Int32 := (pc x + ((x >>> ((6 : Int32) &&& 31)) &&& 1)) + (x >>> ((7 : Int32) &&& 31))
set_option maxRecDepth 100000 in
theorem bc8_dec : ∀ m, m < 256 → (f_J6_bitCount_0f7a4 (nI m) []).map (fun q => q.1) = some (pc8 (nI m)) := by decide +kernel
theorem p_bitCount8 {m : Nat} (h : m < 256) (ah : AH) : f_J6_bitCount_0f7a4 (nI m) ah = some (pc8 (nI m), ah) := by
  rw [bc_ah]
  have := bc8_dec m h
  cases hq : f_J6_bitCount_0f7a4 (nI m) [] with
  | none => rw [hq] at this; cases this
  | some q =>
    rw [hq] at this
    have e : q.1 = pc8 (nI m) := Option.some.inj this
    rw [Option.map_some, e]
theorem sh8 : ∀ W, W ≤ 8 → (1 : Int32) <<< (nI W &&& 31) = nI (2 ^ W) := by decide
/-- what ways counts: how many, the fewest -/
def waF (s : ST) (n p W : Nat) (j : Nat) (a : Int32 × Int32) : Int32 × Int32 := if rw_ s n p W (nI j) then a else (a.1 + 1, if a.2 = -9 then pc8 (nI j) else if a.2 ≤ pc8 (nI j) then a.2 else pc8 (nI j))
theorem ag_ways {s : ST} (hI : Inv s) (a0 a1 : Int32) : ∃ (v : Int32) (s1 s2 : ST), f_X5_ways (some 0) a0 a1 (HP s) = some (v, HP s1) ∧ f_X6_ways (some 60) a0 a1 (HP s1) = some (v, HP s2) ∧ Inv s2 := by
  obtain ⟨n, hF, hT, hK⟩ := hI.1
  have h6 := hF.le
  obtain ⟨t, ht, hs, hs0, hS, -⟩ := hT.t
  rcases ix_n a0 (n := n) (by omega) with h | ⟨p, hp, rfl⟩
  · refine ⟨-1, s, s, ?_, ?_, hI⟩
    · simp only [f_X5_ways, gR_0_8, Option.bind_some, fk_q, if_true, p1_hasF hF h]
    · simp only [f_X6_ways, qO_60, if_true, p6_isPF hF h, Option.bind_some]
  rcases ix_n a1 (n := 9) (by omega) with h | ⟨W, hW, rfl⟩
  · refine ⟨-1, s, s, ?_, ?_, hI⟩
    · by_cases h0 : a1 < 0
      · simp only [f_X5_ways, gR_0_8, Option.bind_some, fk_q, if_true, p1_hasT hF hp, n10, if_false, if_pos h0]
      · have h1 := toInt_ge (by omega) (h.resolve_left h0)
        have e2 : ¬ a1 ≤ 8 := fun q => by have := Int32.le_iff_toInt_le.mp q; simp at this; omega
        simp only [f_X5_ways, gR_0_8, Option.bind_some, fk_q, if_true, p1_hasT hF hp, n10, if_false, if_neg h0, if_neg e2]
    · have e3 : ¬ (0 ≤ a1.toInt ∧ a1.toInt ≤ (8 : Int64).toInt) := by
        rcases h with h | h
        · have := toInt_neg h; omega
        · have := toInt_ge (by omega) h; simp; omega
      simp only [f_X6_ways, qO_60, if_true, p6_isPT hF hp, Option.bind_some, n10, if_false, p6_in0, if_neg e3]
  have hW8 : W ≤ 8 := by omega
  have hp2 : 2 ^ W ≤ 256 := Nat.pow_le_pow_right (n := 2) (by omega) hW8
  have e2 : nI W ≤ 8 := nI_le (b := 8) hW8 (by omega)
  have e3 : 0 ≤ (nI W).toInt ∧ (nI W).toInt ≤ (8 : Int64).toInt := by rw [nI_toInt (by omega)]; simp; omega
  have l5 : jloop (f_X5_ways_b32 (some 0) (nI p) (nI W)) jfuel (0, -9, 0) (HP s) = some (.inr (fold (waF s n p W) (2 ^ W) 0 (0, -9), HP s)) := by
    refine jfoldG (n := 2 ^ W) (fun (a : Int32 × Int32) j => (a.1, a.2, nI j)) (fun a => a) (waF s n p W) (fun a => ?_) (fun j a hj => ?_) (2 ^ W) jfuel 0 (0, -9) (by omega) (by unfold jfuel; omega)
    · simp only [f_X5_ways_b32, sh8 W hW8, if_pos (nI_le (Nat.le_refl (2 ^ W)) (show 2 ^ W < 2 ^ 31 by omega))]
    · simp only [f_X5_ways_b32, sh8 W hW8, if_neg (nI_ge hj (show 2 ^ W < 2 ^ 31 by omega)), qO_0, if_true, p5_rw hF hT hp hW8, Option.bind_some, p_bitCount8 (show j < 256 by omega), nI_1, waF]
      by_cases c1 : rw_ s n p W (nI j) = true
      · simp only [c1, if_true, n10, if_false]
      · simp only [c1, if_true, if_false, Bool.false_eq_true]
        by_cases c2 : a.2 = -9
        · simp only [c2, if_true]
        · by_cases c3 : a.2 ≤ pc8 (nI j)
          · simp only [c2, c3, if_true, if_false]
          · simp only [c2, c3, if_true, if_false]
  have l6 : ∀ v, jloop (f_X6_ways_b31 (some 60) (nI p) (nI W)) jfuel (0, -9, 0) (HP (uI s 11 v)) = some (.inr (fold (waF s n p W) (2 ^ W) 0 (0, -9), HP (uI s 11 v))) := by
    intro v
    have hF' : InvF (uI s 11 v) n := InvF_same (SameT.uI (by unfold IdT; omega)) hF
    have hS' : InvS (uI s 11 v) n 6 7 8 t 1 := hS
    refine jfoldG (n := 2 ^ W) (fun (a : Int32 × Int32) j => (a.1, a.2, nI j)) (fun a => a) (waF s n p W) (fun a => ?_) (fun j a hj => ?_) (2 ^ W) jfuel 0 (0, -9) (by omega) (by unfold jfuel; omega)
    · simp only [f_X6_ways_b31, sh8 W hW8, if_pos (nI_le (Nat.le_refl (2 ^ W)) (show 2 ^ W < 2 ^ 31 by omega))]
    · have er : rw_ (uI s 11 v) n p W (nI j) = rw_ s n p W (nI j) := rfl
      have ep : (pc (nI j) + ((nI j >>> ((6 : Int32) &&& 31)) &&& 1)) + (nI j >>> ((7 : Int32) &&& 31)) = pc8 (nI j) := rfl
      simp only [f_X6_ways_b31, f_X6_ways_b31_j85, sh8 W hW8, if_neg (nI_ge hj (show 2 ^ W < 2 ^ 31 by omega)), qO_60, if_true, p6_rw hF' hS' hp hW8, er, Option.bind_some, p6_bits, ep, nI_1, waF]
      by_cases c1 : rw_ s n p W (nI j) = true
      · simp only [c1, if_true, n10, if_false]
      · simp only [c1, if_true, if_false, Bool.false_eq_true]
        by_cases c2 : a.2 = -9
        · simp only [c2, if_true]
        · by_cases c3 : a.2 ≤ pc8 (nI j)
          · simp only [c2, c3, if_true, if_false]
          · simp only [c2, c3, if_true, if_false]
  generalize fold (waF s n p W) (2 ^ W) 0 (0, -9) = r at l5 l6
  refine ⟨r.1, uI s 11 r.2, uI (uI s 11 r.2) 1931 r.2, ?_, ?_, inv_tell hI r.2⟩
  · simp only [f_X5_ways, gR_0_8, Option.bind_some, fk_q, if_true, p1_hasT hF hp, n10, if_false, if_neg (nI_pos (show W < 2 ^ 31 by omega)), if_pos e2, l5, sF_0_11]
  · have hF' : InvF (uI s 11 r.2) n := InvF_same (SameT.uI (by unfold IdT; omega)) hF
    simp only [f_X6_ways, qO_60, if_true, p6_isPT hF' hp, Option.bind_some, n10, if_false, p6_in0, if_pos e3, l6, sF_60_11]
