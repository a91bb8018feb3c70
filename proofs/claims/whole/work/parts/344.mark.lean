/-! ===== thwart, mark ===== -/
/-- the greatest k, from k down to 1, with P -/
def dn (P : Nat → Bool) : Nat → Int32
  | 0 => -9
  | k + 1 => if P (k + 1) then nI (k + 1) else dn P k
theorem jdn {body : Int32 → AH → Option ((Int32 × AH) ⊕ ((Unit × AH) ⊕ (Int32 × AH)))} {ah : AH} (P : Nat → Bool) (hx : body (nI 0) ah = some (.inr (.inl ((), ah)))) (hb : ∀ k, k < 9 → body (nI (k + 1)) ah = if P (k + 1) then some (.inl (nI (k + 1), ah)) else some (.inr (.inr (nI k, ah)))) : ∀ (k f : Nat), k ≤ 9 → k < f → jloop body f (nI k) ah = some (if dn P k = -9 then .inr ((), ah) else .inl (dn P k, ah)) := by
  intro k
  induction k with
  | zero =>
    intro f _ hf
    obtain ⟨f, rfl⟩ : ∃ f', f = f' + 1 := ⟨f - 1, by omega⟩
    rw [jloop, hx]
    rfl
  | succ k ih =>
    intro f hk hf
    obtain ⟨f, rfl⟩ : ∃ f', f = f' + 1 := ⟨f - 1, by omega⟩
    rw [jloop, hb k (by omega), dn]
    by_cases h : P (k + 1) = true
    · rw [if_pos h, if_pos h, if_neg (nI_n9 (by omega))]
    · rw [if_neg h, if_neg h]
      exact ih f (by omega) (by omega)
theorem fewest_less {s : ST} {n p : Nat} {k2 : Int32} {W : Nat} (h1 : W ≤ 30) : fewest s n p k2 W = -9 ↔ fewest s n p k2 30 = -9 ∨ ¬ fewest s n p k2 30 ≤ nI W := by
  unfold fewest
  by_cases h : sV s 63 p ≤ sV s 61 (7 + p)
  · simp only [if_pos h]
    refine ⟨fun e => absurd e (by decide), ?_⟩
    rintro (e | e)
    · exact e
    · exact absurd (nI_pos' (show W < 2 ^ 31 by omega)) e
  · simp only [if_neg h]
    rw [wk_less _ _ _ W (30 - W) 1 _ (by omega), show W + (30 - W) = 30 by omega]
    constructor
    · rintro (e | ⟨v, a1, a2, a3⟩)
      · exact Or.inl e
      · exact Or.inr (by rw [a3]; exact nI_ge (by omega) (by omega))
    · rintro (e | e)
      · exact Or.inl e
      · rcases wk_spec (sV s 63 p) k2 (nI (loss s n p)) 30 1 (sV s 61 (7 + p)) with q | ⟨v, a1, a2, a3⟩
        · exact Or.inl q
        · refine Or.inr ⟨v, ?_, by omega, a3⟩
          rw [a3] at e
          rcases Nat.lt_or_ge W v with q | q
          · omega
          · exact absurd (nI_le q (by omega)) e
theorem ag_thwart {s : ST} (hI : Inv s) (a0 a1 : Int32) : ∃ (v : Int32) (s1 s2 : ST), f_X5_thwart (some 0) a0 a1 (HP s) = some (v, HP s1) ∧ f_X6_thwart (some 60) a0 a1 (HP s1) = some (v, HP s2) ∧ Inv s2 := by
  obtain ⟨n, hF, hT, hK⟩ := hI.1
  have h6 := hF.le
  obtain ⟨t, ht, hs, hs0, hS, -⟩ := hT.t
  rcases ix_n a0 (n := n) (by omega) with h | ⟨p, hp, rfl⟩
  · refine ⟨-1, s, s, ?_, ?_, hI⟩
    · simp only [f_X5_thwart, gR_0_8, Option.bind_some, fk_q, if_true, p1_hasF hF h]
    · simp only [f_X6_thwart, qO_60, if_true, p6_isPF hF h, Option.bind_some]
  have e6 : ∀ ah, f_X6_in (Int32.toInt64 a1) 1 30 ah = some (if 1 ≤ a1.toInt ∧ a1.toInt ≤ 30 then 1 else 0, ah) := fun ah => p6_inI a1 1 30 ah
  by_cases hr : 1 ≤ a1.toInt ∧ a1.toInt ≤ 30
  · obtain ⟨W, hW1, rfl⟩ : ∃ W : Nat, W ≤ 30 ∧ a1 = nI W := by
      rcases ix_n a1 (n := 31) (by omega) with q | ⟨W, q, rfl⟩
      · rcases q with q | q
        · have := toInt_neg q; omega
        · have := toInt_ge (by omega) q; omega
      · exact ⟨W, by omega, rfl⟩
    have hW : (nI W).toInt = W := nI_toInt (by omega)
    have e1 : ¬ nI W < 1 := nI_nlt (a := W) (b := 1) (by omega) (by omega)
    have e2 : nI W ≤ 30 := nI_le (b := 30) hW1 (by omega)
    have l5 : jloop (f_X5_thwart_b27 (some 0) (nI p) (nI W)) jfuel 9 (HP s) = _ := jdn (fun k => decide (fewest s n p (nI k) W = -9)) (by
        simp only [f_X5_thwart_b27, if_pos (show nI 0 < 1 by decide)]) (fun k hk => by
        simp only [f_X5_thwart_b27, if_neg (show ¬ nI (k + 1) < 1 from nI_nlt (a := k + 1) (b := 1) (by omega) (by omega)), qO_0, if_true, p5_fewest hF hT hp, Option.bind_some, pk_m1, decide_eq_true_eq, fewest_less hW1]
        by_cases q1 : fewest s n p (nI (k + 1)) 30 = -9
        · simp only [q1, if_true, true_or]
        · by_cases q2 : fewest s n p (nI (k + 1)) 30 ≤ nI W
          · simp only [q1, q2, if_true, if_false, not_true, or_self]
          · simp only [q1, q2, if_true, if_false, not_false_iff, or_true]) 9 jfuel (by omega) (by unfold jfuel; omega)
    have l6 : jloop (f_X6_thwart_b25 (some 60) (nI p) (nI W)) jfuel 9 (HP s) = _ := jdn (fun k => decide (fewest s n p (nI k) W = -9)) (by
        simp only [f_X6_thwart_b25, if_pos (show nI 0 ≤ 0 by decide)]) (fun k hk => by
        simp only [f_X6_thwart_b25, if_neg (show ¬ nI (k + 1) ≤ 0 from nI_nle (by omega) (by omega)), qO_60, if_true, p6_fewest hF hS hp (nI (k + 1)) (show W < 1000 by omega), Option.bind_some, pk_m1, decide_eq_true_eq]) 9 jfuel (by omega) (by unfold jfuel; omega)
    refine ⟨dn (fun k => decide (fewest s n p (nI k) W = -9)) 9, s, s, ?_, ?_, hI⟩
    · simp only [f_X5_thwart, gR_0_8, Option.bind_some, fk_q, if_true, p1_hasT hF hp, n10, if_false, if_neg e1, if_pos e2, l5]
      by_cases q : dn (fun k => decide (fewest s n p (nI k) W = -9)) 9 = -9
      · rw [if_pos q, q]
      · rw [if_neg q]
    · simp only [f_X6_thwart, qO_60, if_true, p6_isPT hF hp, Option.bind_some, n10, if_false, e6, if_pos hr, l6]
      by_cases q : dn (fun k => decide (fewest s n p (nI k) W = -9)) 9 = -9
      · rw [if_pos q, q]
      · rw [if_neg q]
  · refine ⟨-1, s, s, ?_, ?_, hI⟩
    · by_cases h0 : a1 < 1
      · simp only [f_X5_thwart, gR_0_8, Option.bind_some, fk_q, if_true, p1_hasT hF hp, n10, if_false, if_pos h0]
      · have h0' : ¬ a1.toInt < (1 : Int32).toInt := fun q => h0 (Int32.lt_iff_toInt_lt.mpr q)
        have e2 : ¬ a1 ≤ 30 := fun q => by have := Int32.le_iff_toInt_le.mp q; simp at this h0'; omega
        simp only [f_X5_thwart, gR_0_8, Option.bind_some, fk_q, if_true, p1_hasT hF hp, n10, if_false, if_neg h0, if_neg e2]
    · simp only [f_X6_thwart, qO_60, if_true, p6_isPT hF hp, Option.bind_some, n10, if_false, e6, if_neg hr]
/-! mark -/
theorem p6_isOf {s : ST} {p k : Nat} (hp : p < 6) (hk : sV s 62 p = nI k) (h6 : k < 6) {c : Nat} (hc : c < 6) : f_X6_isOf (some 60) (nI p) (nI c) (HP s) = some (if kIs k c then 1 else 0, HP s) := by
  simp only [f_X6_isOf, f_X6_isOf_j25, gR_60_2, Option.bind_some, g62 s hp, hk]
  match k, h6, c, hc with
  | 0, _, 0, _ | 0, _, 1, _ | 0, _, 2, _ | 0, _, 3, _ | 0, _, 4, _ | 0, _, 5, _ => rfl
  | 1, _, 0, _ | 1, _, 1, _ | 1, _, 2, _ | 1, _, 3, _ | 1, _, 4, _ | 1, _, 5, _ => rfl
  | 2, _, 0, _ | 2, _, 1, _ | 2, _, 2, _ | 2, _, 3, _ | 2, _, 4, _ | 2, _, 5, _ => rfl
  | 3, _, 0, _ | 3, _, 1, _ | 3, _, 2, _ | 3, _, 3, _ | 3, _, 4, _ | 3, _, 5, _ => rfl
  | 4, _, 0, _ | 4, _, 1, _ | 4, _, 2, _ | 4, _, 3, _ | 4, _, 4, _ | 4, _, 5, _ => rfl
  | 5, _, 0, _ | 5, _, 1, _ | 5, _, 2, _ | 5, _, 3, _ | 5, _, 4, _ | 5, _, 5, _ => rfl
  | k + 6, h, _, _ => exact absurd h (by omega)
  | _, _, c + 6, h => exact absurd h (by omega)
/-- how many bits -/
def pcF (x : Int32) (j : Nat) (a : Int32) : Int32 := a + ((x >>> (nI j &&& 31)) &&& 1)
def pc (x : Int32) : Int32 := fold (pcF x) 6 0 0
theorem p6_bits (x : Int32) (ah : AH) : f_X6_bits x ah = some (pc x, ah) := by
  have h : jloop (f_X6_bits_b4 x) jfuel (0, 0) ah = some (.inr (fold (pcF x) 6 0 0, ah)) := by
    refine jfold (n := 6) (pcF x) (fun a => ?_) (fun j a hj => ?_) 6 jfuel 0 0 (by omega) (by unfold jfuel; omega)
    · simp only [f_X6_bits_b4, if_pos (show (6 : Int32) ≤ nI 6 by decide)]
    · simp only [f_X6_bits_b4, if_neg (show ¬ (6 : Int32) ≤ nI j from nI_ge (b := 6) hj (by omega)), nI_1, pcF]
  simp only [f_X6_bits, h, Option.bind_some, pc]
set_option maxRecDepth 100000 in
theorem bc_dec : ∀ m, m < 64 → (f_J6_bitCount_0f7a4 (nI m) []).map (fun q => q.1) = some (pc (nI m)) := by decide +kernel
theorem bc_ah (x : Int32) (ah : AH) : f_J6_bitCount_0f7a4 x ah = (f_J6_bitCount_0f7a4 x []).map (fun q => (q.1, ah)) := rfl
theorem p_bitCount {m : Nat} (h : m < 64) (ah : AH) : f_J6_bitCount_0f7a4 (nI m) ah = some (pc (nI m), ah) := by
  rw [bc_ah]
  have := bc_dec m h
  cases hq : f_J6_bitCount_0f7a4 (nI m) [] with
  | none => rw [hq] at this; cases this
  | some q =>
    rw [hq] at this
    have e : q.1 = pc (nI m) := Option.some.inj this
    rw [Option.map_some, e]
