/-! ===== the law's loop out of the calls' rows ===== -/
theorem gS_at {g : GX} {i : Nat} (k : Nat) (hk : k < 6) (hi : i + 6 ≤ jL g) (hL : jL g ≤ 3072) : gS g (nI i + nI k) = some (jX g (i + k)) := by
  rw [nI_add]
  unfold gS
  rw [if_pos ⟨nI_pos (by omega), by rw [nI_clamp (by omega)]; omega⟩, nI_clamp (by omega)]
theorem gS_0 {g : GX} {i : Nat} (hi : i + 6 ≤ jL g) (hL : jL g ≤ 3072) : gS g (nI i) = some (jX g i) := by
  unfold gS
  rw [if_pos ⟨nI_pos (by omega), by rw [nI_clamp (by omega)]; omega⟩, nI_clamp (by omega)]
/-- a step of the law's loop: on to the next call, with the invariant -/
def LStep (i : Nat) (o : Option ((Int32 × AH) ⊕ (((Unit) × AH) ⊕ ((Int32) × AH)))) : Prop := ∃ s' : ST, Inv s' ∧ o = some (.inr (.inr (nI (i + 6), HP s')))
theorem nI_6 (i : Nat) : nI i + 6 = nI (i + 6) := nI_add i 6
theorem qO5 (s : ST) : qO (HP s) (some 0) 5 = true := qO_0 s
theorem qO6 (s : ST) : qO (HP s) (some 60) 6 = true := qO_60 s

theorem lg_cmp_self (v : Int64) : lg_cmp v v = 0 := by
  unfold lg_cmp
  rw [if_neg (by simp), if_pos rfl]

theorem lc_0 {g : GX} {s : ST} {i : Nat} (hI : Inv s) (hi : i + 6 ≤ jL g) (hL : jL g ≤ 3072) : LStep i (f_L_law_b18_j212 g (some 0) (some 60) (nI i) (HP s)) := by
  obtain ⟨v, s1, s2, h1, h2, h3⟩ := ag_row hI (jX g (i + 1)) (jX g (i + 2))
  have g1 : gS g (nI i + 1) = some (jX g (i + 1)) := gS_at 1 (by decide) hi hL
  have g2 : gS g (nI i + 2) = some (jX g (i + 2)) := gS_at 2 (by decide) hi hL
  refine ⟨s2, h3, ?_⟩
  simp only [f_L_law_b18_j212, g1, g2, qO5, qO6, h1, h2, Option.bind_some, if_true, nI_6]
theorem lc_1 {g : GX} {s : ST} {i : Nat} (hI : Inv s) (hi : i + 6 ≤ jL g) (hL : jL g ≤ 3072) : LStep i (f_L_law_b18_j245 g (some 0) (some 60) (nI i) (HP s)) := by
  obtain ⟨v, s1, s2, h1, h2, h3⟩ := ag_lay hI (jX g (i + 1)) (jX g (i + 2)) (jX g (i + 3))
  have g1 : gS g (nI i + 1) = some (jX g (i + 1)) := gS_at 1 (by decide) hi hL
  have g2 : gS g (nI i + 2) = some (jX g (i + 2)) := gS_at 2 (by decide) hi hL
  have g3 : gS g (nI i + 3) = some (jX g (i + 3)) := gS_at 3 (by decide) hi hL
  refine ⟨s2, h3, ?_⟩
  simp only [f_L_law_b18_j245, g1, g2, g3, qO5, qO6, h1, h2, Option.bind_some, if_true, nI_6]
theorem lc_2 {g : GX} {s : ST} {i : Nat} (hI : Inv s) (hi : i + 6 ≤ jL g) (hL : jL g ≤ 3072) : LStep i (f_L_law_b18_j288 g (some 0) (some 60) (nI i) (HP s)) := by
  obtain ⟨v, s1, s2, h1, h2, h3⟩ := ag_at hI (jX g (i + 1)) (jX g (i + 2))
  have g1 : gS g (nI i + 1) = some (jX g (i + 1)) := gS_at 1 (by decide) hi hL
  have g2 : gS g (nI i + 2) = some (jX g (i + 2)) := gS_at 2 (by decide) hi hL
  refine ⟨s2, h3, ?_⟩
  simp only [f_L_law_b18_j288, g1, g2, qO5, qO6, h1, h2, Option.bind_some, if_true, nI_6]
theorem lc_3 {g : GX} {s : ST} {i : Nat} (hI : Inv s) (hi : i + 6 ≤ jL g) (hL : jL g ≤ 3072) : LStep i (f_L_law_b18_j321 g (some 0) (some 60) (nI i) (HP s)) := by
  obtain ⟨v, s1, s2, h1, h2, h3⟩ := ag_tear hI (jX g (i + 1))
  have g1 : gS g (nI i + 1) = some (jX g (i + 1)) := gS_at 1 (by decide) hi hL
  refine ⟨s2, h3, ?_⟩
  simp only [f_L_law_b18_j321, g1, qO5, qO6, h1, h2, Option.bind_some, if_true, nI_6]
theorem lc_4 {g : GX} {s : ST} {i : Nat} (hI : Inv s) (hi : i + 6 ≤ jL g) (hL : jL g ≤ 3072) : LStep i (f_L_law_b18_j344 g (some 0) (some 60) (nI i) (HP s)) := by
  obtain ⟨v, s1, s2, h1, h2, h3⟩ := ag_copy hI (jX g (i + 1)) (jX g (i + 2)) (jX g (i + 3)) (jX g (i + 4)) (jX g (i + 5))
  have g1 : gS g (nI i + 1) = some (jX g (i + 1)) := gS_at 1 (by decide) hi hL
  have g2 : gS g (nI i + 2) = some (jX g (i + 2)) := gS_at 2 (by decide) hi hL
  have g3 : gS g (nI i + 3) = some (jX g (i + 3)) := gS_at 3 (by decide) hi hL
  have g4 : gS g (nI i + 4) = some (jX g (i + 4)) := gS_at 4 (by decide) hi hL
  have g5 : gS g (nI i + 5) = some (jX g (i + 5)) := gS_at 5 (by decide) hi hL
  refine ⟨s2, h3, ?_⟩
  simp only [f_L_law_b18_j344, g1, g2, g3, g4, g5, qO5, qO6, h1, h2, Option.bind_some, if_true, nI_6]
theorem lc_5 {g : GX} {s : ST} {i : Nat} (hI : Inv s) (hi : i + 6 ≤ jL g) (hL : jL g ≤ 3072) : LStep i (f_L_law_b18_j407 g (some 0) (some 60) (nI i) (HP s)) := by
  obtain ⟨v, s1, s2, h1, h2, h3⟩ := ag_mean hI (jX g (i + 1))
  have g1 : gS g (nI i + 1) = some (jX g (i + 1)) := gS_at 1 (by decide) hi hL
  refine ⟨s2, h3, ?_⟩
  simp only [f_L_law_b18_j407, g1, qO5, qO6, h1, h2, Option.bind_some, if_true, nI_6]
theorem lc_6 {g : GX} {s : ST} {i : Nat} (hI : Inv s) (hi : i + 6 ≤ jL g) (hL : jL g ≤ 3072) : LStep i (f_L_law_b18_j430 g (some 0) (some 60) (nI i) (HP s)) := by
  obtain ⟨v, s1, s2, h1, h2, h3⟩ := ag_text hI (jX g (i + 1)) (jX g (i + 2))
  have g1 : gS g (nI i + 1) = some (jX g (i + 1)) := gS_at 1 (by decide) hi hL
  have g2 : gS g (nI i + 2) = some (jX g (i + 2)) := gS_at 2 (by decide) hi hL
  refine ⟨s2, h3, ?_⟩
  simp only [f_L_law_b18_j430, g1, g2, qO5, qO6, h1, h2, Option.bind_some, if_true, nI_6]
theorem lc_7 {g : GX} {s : ST} {i : Nat} (hI : Inv s) (hi : i + 6 ≤ jL g) (hL : jL g ≤ 3072) : LStep i (f_L_law_b18_j463 g (some 0) (some 60) (nI i) (HP s)) := by
  obtain ⟨v, s1, s2, h1, h2, h3⟩ := ag_put hI (jX g (i + 1)) (jX g (i + 2)) (jX g (i + 3))
  have g1 : gS g (nI i + 1) = some (jX g (i + 1)) := gS_at 1 (by decide) hi hL
  have g2 : gS g (nI i + 2) = some (jX g (i + 2)) := gS_at 2 (by decide) hi hL
  have g3 : gS g (nI i + 3) = some (jX g (i + 3)) := gS_at 3 (by decide) hi hL
  refine ⟨s2, h3, ?_⟩
  simp only [f_L_law_b18_j463, g1, g2, g3, qO5, qO6, h1, h2, Option.bind_some, if_true, nI_6]
theorem lc_8 {g : GX} {s : ST} {i : Nat} (hI : Inv s) (hi : i + 6 ≤ jL g) (hL : jL g ≤ 3072) : LStep i (f_L_law_b18_j506 g (some 0) (some 60) (nI i) (HP s)) := by
  obtain ⟨v, s1, s2, h1, h2, h3⟩ := ag_fault hI (jX g (i + 1))
  have g1 : gS g (nI i + 1) = some (jX g (i + 1)) := gS_at 1 (by decide) hi hL
  refine ⟨s2, h3, ?_⟩
  simp only [f_L_law_b18_j506, g1, qO5, qO6, h1, h2, Option.bind_some, if_true, nI_6]
theorem lc_9 {g : GX} {s : ST} {i : Nat} (hI : Inv s) (hi : i + 6 ≤ jL g) (hL : jL g ≤ 3072) : LStep i (f_L_law_b18_j529 g (some 0) (some 60) (nI i) (HP s)) := by
  obtain ⟨v, s1, s2, h1, h2, h3⟩ := ag_town hI (jX g (i + 1))
  have g1 : gS g (nI i + 1) = some (jX g (i + 1)) := gS_at 1 (by decide) hi hL
  refine ⟨s2, h3, ?_⟩
  simp only [f_L_law_b18_j529, g1, qO5, qO6, h1, h2, Option.bind_some, if_true, nI_6]
theorem lc_10 {g : GX} {s : ST} {i : Nat} (hI : Inv s) (hi : i + 6 ≤ jL g) (hL : jL g ≤ 3072) : LStep i (f_L_law_b18_j552 g (some 0) (some 60) (nI i) (HP s)) := by
  obtain ⟨v, s1, s2, h1, h2, h3⟩ := ag_person hI (jX g (i + 1)) (jX g (i + 2))
  have g1 : gS g (nI i + 1) = some (jX g (i + 1)) := gS_at 1 (by decide) hi hL
  have g2 : gS g (nI i + 2) = some (jX g (i + 2)) := gS_at 2 (by decide) hi hL
  refine ⟨s2, h3, ?_⟩
  simp only [f_L_law_b18_j552, g1, g2, qO5, qO6, h1, h2, Option.bind_some, if_true, nI_6]
theorem lc_11 {g : GX} {s : ST} {i : Nat} (hI : Inv s) (hi : i + 6 ≤ jL g) (hL : jL g ≤ 3072) : LStep i (f_L_law_b18_j585 g (some 0) (some 60) (nI i) (HP s)) := by
  obtain ⟨v, s1, s2, h1, h2, h3⟩ := ag_mark hI (jX g (i + 1)) (jX g (i + 2))
  have g1 : gS g (nI i + 1) = some (jX g (i + 1)) := gS_at 1 (by decide) hi hL
  have g2 : gS g (nI i + 2) = some (jX g (i + 2)) := gS_at 2 (by decide) hi hL
  refine ⟨s2, h3, ?_⟩
  simp only [f_L_law_b18_j585, g1, g2, qO5, qO6, h1, h2, Option.bind_some, if_true, nI_6]
theorem lc_12 {g : GX} {s : ST} {i : Nat} (hI : Inv s) (hi : i + 6 ≤ jL g) (hL : jL g ≤ 3072) : LStep i (f_L_law_b18_j618 g (some 0) (some 60) (nI i) (HP s)) := by
  obtain ⟨v, s1, s2, h1, h2, h3⟩ := ag_strength hI (jX g (i + 1)) (jX g (i + 2))
  have g1 : gS g (nI i + 1) = some (jX g (i + 1)) := gS_at 1 (by decide) hi hL
  have g2 : gS g (nI i + 2) = some (jX g (i + 2)) := gS_at 2 (by decide) hi hL
  refine ⟨s2, h3, ?_⟩
  simp only [f_L_law_b18_j618, g1, g2, qO5, qO6, h1, h2, Option.bind_some, if_true, nI_6]
theorem lc_13 {g : GX} {s : ST} {i : Nat} (hI : Inv s) (hi : i + 6 ≤ jL g) (hL : jL g ≤ 3072) : LStep i (f_L_law_b18_j651 g (some 0) (some 60) (nI i) (HP s)) := by
  obtain ⟨v, s1, s2, h1, h2, h3⟩ := ag_week hI (jX g (i + 1))
  have g1 : gS g (nI i + 1) = some (jX g (i + 1)) := gS_at 1 (by decide) hi hL
  refine ⟨s2, h3, ?_⟩
  simp only [f_L_law_b18_j651, g1, qO5, qO6, h1, h2, Option.bind_some, if_true, nI_6]
theorem lc_14 {g : GX} {s : ST} {i : Nat} (hI : Inv s) (hi : i + 6 ≤ jL g) (hL : jL g ≤ 3072) : LStep i (f_L_law_b18_j674 g (some 0) (some 60) (nI i) (HP s)) := by
  obtain ⟨v, s1, s2, h1, h2, h3⟩ := ag_exchange hI (jX g (i + 1)) (jX g (i + 2))
  have g1 : gS g (nI i + 1) = some (jX g (i + 1)) := gS_at 1 (by decide) hi hL
  have g2 : gS g (nI i + 2) = some (jX g (i + 2)) := gS_at 2 (by decide) hi hL
  refine ⟨s2, h3, ?_⟩
  simp only [f_L_law_b18_j674, g1, g2, qO5, qO6, h1, h2, Option.bind_some, if_true, nI_6]
theorem lc_15 {g : GX} {s : ST} {i : Nat} (hI : Inv s) (hi : i + 6 ≤ jL g) (hL : jL g ≤ 3072) : LStep i (f_L_law_b18_j707 g (some 0) (some 60) (nI i) (HP s)) := by
  obtain ⟨v, s1, s2, h1, h2, h3⟩ := ag_undo hI (jX g (i + 1))
  have g1 : gS g (nI i + 1) = some (jX g (i + 1)) := gS_at 1 (by decide) hi hL
  refine ⟨s2, h3, ?_⟩
  simp only [f_L_law_b18_j707, g1, qO5, qO6, h1, h2, Option.bind_some, if_true, nI_6]
theorem lc_16 {g : GX} {s : ST} {i : Nat} (hI : Inv s) (hi : i + 6 ≤ jL g) (hL : jL g ≤ 3072) : LStep i (f_L_law_b18_j730 g (some 0) (some 60) (nI i) (HP s)) := by
  obtain ⟨v, s1, s2, h1, h2, h3⟩ := ag_keep hI (jX g (i + 1))
  have g1 : gS g (nI i + 1) = some (jX g (i + 1)) := gS_at 1 (by decide) hi hL
  refine ⟨s2, h3, ?_⟩
  simp only [f_L_law_b18_j730, g1, qO5, qO6, h1, h2, Option.bind_some, if_true, nI_6]
theorem lc_17 {g : GX} {s : ST} {i : Nat} (hI : Inv s) (hi : i + 6 ≤ jL g) (hL : jL g ≤ 3072) : LStep i (f_L_law_b18_j753 g (some 0) (some 60) (nI i) (HP s)) := by
  obtain ⟨v, s1, s2, h1, h2, h3⟩ := ag_on hI (jX g (i + 1))
  have g1 : gS g (nI i + 1) = some (jX g (i + 1)) := gS_at 1 (by decide) hi hL
  refine ⟨s2, h3, ?_⟩
  simp only [f_L_law_b18_j753, g1, qO5, qO6, h1, h2, Option.bind_some, if_true, nI_6]
theorem lc_18 {g : GX} {s : ST} {i : Nat} (hI : Inv s) (hi : i + 6 ≤ jL g) (hL : jL g ≤ 3072) : LStep i (f_L_law_b18_j776 g (some 0) (some 60) (nI i) (HP s)) := by
  obtain ⟨v, s1, s2, h1, h2, h3⟩ := ag_rings hI 

  refine ⟨s2, h3, ?_⟩
  simp only [f_L_law_b18_j776,  qO5, qO6, h1, h2, Option.bind_some, if_true, nI_6]
theorem lc_19 {g : GX} {s : ST} {i : Nat} (hI : Inv s) (hi : i + 6 ≤ jL g) (hL : jL g ≤ 3072) : LStep i (f_L_law_b18_j789 g (some 0) (some 60) (nI i) (HP s)) := by
  obtain ⟨v, s1, s2, h1, h2, h3⟩ := ag_allies hI (jX g (i + 1))
  have g1 : gS g (nI i + 1) = some (jX g (i + 1)) := gS_at 1 (by decide) hi hL
  refine ⟨s2, h3, ?_⟩
  simp only [f_L_law_b18_j789, g1, qO5, qO6, h1, h2, Option.bind_some, if_true, nI_6]
theorem lc_20 {g : GX} {s : ST} {i : Nat} (hI : Inv s) (hi : i + 6 ≤ jL g) (hL : jL g ≤ 3072) : LStep i (f_L_law_b18_j812 g (some 0) (some 60) (nI i) (HP s)) := by
  obtain ⟨v, s1, s2, h1, h2, h3⟩ := ag_safe hI 

  refine ⟨s2, h3, ?_⟩
  simp only [f_L_law_b18_j812,  qO5, qO6, h1, h2, Option.bind_some, if_true, nI_6]
theorem lc_21 {g : GX} {s : ST} {i : Nat} (hI : Inv s) (hi : i + 6 ≤ jL g) (hL : jL g ≤ 3072) : LStep i (f_L_law_b18_j825 g (some 0) (some 60) (nI i) (HP s)) := by
  obtain ⟨v, s1, s2, h1, h2, h3⟩ := ag_weeks hI (jX g (i + 1)) (jX g (i + 2))
  have g1 : gS g (nI i + 1) = some (jX g (i + 1)) := gS_at 1 (by decide) hi hL
  have g2 : gS g (nI i + 2) = some (jX g (i + 2)) := gS_at 2 (by decide) hi hL
  refine ⟨s2, h3, ?_⟩
  simp only [f_L_law_b18_j825, g1, g2, qO5, qO6, h1, h2, Option.bind_some, if_true, nI_6]
theorem lc_22 {g : GX} {s : ST} {i : Nat} (hI : Inv s) (hi : i + 6 ≤ jL g) (hL : jL g ≤ 3072) : LStep i (f_L_law_b18_j858 g (some 0) (some 60) (nI i) (HP s)) := by
  obtain ⟨v, s1, s2, h1, h2, h3⟩ := ag_thwart hI (jX g (i + 1)) (jX g (i + 2))
  have g1 : gS g (nI i + 1) = some (jX g (i + 1)) := gS_at 1 (by decide) hi hL
  have g2 : gS g (nI i + 2) = some (jX g (i + 2)) := gS_at 2 (by decide) hi hL
  refine ⟨s2, h3, ?_⟩
  simp only [f_L_law_b18_j858, g1, g2, qO5, qO6, h1, h2, Option.bind_some, if_true, nI_6]
theorem lc_23 {g : GX} {s : ST} {i : Nat} (hI : Inv s) (hi : i + 6 ≤ jL g) (hL : jL g ≤ 3072) : LStep i (f_L_law_b18_j891 g (some 0) (some 60) (nI i) (HP s)) := by
  obtain ⟨v, s1, s2, h1, h2, h3⟩ := ag_ways hI (jX g (i + 1)) (jX g (i + 2))
  have g1 : gS g (nI i + 1) = some (jX g (i + 1)) := gS_at 1 (by decide) hi hL
  have g2 : gS g (nI i + 2) = some (jX g (i + 2)) := gS_at 2 (by decide) hi hL
  refine ⟨s2, h3, ?_⟩
  simp only [f_L_law_b18_j891, g1, g2, qO5, qO6, h1, h2, Option.bind_some, if_true, nI_6]
theorem lc_24 {g : GX} {s : ST} {i : Nat} (hI : Inv s) (hi : i + 6 ≤ jL g) (hL : jL g ≤ 3072) : LStep i (f_L_law_b18_j924 g (some 0) (some 60) (nI i) (HP s)) := by
  obtain ⟨v, s1, s2, h1, h2, h3⟩ := ag_wishes hI 

  refine ⟨s2, h3, ?_⟩
  simp only [f_L_law_b18_j924,  qO5, qO6, h1, h2, Option.bind_some, if_true, nI_6]
theorem lc_25 {g : GX} {s : ST} {i : Nat} (hI : Inv s) (hi : i + 6 ≤ jL g) (hL : jL g ≤ 3072) : LStep i (f_L_law_b18_j937 g (some 0) (some 60) (nI i) (HP s)) := by
  obtain ⟨v, s1, s2, h1, h2, h3⟩ := ag_mildest hI (jX g (i + 1))
  have g1 : gS g (nI i + 1) = some (jX g (i + 1)) := gS_at 1 (by decide) hi hL
  refine ⟨s2, h3, ?_⟩
  simp only [f_L_law_b18_j937, g1, qO5, qO6, h1, h2, Option.bind_some, if_true, nI_6]
theorem lc_26 {g : GX} {s : ST} {i : Nat} (hI : Inv s) (hi : i + 6 ≤ jL g) (hL : jL g ≤ 3072) : LStep i (f_L_law_b18_j960 g (some 0) (some 60) (nI i) (HP s)) := by
  obtain ⟨v, s1, s2, h1, h2, h3⟩ := ag_none hI (jX g (i + 1))
  have g1 : gS g (nI i + 1) = some (jX g (i + 1)) := gS_at 1 (by decide) hi hL
  refine ⟨s2, h3, ?_⟩
  simp only [f_L_law_b18_j960, g1, qO5, qO6, h1, h2, Option.bind_some, if_true, nI_6]
theorem lc_27 {g : GX} {s : ST} {i : Nat} (hI : Inv s) (hi : i + 6 ≤ jL g) (hL : jL g ≤ 3072) : LStep i (f_L_law_b18_j983 g (some 0) (some 60) (nI i) (HP s)) := by
  obtain ⟨v, s1, s2, h1, h2, h3⟩ := ag_maps hI 

  refine ⟨s2, h3, ?_⟩
  simp only [f_L_law_b18_j983,  qO5, qO6, h1, h2, Option.bind_some, if_true, nI_6]
theorem lc_28 {g : GX} {s : ST} {i : Nat} (hI : Inv s) (hi : i + 6 ≤ jL g) (hL : jL g ≤ 3072) : LStep i (f_L_law_b18_j996 g (some 0) (some 60) (nI i) (HP s)) := by
  obtain ⟨v, s1, s2, h1, h2, h3⟩ := ag_odds hI (jX g (i + 1)) (jX g (i + 2))
  have g1 : gS g (nI i + 1) = some (jX g (i + 1)) := gS_at 1 (by decide) hi hL
  have g2 : gS g (nI i + 2) = some (jX g (i + 2)) := gS_at 2 (by decide) hi hL
  refine ⟨s2, h3, ?_⟩
  simp only [f_L_law_b18_j996, g1, g2, qO5, qO6, h1, h2, Option.bind_some, if_true, nI_6]
theorem lc_29 {g : GX} {s : ST} {i : Nat} (hI : Inv s) (hi : i + 6 ≤ jL g) (hL : jL g ≤ 3072) : LStep i (f_L_law_b18_j1029 g (some 0) (some 60) (nI i) (HP s)) := by
  obtain ⟨v, s1, s2, h1, h2, h3⟩ := ag_both hI (jX g (i + 1)) (jX g (i + 2))
  have g1 : gS g (nI i + 1) = some (jX g (i + 1)) := gS_at 1 (by decide) hi hL
  have g2 : gS g (nI i + 2) = some (jX g (i + 2)) := gS_at 2 (by decide) hi hL
  refine ⟨s2, h3, ?_⟩
  simp only [f_L_law_b18_j1029, g1, g2, qO5, qO6, h1, h2, Option.bind_some, if_true, nI_6]
theorem lc_30 {g : GX} {s : ST} {i : Nat} (hI : Inv s) (hi : i + 6 ≤ jL g) (hL : jL g ≤ 3072) : LStep i (f_L_law_b18_j1062 g (some 0) (some 60) (nI i) (HP s)) := by
  obtain ⟨v, s1, s2, h1, h2, h3⟩ := ag_fits hI (jX g (i + 1))
  have g1 : gS g (nI i + 1) = some (jX g (i + 1)) := gS_at 1 (by decide) hi hL
  refine ⟨s2, h3, ?_⟩
  simp only [f_L_law_b18_j1062, g1, qO5, qO6, h1, h2, Option.bind_some, if_true, nI_6]
theorem lc_31 {g : GX} {s : ST} {i : Nat} (hI : Inv s) (hi : i + 6 ≤ jL g) (hL : jL g ≤ 3072) : LStep i (f_L_law_b18_j1085 g (some 0) (some 60) (nI i) (HP s)) := by
  obtain ⟨v, s1, s2, h1, h2, h3⟩ := ag_sure hI (jX g (i + 1)) (jX g (i + 2))
  have g1 : gS g (nI i + 1) = some (jX g (i + 1)) := gS_at 1 (by decide) hi hL
  have g2 : gS g (nI i + 2) = some (jX g (i + 2)) := gS_at 2 (by decide) hi hL
  refine ⟨s2, h3, ?_⟩
  simp only [f_L_law_b18_j1085, g1, g2, qO5, qO6, h1, h2, Option.bind_some, if_true, nI_6]
theorem lc_32 {g : GX} {s : ST} {i : Nat} (hI : Inv s) (hi : i + 6 ≤ jL g) (hL : jL g ≤ 3072) : LStep i (f_L_law_b18_j1118 g (some 0) (some 60) (nI i) (HP s)) := by
  obtain ⟨v, s1, s2, h1, h2, h3⟩ := ag_ask hI (jX g (i + 1))
  have g1 : gS g (nI i + 1) = some (jX g (i + 1)) := gS_at 1 (by decide) hi hL
  refine ⟨s2, h3, ?_⟩
  simp only [f_L_law_b18_j1118, g1, qO5, qO6, h1, h2, Option.bind_some, if_true, nI_6]
theorem lc_33 {g : GX} {s : ST} {i : Nat} (hI : Inv s) (hi : i + 6 ≤ jL g) (hL : jL g ≤ 3072) : LStep i (f_L_law_b18_j1141 g (some 0) (some 60) (nI i) (HP s)) := by
  obtain ⟨v, s1, s2, h1, h2, h3⟩ := ag_lots hI (jX g (i + 1)) (jX g (i + 2))
  have g1 : gS g (nI i + 1) = some (jX g (i + 1)) := gS_at 1 (by decide) hi hL
  have g2 : gS g (nI i + 2) = some (jX g (i + 2)) := gS_at 2 (by decide) hi hL
  refine ⟨s2, h3, ?_⟩
  simp only [f_L_law_b18_j1141, g1, g2, qO5, qO6, h1, h2, Option.bind_some, if_true, nI_6]
theorem lc_34 {g : GX} {s : ST} {i : Nat} (hI : Inv s) (hi : i + 6 ≤ jL g) (hL : jL g ≤ 3072) : LStep i (f_L_law_b18_j1174 g (some 0) (some 60) (nI i) (HP s)) := by
  obtain ⟨v, s1, s2, h1, h2, h3⟩ := ag_asked hI 

  refine ⟨s2, h3, ?_⟩
  simp only [f_L_law_b18_j1174,  qO5, qO6, h1, h2, Option.bind_some, if_true, nI_6]
theorem lc_35 {g : GX} {s : ST} {i : Nat} (hI : Inv s) (hi : i + 6 ≤ jL g) (hL : jL g ≤ 3072) : LStep i (f_L_law_b18_j1187 g (some 0) (some 60) (nI i) (HP s)) := by
  obtain ⟨v, s1, s2, h1, h2, h3⟩ := ag_upper hI 

  refine ⟨s2, h3, ?_⟩
  simp only [f_L_law_b18_j1187,  qO5, qO6, h1, h2, Option.bind_some, if_true, nI_6, lg_cmp_self]
theorem lc_36 {g : GX} {s : ST} {i : Nat} (hI : Inv s) (hi : i + 6 ≤ jL g) (hL : jL g ≤ 3072) : LStep i (f_L_law_b18_j1201 g (some 0) (some 60) (nI i) (HP s)) := by
  obtain ⟨v, s1, s2, h1, h2, h3⟩ := ag_lower hI 

  refine ⟨s2, h3, ?_⟩
  simp only [f_L_law_b18_j1201,  qO5, qO6, h1, h2, Option.bind_some, if_true, nI_6, lg_cmp_self]
theorem lc_37 {g : GX} {s : ST} {i : Nat} (hI : Inv s) (hi : i + 6 ≤ jL g) (hL : jL g ≤ 3072) : LStep i (f_L_law_b18_j1215 g (some 0) (some 60) (nI i) (HP s)) := by
  obtain ⟨v, s1, s2, h1, h2, h3⟩ := ag_count hI (jX g (i + 1))
  have g1 : gS g (nI i + 1) = some (jX g (i + 1)) := gS_at 1 (by decide) hi hL
  refine ⟨s2, h3, ?_⟩
  simp only [f_L_law_b18_j1215, g1, qO5, qO6, h1, h2, Option.bind_some, if_true, nI_6]
theorem lc_38 {g : GX} {s : ST} {i : Nat} (hI : Inv s) (hi : i + 6 ≤ jL g) (hL : jL g ≤ 3072) : LStep i (f_L_law_b18_j1238 g (some 0) (some 60) (nI i) (HP s)) := by
  obtain ⟨v, s1, s2, h1, h2, h3⟩ := ag_finding hI 

  refine ⟨s2, h3, ?_⟩
  simp only [f_L_law_b18_j1238,  qO5, qO6, h1, h2, Option.bind_some, if_true, nI_6]
theorem lc_39 {g : GX} {s : ST} {i : Nat} (hI : Inv s) (hi : i + 6 ≤ jL g) (hL : jL g ≤ 3072) : LStep i (f_L_law_b18_j1251 g (some 0) (some 60) (nI i) (HP s)) := by
  obtain ⟨v, s1, s2, h1, h2, h3⟩ := ag_findings hI (jX g (i + 1))
  have g1 : gS g (nI i + 1) = some (jX g (i + 1)) := gS_at 1 (by decide) hi hL
  refine ⟨s2, h3, ?_⟩
  simp only [f_L_law_b18_j1251, g1, qO5, qO6, h1, h2, Option.bind_some, if_true, nI_6]
theorem lc_40 {g : GX} {s : ST} {i : Nat} (hI : Inv s) (hi : i + 6 ≤ jL g) (hL : jL g ≤ 3072) : LStep i (f_L_law_b18_j1274 g (some 0) (some 60) (nI i) (HP s)) := by
  obtain ⟨v, s1, s2, h1, h2, h3⟩ := ag_digest hI 

  refine ⟨s2, h3, ?_⟩
  simp only [f_L_law_b18_j1274,  qO5, qO6, h1, h2, Option.bind_some, if_true, nI_6, lg_cmp_self]
theorem law_body {g : GX} {s : ST} {i : Nat} (hI : Inv s) (hi : i + 6 ≤ jL g) (hL : jL g ≤ 3072) : LStep i (f_L_law_b18 g (some 0) (some 60) (nI i) (HP s)) := by
  unfold f_L_law_b18
  have h0 : ¬ (Int32.ofNat (jL g)) - 6 < nI i := by
    have e : (Int32.ofNat (jL g)) - 6 = nI (jL g - 6) := pk_sub (a := jL g) (b := 6) (by omega)
    rw [e]
    exact nI_nlt (by omega) (by omega)
  rw [if_neg h0, gS_0 hi hL, Option.bind_some]
  generalize jX g i &&& 63 = w
  by_cases c0 : w = 0
  · rw [if_pos c0]
    exact lc_0 hI hi hL
  rw [if_neg c0]
  by_cases c1 : w = 1
  · rw [if_pos c1]
    exact lc_1 hI hi hL
  rw [if_neg c1]
  by_cases c2 : w = 2
  · rw [if_pos c2]
    exact lc_2 hI hi hL
  rw [if_neg c2]
  by_cases c3 : w = 3
  · rw [if_pos c3]
    exact lc_3 hI hi hL
  rw [if_neg c3]
  by_cases c4 : w = 4
  · rw [if_pos c4]
    exact lc_4 hI hi hL
  rw [if_neg c4]
  by_cases c5 : w = 5
  · rw [if_pos c5]
    exact lc_5 hI hi hL
  rw [if_neg c5]
  by_cases c6 : w = 6
  · rw [if_pos c6]
    exact lc_6 hI hi hL
  rw [if_neg c6]
  by_cases c7 : w = 7
  · rw [if_pos c7]
    exact lc_7 hI hi hL
  rw [if_neg c7]
  by_cases c8 : w = 8
  · rw [if_pos c8]
    exact lc_8 hI hi hL
  rw [if_neg c8]
  by_cases c9 : w = 9
  · rw [if_pos c9]
    exact lc_9 hI hi hL
  rw [if_neg c9]
  by_cases c10 : w = 10
  · rw [if_pos c10]
    exact lc_10 hI hi hL
  rw [if_neg c10]
  by_cases c11 : w = 11
  · rw [if_pos c11]
    exact lc_11 hI hi hL
  rw [if_neg c11]
  by_cases c12 : w = 12
  · rw [if_pos c12]
    exact lc_12 hI hi hL
  rw [if_neg c12]
  by_cases c13 : w = 13
  · rw [if_pos c13]
    exact lc_13 hI hi hL
  rw [if_neg c13]
  by_cases c14 : w = 14
  · rw [if_pos c14]
    exact lc_14 hI hi hL
  rw [if_neg c14]
  by_cases c15 : w = 15
  · rw [if_pos c15]
    exact lc_15 hI hi hL
  rw [if_neg c15]
  by_cases c16 : w = 16
  · rw [if_pos c16]
    exact lc_16 hI hi hL
  rw [if_neg c16]
  by_cases c17 : w = 17
  · rw [if_pos c17]
    exact lc_17 hI hi hL
  rw [if_neg c17]
  by_cases c18 : w = 18
  · rw [if_pos c18]
    exact lc_18 hI hi hL
  rw [if_neg c18]
  by_cases c19 : w = 19
  · rw [if_pos c19]
    exact lc_19 hI hi hL
  rw [if_neg c19]
  by_cases c20 : w = 20
  · rw [if_pos c20]
    exact lc_20 hI hi hL
  rw [if_neg c20]
  by_cases c21 : w = 21
  · rw [if_pos c21]
    exact lc_21 hI hi hL
  rw [if_neg c21]
  by_cases c22 : w = 22
  · rw [if_pos c22]
    exact lc_22 hI hi hL
  rw [if_neg c22]
  by_cases c23 : w = 23
  · rw [if_pos c23]
    exact lc_23 hI hi hL
  rw [if_neg c23]
  by_cases c24 : w = 24
  · rw [if_pos c24]
    exact lc_24 hI hi hL
  rw [if_neg c24]
  by_cases c25 : w = 25
  · rw [if_pos c25]
    exact lc_25 hI hi hL
  rw [if_neg c25]
  by_cases c26 : w = 26
  · rw [if_pos c26]
    exact lc_26 hI hi hL
  rw [if_neg c26]
  by_cases c27 : w = 27
  · rw [if_pos c27]
    exact lc_27 hI hi hL
  rw [if_neg c27]
  by_cases c28 : w = 28
  · rw [if_pos c28]
    exact lc_28 hI hi hL
  rw [if_neg c28]
  by_cases c29 : w = 29
  · rw [if_pos c29]
    exact lc_29 hI hi hL
  rw [if_neg c29]
  by_cases c30 : w = 30
  · rw [if_pos c30]
    exact lc_30 hI hi hL
  rw [if_neg c30]
  by_cases c31 : w = 31
  · rw [if_pos c31]
    exact lc_31 hI hi hL
  rw [if_neg c31]
  by_cases c32 : w = 32
  · rw [if_pos c32]
    exact lc_32 hI hi hL
  rw [if_neg c32]
  by_cases c33 : w = 33
  · rw [if_pos c33]
    exact lc_33 hI hi hL
  rw [if_neg c33]
  by_cases c34 : w = 34
  · rw [if_pos c34]
    exact lc_34 hI hi hL
  rw [if_neg c34]
  by_cases c35 : w = 35
  · rw [if_pos c35]
    exact lc_35 hI hi hL
  rw [if_neg c35]
  by_cases c36 : w = 36
  · rw [if_pos c36]
    exact lc_36 hI hi hL
  rw [if_neg c36]
  by_cases c37 : w = 37
  · rw [if_pos c37]
    exact lc_37 hI hi hL
  rw [if_neg c37]
  by_cases c38 : w = 38
  · rw [if_pos c38]
    exact lc_38 hI hi hL
  rw [if_neg c38]
  by_cases c39 : w = 39
  · rw [if_pos c39]
    exact lc_39 hI hi hL
  rw [if_neg c39]
  by_cases c40 : w = 40
  · rw [if_pos c40]
    exact lc_40 hI hi hL
  rw [if_neg c40]
  exact ⟨s, hI, by rw [nI_6]⟩
theorem law_loop {g : GX} (hL : jL g ≤ 3072) : ∀ (n i : Nat) (s : ST), Inv s → i ≤ jL g → jL g - i < n → ∃ s' : ST, jloop (f_L_law_b18 g (some 0) (some 60)) n (nI i) (HP s) = some (.inr ((), HP s')) := by
  intro n
  induction n with
  | zero => intro i s _ _ h; omega
  | succ n ih =>
    intro i s hI hi hn
    rw [jloop]
    by_cases h6 : i + 6 ≤ jL g
    · obtain ⟨s', h1, h2⟩ := law_body hI h6 hL
      rw [h2]
      exact ih (i + 6) s' h1 h6 (by omega)
    · refine ⟨s, ?_⟩
      unfold f_L_law_b18
      have h0 : (Int32.ofNat (jL g)) - 6 < nI i := by
        by_cases h7 : 6 ≤ jL g
        · have e : (Int32.ofNat (jL g)) - 6 = nI (jL g - 6) := pk_sub (a := jL g) (b := 6) h7
          rw [e]
          exact nI_lt (by omega) (by omega)
        · have e : (Int32.ofNat (jL g)) - 6 < 0 := pk_sneg (a := jL g) (b := 6) (by decide) (by omega)
          exact Int32.lt_of_lt_of_le e (nI_pos' (by omega))
      rw [if_pos h0]
theorem law_pure (g : GX) (hL : jL g ≤ 3072) : ∃ ah' : AH, f_L_law g [] = some (1, ah') ∧ ah'.length = 77 := by
  obtain ⟨s', h⟩ := law_loop hL jfuel 0 st0 inv0 (Nat.zero_le _) (by unfold jfuel; omega)
  refine ⟨HP s', ?_, HP_len s'⟩
  unfold f_L_law
  have e5 : f_X5_init ([] : AH).length ([] ++ [cell5]) = some ((), (HP st0).take 60) := init5
  unfold cell5 at e5
  rw [e5, Option.bind_some]
  have e6 : f_X6_init ((HP st0).take 60).length ((HP st0).take 60 ++ [cell6]) = some ((), HP st0) := init6
  unfold cell6 at e6
  rw [e6, Option.bind_some]
  have e7 : jloop (f_L_law_b18 g (some ([] : AH).length) (some ((HP st0).take 60).length)) jfuel 0 (HP st0) = some (.inr ((), HP s')) := h
  rw [e7, Option.bind_some]

