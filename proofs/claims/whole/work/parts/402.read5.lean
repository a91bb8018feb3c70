/-! ===== the class: the whole TEXT ===== -/
theorem PI_rdA {W : Nat → Int32} {z : Nat} (hz : z ≤ 60) : ∀ (k i : Nat) (a a' : PSt), PI a → rdA W z k i a = .inr a' → PI a'
  | 0, _, a, a', h, e => by cases e; exact h
  | k + 1, i, a, a', h, e => by
    rw [rdA] at e
    split at e
    · cases e; exact h
    · cases hr : rdI W z i a with
      | inl x => rw [hr] at e; cases e
      | inr a2 =>
        rw [hr] at e
        exact PI_rdA hz k _ a2 a' (PI_rdI hz h hr) e
def a00 : PSt := (0, 0, fun _ _ => 0, fun _ => 0)
theorem PI_0 : PI a00 := ⟨by decide, by decide, fun j hj => absurd hj (Nat.not_lt_zero j), fun _ _ => rfl⟩
theorem ri5 {s : ST} {c : Bool} {t z i : Nat} {a : PSt} (ht : t < 10) (hz : sI s (32 * lc t + 1) = nI z) (hl : z ≤ lm t) (hi : i < z) (hC : CP s c a) (hP : PI a) : ∃ s', f_X3_readItem (some 3) (some (lc t)) (nI i) (some (fA c)) (HP s) = some (rI (rdI (sV s (lc t + 1)) z i a), HP s') ∧ DrF c s s' ∧ ∀ a', rdI (sV s (lc t + 1)) z i a = .inr a' → CP s' c a' := by
  have hg := p2_get s ht hz hl hi
  unfold rdI
  by_cases c1 : sV s (lc t + 1) i = 32
  · simp only [if_pos c1]
    refine ⟨s, ?_, DrF.rf c s, fun a' h => by cases h; exact hC⟩
    simp only [f_X3_readItem, ln_q s ht, if_true, hg, Option.bind_some, if_pos c1, rI]
  · simp only [if_neg c1]
    by_cases c2 : sV s (lc t + 1) i = 111
    · simp only [if_pos c2]
      obtain ⟨s', w1, w2, w3⟩ := rdl5 ht hz hl hi hC hP
      refine ⟨s', ?_, w2, w3⟩
      simp only [f_X3_readItem, ln_q s ht, if_true, hg, Option.bind_some, if_neg c1, if_pos c2, qO_3, w1]
    · simp only [if_neg c2]
      obtain ⟨s', w1, w2, w3⟩ := rdp5 ht hz hl hi hC hP
      refine ⟨s', ?_, w2, w3⟩
      simp only [f_X3_readItem, ln_q s ht, if_true, hg, Option.bind_some, if_neg c1, if_neg c2, qO_3, w1]
theorem wd5 (w : Int32) (ah : AH) : f_X3_widthOf w ah = some (nI (wid w), ah) := by
  unfold f_X3_widthOf wid
  by_cases c1 : w = 32
  · rw [if_pos c1, if_pos c1]; rfl
  · rw [if_neg c1, if_neg c1]
    by_cases c2 : w = 111
    · rw [if_pos c2, if_pos c2]; rfl
    · rw [if_neg c2, if_neg c2]; rfl
theorem DrF.line {c : Bool} {s s' : ST} (h : DrF c s s') {t : Nat} (ht : t < 10) : sI s' (32 * lc t + 1) = sI s (32 * lc t + 1) ∧ sV s' (lc t + 1) = sV s (lc t + 1) := by
  have hf := fA_c c
  have : lc t = 28 + 2 * t := rfl
  exact ⟨h.2.2.2 _ (by omega) (by omega), h.2.2.1 _ (by omega) (by omega)⟩
theorem rdI_le {W : Nat → Int32} {z i : Nat} {a a' : PSt} (hi : i < z) (hr : rdI W z i a = .inr a') : i + wid (W i) ≤ z := by
  unfold rdI at hr
  unfold wid
  split at hr
  · rename_i c
    rw [if_pos c]; omega
  · rename_i c
    rw [if_neg c]
    split at hr
    · rename_i c2
      rw [if_pos c2]
      unfold rdL at hr
      split at hr
      · cases hr
      · split at hr
        · cases hr
        · split at hr
          · cases hr
          · rename_i q hq
            have := (fg_spec hq).1
            omega
    · rename_i c2
      rw [if_neg c2]
      unfold rdP at hr
      split at hr
      · cases hr
      · split at hr
        · cases hr
        · split at hr
          · cases hr
          · split at hr
            · cases hr
            · split at hr
              · rename_i h3
                have := h3.1
                omega
              · split at hr
                · cases hr
                · rename_i q hq
                  have := (fg_spec hq).1
                  omega
/-- the places of an item behind its first: the loop goes by -/
theorem sk5 {c : Bool} {t z i : Nat} {s : ST} (ht : t < 10) (hz : sI s (32 * lc t + 1) = nI z) (hi : i ≤ z) (hz9 : z < 100) : ∀ (n j f : Nat), j + n = i → jloop (f_X3_read_b9 (some 3) (some (lc t)) (some (fA c))) (f + n) (nI i, nI j) (HP s) = jloop (f_X3_read_b9 (some 3) (some (lc t)) (some (fA c))) f (nI i, nI i) (HP s) := by
  intro n
  induction n with
  | zero =>
    intro j f h
    have : j = i := h
    rw [this]
    rfl
  | succ n ih =>
    intro j f h
    rw [← ih (j + 1) f (by omega), show f + (n + 1) = (f + n) + 1 from rfl, jloop]
    simp only [f_X3_read_b9, ln_z s ht, Option.bind_some, hz, if_neg (nI_ge (show j < z by omega) (show z < 2 ^ 31 by omega)), if_neg (nI_ge (show j < i by omega) (show i < 2 ^ 31 by omega)), nI_1]
theorem rd5 {c : Bool} {t z : Nat} {W : Nat → Int32} (ht : t < 10) (hl : z ≤ lm t) : ∀ (k i f : Nat) (a : PSt) (s : ST), sV s (lc t + 1) = W → sI s (32 * lc t + 1) = nI z → z ≤ i + k → i ≤ z → z < i + f → CP s c a → PI a → ∃ s', jloop (f_X3_read_b9 (some 3) (some (lc t)) (some (fA c))) f (nI i, nI i) (HP s) = some (match rdA W z k i a with | .inl x => .inl (nI x, HP s') | .inr _ => .inr ((), HP s')) ∧ DrF c s s' ∧ ∀ a', rdA W z k i a = .inr a' → CP s' c a' := by
  have hlm := lm_pos t
  intro k
  induction k with
  | zero =>
    intro i f a s hW hz hk hi hf hC hP
    obtain ⟨f, rfl⟩ : ∃ f', f = f' + 1 := ⟨f - 1, by omega⟩
    refine ⟨s, ?_, DrF.rf c s, fun a' h => by cases h; exact hC⟩
    rw [jloop]
    simp only [f_X3_read_b9, ln_z s ht, Option.bind_some, hz, if_pos (nI_le (show z ≤ i by omega) (show i < 2 ^ 31 by omega)), rdA]
  | succ k ih =>
    intro i f a s hW hz hk hi hf hC hP
    obtain ⟨f, rfl⟩ : ∃ f', f = f' + 1 := ⟨f - 1, by omega⟩
    rw [rdA]
    by_cases c1 : z ≤ i
    · simp only [if_pos c1]
      refine ⟨s, ?_, DrF.rf c s, fun a' h => by cases h; exact hC⟩
      rw [jloop]
      simp only [f_X3_read_b9, ln_z s ht, Option.bind_some, hz, if_pos (nI_le c1 (show i < 2 ^ 31 by omega))]
    · simp only [if_neg c1]
      obtain ⟨s1, w1, w2, w3⟩ := ri5 ht hz hl (show i < z by omega) hC hP
      rw [hW] at w1 w3
      rw [jloop]
      cases hr : rdI W z i a with
      | inl x =>
        rw [hr] at w1
        refine ⟨s1, ?_, w2, fun a' h => by cases h⟩
        have hx : ¬ nI x = -9 := by
          have hx : x ≤ 200 := by
            unfold rdI at hr
            split at hr
            · cases hr
            · split at hr
              · unfold rdL at hr
                split at hr
                · cases hr; omega
                · split at hr
                  · cases hr; omega
                  · split at hr
                    · cases hr; omega
                    · split at hr
                      · cases hr; omega
                      · cases hr
              · unfold rdP at hr
                split at hr
                · cases hr; omega
                · split at hr
                  · cases hr; omega
                  · split at hr
                    · cases hr; omega
                    · split at hr
                      · cases hr; omega
                      · split at hr
                        · cases hr
                        · split at hr
                          · cases hr; omega
                          · cases hr
          exact nI_n9 (by omega)
        simp only [f_X3_read_b9, ln_z s ht, Option.bind_some, hz, if_neg (nI_ge (show i < z by omega) (show z < 2 ^ 31 by omega)), if_pos (Int32.le_refl (nI i)), qO_3, if_true, w1, rI, hx, if_false]
      | inr a2 =>
        rw [hr] at w1
        obtain ⟨l1, l2⟩ := w2.line ht
        have hz1 : sI s1 (32 * lc t + 1) = nI z := l1.trans hz
        have hg := p2_get s1 ht hz1 hl (show i < z by omega)
        rw [l2, hW] at hg
        have hwd := wid_pos (W i)
        have hw4 : wid (W i) ≤ 4 := by unfold wid; split <;> (try split) <;> omega
        have hle := rdI_le (show i < z by omega) hr
        obtain ⟨s2, y1, y2, y3⟩ := ih (i + wid (W i)) (f - (wid (W i) - 1)) a2 s1 (l2.trans hW) hz1 (by omega) (by omega) (by omega) (w3 a2 hr) (PI_rdI (by omega) hP hr)
        refine ⟨s2, ?_, w2.trans y2, y3⟩
        rw [← sk5 ht hz1 hle (by omega) (wid (W i) - 1) (i + 1) (f - (wid (W i) - 1)) (by omega), show f - (wid (W i) - 1) + (wid (W i) - 1) = f by omega] at y1
        simp only [f_X3_read_b9, ln_z s ht, Option.bind_some, hz, if_neg (nI_ge (show i < z by omega) (show z < 2 ^ 31 by omega)), if_pos (Int32.le_refl (nI i)), qO_3, if_true, w1, rI, ln_q s1 ht, hg, wd5, nI_add, nI_1]
        exact y1
theorem foes5 {s : ST} {c : Bool} {a : PSt} (hC : CP s c a) (hP : PI a) : ∀ (m f p tk : Nat), p + m = a.1 → m < f → tk < 64 → jloop (f_X3_faultOfFoes_b4 (some 3) (some (fA c))) f (nI tk, nI p) (HP s) = some (match foF a m p tk with | none => .inr ((), HP s) | some j => .inl (a.2.2.1 j 4, HP s)) := by
  have h6 := hP.1
  intro m
  induction m with
  | zero =>
    intro f p tk hp hf htk
    obtain ⟨f, rfl⟩ : ∃ f', f = f' + 1 := ⟨f - 1, by omega⟩
    rw [jloop]
    simp only [f_X3_faultOfFoes_b4, fk_n, Option.bind_some, hC.1, if_pos (nI_le (show a.1 ≤ p by omega) (show p < 2 ^ 31 by omega)), foF]
  | succ m ih =>
    intro f p tk hp hf htk
    obtain ⟨f, rfl⟩ : ∃ f', f = f' + 1 := ⟨f - 1, by omega⟩
    obtain ⟨-, -, -, -, g5, g6⟩ := hC.2.2 p (by omega)
    obtain ⟨-, -, -, hv, -⟩ := hP.2.2.1 p (by omega)
    have ef : f_X1_firstVictimOf (some (fA c)) (nI p) (HP s) = some (a.2.2.1 p 3, HP s) := by
      simp only [f_X1_firstVictimOf, fk_q, if_true, hasc hC.1 h6 (show p < 2 ^ 31 by omega), if_pos (show p < a.1 by omega), Option.bind_some, n10, if_false, fk_4, fk_g s c (show 1 ≤ 5 by omega) (by omega) (show p < 6 by omega), g5]
    rw [jloop, foF]
    simp only [f_X3_faultOfFoes_b4, f_X3_faultOfFoes_b4_j59, fk_n, Option.bind_some, hC.1, if_neg (nI_ge (show p < a.1 by omega) (show a.1 < 2 ^ 31 by omega)), if_neg (show ¬ (6 : Int32) ≤ nI p from nI_ge (b := 6) (by omega) (by omega)), fk_q, if_true, ef, gR_3_0, g4 _ (show p < 6 by omega), g6, nI_1]
    rcases hv with hv | ⟨v, hv, e⟩
    · simp only [hv, if_true]
      exact ih f (p + 1) tk (by omega) (by omega) htk
    · have n9 := nI_n9 (show v < 2 ^ 31 by omega)
      have evp : (nI v = nI p) = (v = p) := propext (nI_eq (by omega) (by omega))
      simp only [e, n9, if_false, nI_clamp (show v < 2 ^ 31 by omega), evp, hasc hC.1 h6 (show v < 2 ^ 31 by omega), Option.bind_some]
      by_cases c1 : v = p
      · simp only [if_pos c1, if_pos (show v = p ∨ a.1 ≤ v ∨ tk.testBit v = true from Or.inl c1)]
      · simp only [if_neg c1]
        by_cases c2 : v < a.1
        · have eb := bit_dec tk htk v (by omega)
          simp only [if_pos c2, n10, if_false, p5_isIn (show v < 6 by omega), Option.bind_some, or_dec tk htk v (by omega)]
          by_cases c3 : tk.testBit v = true
          · simp only [if_pos (eb.mpr c3), n10, if_false, if_pos (show v = p ∨ a.1 ≤ v ∨ tk.testBit v = true from Or.inr (Or.inr c3)), gR_3_0, Option.bind_some, g4 _ (show p < 6 by omega), g6]
          · simp only [if_neg (fun q => c3 (eb.mp q)), if_true, if_neg (show ¬ (v = p ∨ a.1 ≤ v ∨ tk.testBit v = true) from fun q => by rcases q with q | q | q; exact c1 q; omega; exact c3 q)]
            exact ih f (p + 1) _ (by omega) (by omega) (or_lt htk (by omega))
        · simp only [if_neg c2, if_true, if_pos (show v = p ∨ a.1 ≤ v ∨ tk.testBit v = true from Or.inr (Or.inl (by omega))), gR_3_0, Option.bind_some, g4 _ (show p < 6 by omega), g6]
theorem flt_ok {a : PSt} {W : Nat → Int32} {z : Nat} (h : RA W z 0 a00 = .inr a) : flt W z = if a.1 < 2 then nI z else match foF a a.1 0 0 with | none => -9 | some p => a.2.2.1 p 4 := by
  unfold flt
  rw [show ((0, 0, fun _ _ => 0, fun _ => 0) : PSt) = a00 from rfl, h]
  rfl
theorem flt_bad {x : Nat} {W : Nat → Int32} {z : Nat} (h : RA W z 0 a00 = .inl x) : flt W z = nI x := by
  unfold flt
  rw [show ((0, 0, fun _ _ => 0, fun _ => 0) : PSt) = a00 from rfl, h]
theorem read5 {s : ST} {c : Bool} {t z : Nat} (ht : t < 10) (hz : sI s (32 * lc t + 1) = nI z) (hl : z ≤ lm t) : ∃ s', f_X3_read (some 3) (some (lc t)) (some (fA c)) (HP s) = some (flt (sV s (lc t + 1)) z, HP s') ∧ DrF c s s' ∧ ∀ a, RA (sV s (lc t + 1)) z 0 a00 = .inr a → CP s' c a ∧ PI a := by
  have hlm := lm_pos t
  have hf := fA_c c
  have hD0 : DrF c s (uI (uI s (32 * fA c + 5) 0) (32 * fA c + 6) 0) := (DrF.uI (by omega)).trans (DrF.uI (by omega))
  have hC0 : CP (uI (uI s (32 * fA c + 5) 0) (32 * fA c + 6) 0) c a00 := ⟨by rw [sI_uI, if_neg (by omega), sI_uI, if_pos rfl]; rfl, by rw [sI_uI, if_pos rfl]; rfl, fun j hj => absurd hj (Nat.not_lt_zero j)⟩
  obtain ⟨l1, l2⟩ := hD0.line ht
  obtain ⟨s1, w1, w2, w3⟩ := rd5 (W := sV s (lc t + 1)) ht hl z 0 jfuel a00 _ l2 (l1.trans hz) (by omega) (by omega) (by unfold jfuel; omega) hC0 PI_0
  have w1 : jloop (f_X3_read_b9 (some 3) (some (lc t)) (some (fA c))) jfuel (0, 0) (HP (uI (uI s (32 * fA c + 5) 0) (32 * fA c + 6) 0)) = _ := w1
  have hcl : f_X1_clear (some (fA c)) (HP s) = some ((), HP (uI (uI s (32 * fA c + 5) 0) (32 * fA c + 6) 0)) := by
    simp only [f_X1_clear, fk_sn, fk_sl, Option.bind_some]
  have eR : rdA (sV s (lc t + 1)) z z 0 a00 = RA (sV s (lc t + 1)) z 0 a00 := by unfold RA; rfl
  rw [eR] at w1 w3
  refine ⟨s1, ?_, hD0.trans w2, fun a h => ⟨w3 a h, PI_rdA (by omega) _ _ _ _ PI_0 h⟩⟩
  cases hr : RA (sV s (lc t + 1)) z 0 a00 with
  | inl x =>
    rw [hr] at w1
    rw [flt_bad hr]
    simp -implicitDefEqProofs only [f_X3_read, fk_q, if_true, hcl, Option.bind_some, w1]
  | inr a =>
    rw [hr] at w1
    rw [flt_ok hr]
    have hC := w3 a hr
    have hP : PI a := PI_rdA (by omega) _ _ _ _ PI_0 hr
    have h6 := hP.1
    have e2 : ((2 : Int32) ≤ nI a.1) = (2 ≤ a.1) := propext (nI_leI (a := 2) (b := a.1) (by omega) (by omega))
    have z1 := ((hD0.trans w2).line ht).1.trans hz
    by_cases c2 : 2 ≤ a.1
    · have lf : jloop (f_X3_faultOfFoes_b4 (some 3) (some (fA c))) jfuel (0, 0) (HP s1) = _ := foes5 hC hP a.1 jfuel 0 0 (by omega) (by unfold jfuel; omega) (by omega)
      rw [if_neg (by omega)]
      cases hfo : foF a a.1 0 0 with
      | none =>
        rw [hfo] at lf
        simp -implicitDefEqProofs only [f_X3_read, f_X3_faultOfFoes, fk_q, if_true, hcl, Option.bind_some, w1, fk_n, hC.1, e2, c2, qO_3, lf]
      | some p =>
        rw [hfo] at lf
        simp -implicitDefEqProofs only [f_X3_read, f_X3_faultOfFoes, fk_q, if_true, hcl, Option.bind_some, w1, fk_n, hC.1, e2, c2, qO_3, lf]
    · rw [if_pos (by omega)]
      simp -implicitDefEqProofs only [f_X3_read, fk_q, if_true, hcl, Option.bind_some, w1, fk_n, hC.1, e2, c2, if_false, ln_z s1 ht, z1]
