/-! ===== town ===== -/
theorem rdI_x {W : Nat → Int32} {z i x : Nat} {a : PSt} (hr : rdI W z i a = .inl x) : x ≤ i + 3 := by
  unfold rdI at hr
  split at hr
  · cases hr
  · split at hr
    · unfold rdL at hr
      split at hr
      · cases hr; omega
      · split at hr
        · cases hr; omega
        · split at hr
          · cases hr; omega
          · split at hr
            · cases hr; omega
            · cases hr
    · unfold rdP at hr
      split at hr
      · cases hr; omega
      · split at hr
        · cases hr; omega
        · split at hr
          · cases hr; omega
          · split at hr
            · cases hr; omega
            · split at hr
              · cases hr
              · split at hr
                · cases hr; omega
                · cases hr
theorem rdA_x {W : Nat → Int32} {z x : Nat} : ∀ (k i : Nat) (a : PSt), rdA W z k i a = .inl x → x ≤ z + 3
  | 0, _, _, h => by cases h
  | k + 1, i, a, h => by
    rw [rdA] at h
    by_cases c : z ≤ i
    · rw [if_pos c] at h; cases h
    · rw [if_neg c] at h
      cases hr : rdI W z i a with
      | inl y =>
        rw [hr] at h
        cases h
        have := rdI_x hr
        omega
      | inr a' =>
        rw [hr] at h
        exact rdA_x k _ a' h
theorem foF_lt {a : PSt} : ∀ (m p tk j : Nat), foF a m p tk = some j → j < p + m
  | 0, _, _, _, h => by cases h
  | m + 1, p, tk, j, h => by
    rw [foF] at h
    split at h
    · have := foF_lt m (p + 1) tk j h; omega
    · split at h
      · cases h; omega
      · have := foF_lt m (p + 1) _ j h; omega
theorem foF_none {a : PSt} : ∀ (m p tk : Nat), foF a m p tk = none → ∀ q, p ≤ q → q < p + m → a.2.2.1 q 3 ≠ -9 → (a.2.2.1 q 3).toNatClampNeg ≠ q ∧ (a.2.2.1 q 3).toNatClampNeg < a.1 ∧ tk.testBit (a.2.2.1 q 3).toNatClampNeg = false ∧ ∀ q', q < q' → q' < p + m → a.2.2.1 q' 3 ≠ -9 → (a.2.2.1 q' 3).toNatClampNeg ≠ (a.2.2.1 q 3).toNatClampNeg
  | 0, p, tk, _, q, h1, h2, _ => by omega
  | m + 1, p, tk, h, q, h1, h2, h3 => by
    rw [foF] at h
    by_cases c1 : a.2.2.1 p 3 = -9
    · rw [if_pos c1] at h
      have hq : q ≠ p := fun e => h3 (by rw [e]; exact c1)
      obtain ⟨g1, g2, g3, g4⟩ := foF_none m (p + 1) tk h q (by omega) (by omega) h3
      exact ⟨g1, g2, g3, fun q' a1 a2 a3 => g4 q' a1 (by omega) a3⟩
    · rw [if_neg c1] at h
      by_cases c2 : (a.2.2.1 p 3).toNatClampNeg = p ∨ a.1 ≤ (a.2.2.1 p 3).toNatClampNeg ∨ tk.testBit (a.2.2.1 p 3).toNatClampNeg = true
      · rw [if_pos c2] at h; cases h
      · rw [if_neg c2] at h
        have ih := foF_none m (p + 1) _ h
        by_cases e : q = p
        · subst e
          refine ⟨fun z => c2 (Or.inl z), by
            have : ¬ a.1 ≤ (a.2.2.1 q 3).toNatClampNeg := fun z => c2 (Or.inr (Or.inl z))
            omega, ?_, fun q' a1 a2 a3 z => ?_⟩
          · cases hb : tk.testBit (a.2.2.1 q 3).toNatClampNeg with
            | false => rfl
            | true => exact absurd (Or.inr (Or.inr hb)) c2
          · have := (ih q' (by omega) (by omega) a3).2.2.1
            rw [z, tb_or] at this
            simp at this
        · obtain ⟨g1, g2, g3, g4⟩ := ih q (by omega) (by omega) h3
          refine ⟨g1, g2, ?_, fun q' a1 a2 a3 => g4 q' a1 (by omega) a3⟩
          rw [tb_or] at g3
          cases hb : tk.testBit (a.2.2.1 q 3).toNatClampNeg with
          | false => rfl
          | true => rw [hb] at g3; simp at g3
/-- VICTIMS at first -/
def vF (a : PSt) (p : Nat) : Int32 := if p < a.1 then a.2.2.1 p 3 else -9
def FrB (s s' : ST) : Prop := sW s' = sW s ∧ sL s' = sL s ∧ (∀ k, k < 6 ∨ 8 < k → sV s' k = sV s k) ∧ sI s' = sI s
theorem fv5 {s : ST} {c : Bool} {a : PSt} (hm : sI s (32 * fA c + 5) = nI a.1) (h5 : ∀ j, j < a.1 → sV s (fA c + 5) j = a.2.2.1 j 3) (h6 : a.1 ≤ 6) {p : Nat} (hp : p < 6) : f_X1_firstVictimOf (some (fA c)) (nI p) (HP s) = some (vF a p, HP s) := by
  unfold vF
  by_cases h : p < a.1
  · simp only [f_X1_firstVictimOf, fk_q, if_true, hasc hm h6 (show p < 2 ^ 31 by omega), if_pos h, Option.bind_some, n10, if_false, fk_4, fk_g s c (show 1 ≤ 5 by omega) (by omega) hp, h5 p h]
  · simp only [f_X1_firstVictimOf, fk_q, if_true, hasc hm h6 (show p < 2 ^ 31 by omega), if_neg h, Option.bind_some]
theorem begin5 {s : ST} {c : Bool} {a : PSt} (hm : sI s (32 * fA c + 5) = nI a.1) (h5 : ∀ j, j < a.1 → sV s (fA c + 5) j = a.2.2.1 j 3) (h6 : a.1 ≤ 6) : ∃ s', f_X4_begin (some 5) (some (fA c)) (HP s) = some ((), HP s') ∧ FrB (uI s 163 0) s' ∧ ∀ p, p < 6 → sV s' 6 p = vF a p ∧ sV s' 7 p = 0 ∧ sV s' 8 p = 0 := by
  have hf := fA_c c
  have loop : ∀ (m f j : Nat) (s' : ST), j + m = 6 → m < f → FrB (uI s 163 0) s' → (∀ p, p < j → sV s' 6 p = vF a p ∧ sV s' 7 p = 0 ∧ sV s' 8 p = 0) → ∃ s'', jloop (f_X4_begin_b7 (some 5) (some (fA c))) f (nI j) (HP s') = some (.inr ((), HP s'')) ∧ FrB (uI s 163 0) s'' ∧ ∀ p, p < 6 → sV s'' 6 p = vF a p ∧ sV s'' 7 p = 0 ∧ sV s'' 8 p = 0 := by
    intro m
    induction m with
    | zero =>
      intro f j s' hj hf' hB h
      obtain ⟨f, rfl⟩ : ∃ f', f = f' + 1 := ⟨f - 1, by omega⟩
      refine ⟨s', ?_, hB, fun p hp => h p (by omega)⟩
      rw [jloop]
      simp only [f_X4_begin_b7, if_pos (show (6 : Int32) ≤ nI j from nI_le (a := 6) (by omega) (by omega))]
    | succ m ih =>
      intro f j s' hj hf' hB h
      obtain ⟨f, rfl⟩ : ∃ f', f = f' + 1 := ⟨f - 1, by omega⟩
      have t0 : ∀ s2 : ST, sI s2 = sI (uI s 163 0) → sI s2 163 = nI 0 := fun s2 e => by rw [e, sI_uI, if_pos rfl]; rfl
      have hm' : sI s' (32 * fA c + 5) = nI a.1 := by rw [hB.2.2.2, sI_uI, if_neg (by omega)]; exact hm
      have h5' : ∀ i, i < a.1 → sV s' (fA c + 5) i = a.2.2.1 i 3 := fun i hi => by rw [hB.2.2.1 _ (by omega)]; exact h5 i hi
      have e1 : sI (uV s' 6 (6 * 0 + j) (vF a j)) 163 = nI 0 := t0 _ hB.2.2.2
      have g8 : ∀ s2 : ST, sA (HP s2) (some 8) (nI j) 0 = some (HP (uV s2 8 j 0)) := fun s2 => HP_sAn s2 0 (show j < hLen 8 by show j < 246; omega) (by omega)
      obtain ⟨s'', w1, w2, w3⟩ := ih f (j + 1) (uV (uV (uV s' 6 (6 * 0 + j) (vF a j)) 7 (6 * 0 + j) 0) 8 j 0) (by omega) (by omega) ⟨hB.1, hB.2.1, fun k hk => by rw [sV_uVne (by omega), sV_uVne (by omega), sV_uVne (by omega)]; exact hB.2.2.1 k hk, hB.2.2.2⟩ (fun p hp => by
        rw [show 6 * 0 + j = j by omega]
        simp only [sV_uV]
        by_cases e : p = j
        · subst e
          simp
        · obtain ⟨q1, q2, q3⟩ := h p (by omega)
          simp [e, q1, q2, q3])
      refine ⟨s'', ?_, w2, w3⟩
      rw [jloop]
      simp only [f_X4_begin_b7, if_neg (show ¬ (6 : Int32) ≤ nI j from nI_ge (b := 6) (by omega) (by omega)), fk_q, if_true, fv5 hm' h5' h6 (show j < 6 by omega), Option.bind_some, qO_5, p4_setVictim (show 0 ≤ 40 by omega) (t0 s' hB.2.2.2) (show j < 6 by omega), p4_setDeeds (show 0 ≤ 40 by omega) e1 (show j < 6 by omega), gR_5_2, g8, nI_1]
      exact w1
  obtain ⟨s', w1, w2, w3⟩ := loop 6 jfuel 0 (uI s 163 0) (by omega) (by unfold jfuel; omega) ⟨rfl, rfl, fun _ _ => rfl, rfl⟩ (fun p hp => absurd hp (Nat.not_lt_zero p))
  have w1 : jloop (f_X4_begin_b7 (some 5) (some (fA c))) jfuel 0 (HP (uI s 163 0)) = _ := w1
  refine ⟨s', ?_, w2, w3⟩
  simp -implicitDefEqProofs only [f_X4_begin, sF_5_3, Option.bind_some, w1]
theorem swap5 {s : ST} {A : Type} (K : AH → Option A) : ((sF (HP s) (some 0) 5 8 (.inr (.inr (.inl (some (dA (sW s))))))).bind fun a19 => (sF a19 (some 0) 5 9 (.inr (.inr (.inl (some (fA (sW s))))))).bind fun a21 => K a21) = K (HP (uS s (!sW s))) := by
  obtain ⟨i, l, v, w⟩ := s
  cases w <;> rfl
theorem sh_s4 (s : ST) {i : Nat} (h : i < 3) (v : Int32) : sF (HP s) (some (48 + 4 * i)) 4 4 (.inl v) = some (HP (uI s (32 * (48 + 4 * i) + 4) v)) := by
  match i, h with
  | 0, _ | 1, _ | 2, _ => rfl
  | i + 3, h => exact absurd h (by omega)
theorem shelves5 {s : ST} : ∃ s', jloop (f_X5_town_b91 (some 0) (some 9) (nI 3)) jfuel 0 (HP s) = some (.inr ((), HP s')) ∧ sW s' = sW s ∧ sL s' = sL s ∧ sV s' = sV s ∧ (∀ k, ¬ (1536 ≤ k ∧ k < 1920) → sI s' k = sI s k) ∧ ∀ i, i < 3 → sI s' (32 * (48 + 4 * i) + 4) = 0 := by
  have loop : ∀ (m f j : Nat) (s' : ST), j + m = 3 → m < f → sW s' = sW s → sL s' = sL s → sV s' = sV s → (∀ k, ¬ (1536 ≤ k ∧ k < 1920) → sI s' k = sI s k) → (∀ i, i < j → sI s' (32 * (48 + 4 * i) + 4) = 0) → ∃ s'', jloop (f_X5_town_b91 (some 0) (some 9) (nI 3)) f (nI j) (HP s') = some (.inr ((), HP s'')) ∧ sW s'' = sW s ∧ sL s'' = sL s ∧ sV s'' = sV s ∧ (∀ k, ¬ (1536 ≤ k ∧ k < 1920) → sI s'' k = sI s k) ∧ ∀ i, i < 3 → sI s'' (32 * (48 + 4 * i) + 4) = 0 := by
    intro m
    induction m with
    | zero =>
      intro f j s' hj hf h1 h2 h3 h4 h5
      obtain ⟨f, rfl⟩ : ∃ f', f = f' + 1 := ⟨f - 1, by omega⟩
      refine ⟨s', ?_, h1, h2, h3, h4, fun i hi => h5 i (by omega)⟩
      rw [jloop]
      simp only [f_X5_town_b91, if_pos (nI_le (show 3 ≤ j by omega) (show j < 2 ^ 31 by omega))]
    | succ m ih =>
      intro f j s' hj hf h1 h2 h3 h4 h5
      obtain ⟨f, rfl⟩ : ∃ f', f = f' + 1 := ⟨f - 1, by omega⟩
      obtain ⟨s'', w⟩ := ih f (j + 1) (uI s' (32 * (48 + 4 * j) + 4) 0) (by omega) (by omega) h1 h2 h3 (fun k hk => by rw [sI_uI, if_neg (by omega)]; exact h4 k hk) (fun i hi => by
        rw [sI_uI]
        by_cases e : i = j
        · rw [if_pos (by omega)]
        · rw [if_neg (by omega)]; exact h5 i (by omega))
      refine ⟨s'', ?_, w.2⟩
      rw [jloop]
      simp only [f_X5_town_b91, if_neg (nI_ge (show j < 3 by omega) (show 3 < 2 ^ 31 by omega)), gE_9 _ (show j < 3 by omega), Option.bind_some, sh_s4 _ (show j < 3 by omega), nI_1]
      exact w.1
  exact loop 3 jfuel 0 s (by omega) (by unfold jfuel; omega) rfl rfl rfl (fun _ _ => rfl) (fun i hi => absurd hi (Nat.not_lt_zero i))
/-! the reference's TOWN -/
theorem zero61 (s : ST) : jloop (f_X6_town_b55 (some 60)) jfuel 0 (HP s) = some (.inr ((), HP (setR s 61 0 (fun _ => 0) 780))) := by
  have l : jloop (f_X6_town_b55 (some 60)) jfuel (nI 0) (HP (setR s 61 0 (fun _ => 0) 0)) = some (.inr ((), HP (setR s 61 0 (fun _ => 0) 780))) := by
    refine jseq (n := 780) (fun j => nI j) (fun j => HP (setR s 61 0 (fun _ => 0) j)) ?_ (fun j hj => ?_) 780 jfuel 0 (by omega) (by unfold jfuel; omega)
    · simp only [f_X6_town_b55, if_pos (show (780 : Int32) ≤ nI 780 by decide)]
    · have e1 : uV (setR s 61 0 (fun _ => 0) j) 61 j 0 = setR s 61 0 (fun _ => 0) (j + 1) := setR_1z s 61 (fun _ => 0) j
      simp only [f_X6_town_b55, if_neg (show ¬ (780 : Int32) ≤ nI j from nI_ge (b := 780) hj (by omega)), gR_60_0, s61 _ (show j < 3120 by omega), Option.bind_some, nI_1, e1]
  rw [setR_0] at l
  exact l
theorem s62 (s : ST) {p : Nat} (hp : p < 6) (v : Int32) : sA (HP s) (some 62) (nI p) v = some (HP (uV s 62 p v)) := HP_sAn s v (show p < hLen 62 from hp) (by omega)
theorem s63' (s : ST) {p : Nat} (hp : p < 6) (v : Int32) : sA (HP s) (some 63) (nI p) v = some (HP (uV s 63 p v)) := HP_sAn s v (show p < hLen 63 from hp) (by omega)
theorem s64 (s : ST) {p : Nat} (hp : p < 6) (v : Int32) : sA (HP s) (some 64) (nI p) v = some (HP (uV s 64 p v)) := HP_sAn s v (show p < hLen 64 from hp) (by omega)
theorem s65 (s : ST) {p : Nat} (hp : p < 6) (v : Int32) : sA (HP s) (some 65) (nI p) v = some (HP (uV s 65 p v)) := HP_sAn s v (show p < hLen 65 from hp) (by omega)
def FrT (s s' : ST) : Prop := sW s' = sW s ∧ sL s' = sL s ∧ (∀ k, k < 61 ∨ 65 < k → sV s' k = sV s k) ∧ (∀ i, i < 1 ∨ 6 < i → sV s' 61 i = sV s 61 i) ∧ sI s' = sI s
def tvF (a : PSt) (c p : Nat) : Int32 := if p < a.1 then a.2.2.1 p c else 0
theorem folk6 {s : ST} {a : PSt} (h6 : a.1 ≤ 6) (hn : sI s 1921 = nI a.1) (h71 : ∀ j, j < a.1 → ∀ c, c < 5 → sV s 71 (5 * j + c) = a.2.2.1 j c) (h72 : ∀ j, j < 6 → sV s 72 j = nI (a.2.2.2 j)) : ∃ s', jloop (f_X6_town_b77 (some 60)) jfuel 0 (HP s) = some (.inr ((), HP s')) ∧ FrT s s' ∧ ∀ p, p < 6 → sV s' 65 p = nI (a.2.2.2 p) ∧ sV s' 62 p = tvF a 0 p ∧ sV s' 63 p = tvF a 1 p ∧ sV s' 64 p = tvF a 2 p ∧ sV s' 61 (1 + p) = vF a p := by
  have loop : ∀ (m f j : Nat) (s' : ST), j + m = 6 → m < f → FrT s s' → (∀ p, p < j → sV s' 65 p = nI (a.2.2.2 p) ∧ sV s' 62 p = tvF a 0 p ∧ sV s' 63 p = tvF a 1 p ∧ sV s' 64 p = tvF a 2 p ∧ sV s' 61 (1 + p) = vF a p) → ∃ s'', jloop (f_X6_town_b77 (some 60)) f (nI j) (HP s') = some (.inr ((), HP s'')) ∧ FrT s s'' ∧ ∀ p, p < 6 → sV s'' 65 p = nI (a.2.2.2 p) ∧ sV s'' 62 p = tvF a 0 p ∧ sV s'' 63 p = tvF a 1 p ∧ sV s'' 64 p = tvF a 2 p ∧ sV s'' 61 (1 + p) = vF a p := by
    intro m
    induction m with
    | zero =>
      intro f j s' hj hf hT h
      obtain ⟨f, rfl⟩ : ∃ f', f = f' + 1 := ⟨f - 1, by omega⟩
      refine ⟨s', ?_, hT, fun p hp => h p (by omega)⟩
      rw [jloop]
      simp only [f_X6_town_b77, if_pos (show (6 : Int32) ≤ nI j from nI_le (a := 6) (by omega) (by omega))]
    | succ m ih =>
      intro f j s' hj hf hT h
      obtain ⟨f, rfl⟩ : ∃ f', f = f' + 1 := ⟨f - 1, by omega⟩
      obtain ⟨s'', w1, w2, w3⟩ := ih f (j + 1) (uV (uV (uV (uV (uV s' 65 j (nI (a.2.2.2 j))) 62 j (tvF a 0 j)) 63 j (tvF a 1 j)) 64 j (tvF a 2 j)) 61 (1 + j) (vF a j)) (by omega) (by omega) ⟨hT.1, hT.2.1, fun k hk => by rw [sV_uVne (by omega), sV_uVne (by omega), sV_uVne (by omega), sV_uVne (by omega), sV_uVne (by omega)]; exact hT.2.2.1 k hk, fun i hi => by rw [sV_uVp (by omega), sV_uVne (by omega), sV_uVne (by omega), sV_uVne (by omega), sV_uVne (by omega)]; exact hT.2.2.2.1 i hi, hT.2.2.2.2⟩ (fun p hp => by
        simp only [sV_uV]
        by_cases e : p = j
        · subst e
          simp
        · obtain ⟨q1, q2, q3, q4, q5⟩ := h p (by omega)
          have e' : ¬ 1 + p = 1 + j := by omega
          simp [e, q1, q2, q3, q4, q5])
      refine ⟨s'', ?_, w2, w3⟩
      have hn' : sI s' 1921 = nI a.1 := by rw [hT.2.2.2.2]; exact hn
      have e72 : sV s' 72 j = nI (a.2.2.2 j) := by rw [hT.2.2.1 72 (by omega)]; exact h72 j (by omega)
      rw [jloop]
      by_cases c : j < a.1
      · have e71 : ∀ q, q < 5 → sV s' 71 (5 * j + q) = a.2.2.1 j q := fun q hq => by rw [hT.2.2.1 71 (by omega)]; exact h71 j c q hq
        have e710 := e71 0 (by omega)
        rw [Nat.add_zero] at e710
        have t0 : tvF a 0 j = a.2.2.1 j 0 := if_pos c
        have t1 : tvF a 1 j = a.2.2.1 j 1 := if_pos c
        have t2 : tvF a 2 j = a.2.2.1 j 2 := if_pos c
        have t3 : vF a j = a.2.2.1 j 3 := if_pos c
        rw [t0, t1, t2, t3] at w1
        simp -implicitDefEqProofs only [f_X6_town_b77, f_X6_town_b77_j96, f_X6_town_b77_j130, f_X6_town_b77_j154, f_X6_town_b77_j178, f_X6_town_b77_j205, if_neg (show ¬ (6 : Int32) ≤ nI j from nI_ge (b := 6) (by omega) (by omega)), gI_60_1, Option.bind_some, hn', if_neg (nI_ge c (show a.1 < 2 ^ 31 by omega)), gR_60_5, gR_60_21, g72 _ (show j < 6 by omega), e72, s65 _ (show j < 6 by omega), gR_60_2, n10, if_false, gR_60_19, e5n, nI_1, nI_2, nI_3, g71 _ (show 5 * j < 30 by omega), g71 _ (show 5 * j + 1 < 30 by omega), g71 _ (show 5 * j + 2 < 30 by omega), g71 _ (show 5 * j + 3 < 30 by omega), sV_uVne (show 71 ≠ 65 by omega), sV_uVne (show 71 ≠ 62 by omega), sV_uVne (show 71 ≠ 63 by omega), sV_uVne (show 71 ≠ 64 by omega), e710, e71 1 (by omega), e71 2 (by omega), e71 3 (by omega), s62 _ (show j < 6 by omega), gR_60_3, s63' _ (show j < 6 by omega), gR_60_4, s64 _ (show j < 6 by omega), gR_60_0, e1p, s61 _ (show 1 + j < 3120 by omega)]
        exact w1
      · have t0 : tvF a 0 j = 0 := if_neg c
        have t1 : tvF a 1 j = 0 := if_neg c
        have t2 : tvF a 2 j = 0 := if_neg c
        have t3 : vF a j = -9 := if_neg c
        rw [t0, t1, t2, t3] at w1
        simp -implicitDefEqProofs only [f_X6_town_b77, f_X6_town_b77_j96, f_X6_town_b77_j130, f_X6_town_b77_j154, f_X6_town_b77_j178, f_X6_town_b77_j205, if_neg (show ¬ (6 : Int32) ≤ nI j from nI_ge (b := 6) (by omega) (by omega)), gI_60_1, Option.bind_some, hn', if_pos (nI_le (show a.1 ≤ j by omega) (show j < 2 ^ 31 by omega)), gR_60_5, gR_60_21, g72 _ (show j < 6 by omega), e72, s65 _ (show j < 6 by omega), gR_60_2, if_true, nI_1, s62 _ (show j < 6 by omega), gR_60_3, s63' _ (show j < 6 by omega), gR_60_4, s64 _ (show j < 6 by omega), gR_60_0, e1p, s61 _ (show 1 + j < 3120 by omega)]
        exact w1
  have := loop 6 jfuel 0 s (by omega) (by unfold jfuel; omega) ⟨rfl, rfl, fun _ _ => rfl, fun _ _ => rfl, rfl⟩ (fun p hp => absurd hp (Nat.not_lt_zero p))
  exact this
theorem kept6 (s : ST) : jloop (f_X6_town_b214 (some 60)) jfuel 1 (HP s) = some (.inr ((), HP (uV (uV (uV s 61 780 (-1)) 61 1560 (-1)) 61 2340 (-1)))) := by
  have step : ∀ (f j : Nat) (s' : ST), 1 ≤ j → j < 4 → jloop (f_X6_town_b214 (some 60)) (f + 1) (nI j) (HP s') = jloop (f_X6_town_b214 (some 60)) f (nI (j + 1)) (HP (uV s' 61 (780 * j) (-1))) := fun f j s' h1 h2 => by
    have e : 780 * nI j + 0 = nI (780 * j) := by rw [Int32.add_zero]; exact pk_mul 780 j
    rw [jloop]
    simp only [f_X6_town_b214, if_neg (show ¬ (4 : Int32) ≤ nI j from nI_ge (b := 4) h2 (by omega)), gR_60_0, Option.bind_some, e, s61 _ (show 780 * j < 3120 by omega), nI_1]
  have e : jfuel = 999996 + 1 + 1 + 1 + 1 := rfl
  show jloop (f_X6_town_b214 (some 60)) jfuel (nI 1) (HP s) = _
  rw [e, step _ 1 s (by omega) (by omega), step _ 2 _ (by omega) (by omega), step _ 3 _ (by omega) (by omega), jloop]
  simp only [f_X6_town_b214, if_pos (show (4 : Int32) ≤ nI (3 + 1) by decide)]
theorem ag_town {s : ST} (hI : Inv s) (a0 : Int32) : ∃ (v : Int32) (s1 s2 : ST), f_X5_town (some 0) a0 (HP s) = some (v, HP s1) ∧ f_X6_town (some 60) a0 (HP s1) = some (v, HP s2) ∧ Inv s2 := by
  rcases ix4 a0 with h0 | ⟨i, hi, rfl⟩
  · refine ⟨-1, s, s, ?_, ?_, hI⟩
    · simp only [f_X5_town, gR_0_1, Option.bind_some, p5_textNo s h0, if_true]
    · simp only [f_X6_town, isText_no h0, Option.bind_some, if_true]
  have hi10 : 6 + i < 10 := by omega
  rcases hI.2.1.2 i hi with ⟨z1, z2⟩ | ⟨z, hz, z1, z2, z3⟩
  · rw [← lc_t i] at z1
    refine ⟨-3, fnd5 s 1, fnd6 (fnd5 s 1) 1, ?_, ?_, inv_find hI 1⟩
    · simp -implicitDefEqProofs only [f_X5_town, gR_0_1, Option.bind_some, p5_textAt s hi rfl, reduceCtorEq, if_false, ln_q s hi10, if_true, p2_missT s hi10 z1, n10, qO_0, p5_find (x := 1) s 1 rfl (by omega) (by omega)]
    · simp -implicitDefEqProofs only [f_X6_town, isText_yes hi, Option.bind_some, n10, if_false, gR_60_9, gA68 _ hi, sV5 s 1 (show 68 ≠ 15 by omega), z2, if_neg (show ¬ (0 : Int32) ≤ -1 by decide), qO_60, if_true, p6_find (x := 1) _ 1 rfl (by omega)]
  rw [← lc_t i] at z1 z3
  obtain ⟨s1, w1, w2, w3⟩ := read5 (c := !sW s) hi10 z1 (by rw [lm_t]; exact hz)
  have hG : fA (!sW s) = 22 ∨ fA (!sW s) = 16 := by cases sW s <;> decide
  have e68 : sV s1 68 = sV s 68 := w2.2.2.1 68 (by omega) (by omega)
  have e69 : sV s1 69 = sV s 69 := w2.2.2.1 69 (by omega) (by omega)
  obtain ⟨fc1, fc2⟩ := flt_congr (W := sV s (lc (6 + i) + 1)) z3
  -- a FAULT
  have bad : flt (sV s (lc (6 + i) + 1)) z ≠ -9 → ∃ (v : Int32) (s1 s2 : ST), f_X5_town (some 0) (nI i) (HP s) = some (v, HP s1) ∧ f_X6_town (some 60) (nI i) (HP s1) = some (v, HP s2) ∧ Inv s2 := fun hb => by
    obtain ⟨s2, y1, y2, -⟩ := fault6 (s := s1) hi (by rw [e68]; exact z2) hz
    rw [e69, ← fc1] at y1
    refine ⟨-4, s1, s2, ?_, ?_, Inv_S y2 (Inv_D w2 hI)⟩
    · simp -implicitDefEqProofs only [f_X5_town, gR_0_1, Option.bind_some, p5_textAt s hi rfl, reduceCtorEq, if_false, ln_q s hi10, if_true, p2_missF s hi10 z1 (show z < 2 ^ 31 by omega), gR_0_2, gR_0_9, dA_f, qO_3, w1, hb]
    · simp -implicitDefEqProofs only [f_X6_town, isText_yes hi, Option.bind_some, n10, if_false, gR_60_9, gA68 _ hi, e68, z2, if_pos (nI_pos' (show z < 2 ^ 31 by omega)), qO_60, if_true, y1, hb]
  cases hr : RA (sV s (lc (6 + i) + 1)) z 0 a00 with
  | inl x =>
    refine bad ?_
    rw [flt_bad hr]
    have : x ≤ z + 3 := rdA_x _ _ _ hr
    exact nI_n9 (by omega)
  | inr a =>
    obtain ⟨hC, hP⟩ := w3 a hr
    have h6 := hP.1
    have hfl := flt_ok hr
    by_cases c2 : a.1 < 2
    · refine bad ?_
      rw [hfl, if_pos c2]
      exact nI_n9 (by omega)
    rw [if_neg c2] at hfl
    cases hfo : foF a a.1 0 0 with
    | some p =>
      refine bad ?_
      rw [hfl, hfo]
      have hp := foF_lt _ _ _ _ hfo
      obtain ⟨-, -, -, -, ⟨x, hx, e⟩, -⟩ := hP.2.2.1 p (by omega)
      show a.2.2.1 p 4 ≠ -9
      rw [e]
      exact nI_n9 (by omega)
    | none =>
      rw [hfo] at hfl
      have hfl : flt (sV s (lc (6 + i) + 1)) z = -9 := hfl
      have fn := foF_none a.1 0 0 hfo
      -- the class
      have eW1 : sW s1 = sW s := w2.1
      have hCs : CP (uS s1 (!sW s1)) (!sW s) a := hC
      obtain ⟨s3, b1, b2, b3⟩ := begin5 (s := uS s1 (!sW s1)) (c := !sW s) (a := a) hC.1 (fun j hj => (hC.2.2 j hj).2.2.2.2.1) h6
      obtain ⟨s4, d1, d2, d3, d4, d5, d6⟩ := shelves5 (s := s3)
      have W4 : sW s4 = !sW s := by rw [d2, b2.1]; show (!sW s1) = !sW s; rw [eW1]
      have V4 : ∀ k, k < 6 ∨ 8 < k → sV s4 k = sV s1 k := fun k hk => by rw [d4, b2.2.2.1 k hk]; rfl
      have I4 : ∀ k, k ≠ 163 → ¬ (1536 ≤ k ∧ k < 1920) → sI s4 k = sI s1 k := fun k h1 h2 => by rw [d5 k h2, b2.2.2.2, sI_uI, if_neg h1]; rfl
      have n4 : sI s4 (32 * fA (!sW s) + 5) = nI a.1 := by rw [I4 _ (by omega) (by omega)]; exact hC.1
      have cls : f_X5_town (some 0) (nI i) (HP s) = some (nI a.1, HP s4) := by
        have e9 : lA (HP s3) (some 9) = some (nI 3) := lA_9 s3
        have eg8 : gR (HP s1) (some 0) 5 8 = some (some (fA (sW s1))) := gR_0_8 s1
        have eg9 : gR (HP s1) (some 0) 5 9 = some (some (dA (sW s1))) := gR_0_9 s1
        have eu8 : gR (HP (uS s1 (!sW s1))) (some 0) 5 8 = some (some (fA (!sW s1))) := gR_0_8 (uS s1 (!sW s1))
        have e48 : gR (HP s4) (some 0) 5 8 = some (some (fA (!sW s))) := by rw [gR_0_8, W4]
        rw [← eW1] at b1 e48 n4
        unfold f_X5_town
        rw [gR_0_1, Option.bind_some, p5_textAt s hi rfl, Option.bind_some, if_neg (by simp), if_pos (ln_q s hi10), p2_missF s hi10 z1 (show z < 2 ^ 31 by omega), Option.bind_some, if_pos rfl, gR_0_2, Option.bind_some, gR_0_9, Option.bind_some, if_pos (qO_3 s), dA_f, w1, Option.bind_some, if_pos hfl]
        show ((gR (HP s1) (some 0) 5 8).bind fun v15 => (gR (HP s1) (some 0) 5 9).bind fun v17 => (sF (HP s1) (some 0) 5 8 (.inr (.inr (.inl v17)))).bind fun a19 => (sF a19 (some 0) 5 9 (.inr (.inr (.inl v15)))).bind fun a21 => _) = _
        rw [eg8, Option.bind_some, eg9, Option.bind_some, swap5]
        simp -implicitDefEqProofs only [gR_0_3, Option.bind_some, eu8, qO_5, if_true, b1, gR_0_4, e9, d1, e48, fk_n, n4]
      -- the reference
      obtain ⟨s5, y1, y2, y3⟩ := fault6 (s := s4) hi (by rw [V4 68 (by omega), e68]; exact z2) hz
      rw [V4 69 (by omega), e69] at y1 y3
      rw [← fc1, hfl] at y1
      have hR := y3 a (by rw [← fc2]; exact hr) hfo (by omega)
      generalize hs6 : uI (uI s5 1921 (nI a.1)) 1926 (nI a.2.1) = s6
      have I6 : ∀ k, k ≠ 1921 → k ≠ 1926 → sI s6 k = sI s5 k := fun k h1 h2 => by rw [← hs6, sI_uI, if_neg h2, sI_uI, if_neg h1]
      have V6 : sV s6 = sV s5 := by rw [← hs6]; rfl
      have l7 := zero61 s6
      generalize hs7 : setR s6 61 0 (fun _ => 0) 780 = s7 at l7
      have V7 : ∀ k, k ≠ 61 → sV s7 k = sV s5 k := fun k hk => by rw [← hs7, sV_setRne hk, V6]
      have I7 : sI s7 = sI s6 := by rw [← hs7]; rfl
      obtain ⟨s8, g1, g2, g3⟩ := folk6 (s := s7) (a := a) h6 (by rw [I7, ← hs6, sI_uI, if_neg (by omega), sI_uI, if_pos rfl]) (fun j hj c hc => by rw [V7 71 (by omega)]; exact hR.2.2.2.2.2.1 j hj c hc) (fun j hj => by rw [V7 72 (by omega)]; exact hR.2.2.2.2.2.2 j hj)
      have l9 := kept6 s8
      generalize hs9 : uV (uV (uV s8 61 780 (-1)) 61 1560 (-1)) 61 2340 (-1) = s9 at l9
      have n9' : sI s9 1921 = nI a.1 := by
        have : sI s9 = sI s8 := by rw [← hs9]; rfl
        rw [this, g2.2.2.2.2, I7, ← hs6, sI_uI, if_neg (by omega), sI_uI, if_pos rfl]
      have m9 : sI s9 1926 = nI a.2.1 := by
        have : sI s9 = sI s8 := by rw [← hs9]; rfl
        rw [this, g2.2.2.2.2, I7, ← hs6, sI_uI, if_pos rfl]
      have ref : f_X6_town (some 60) (nI i) (HP s4) = some (nI a.1, HP s9) := by
        have e20 : sI s5 1940 = nI a.1 := hR.2.2.2.1
        have e22 : sI (uI s5 1921 (nI a.1)) 1942 = nI a.2.1 := by rw [sI_uI, if_neg (by omega)]; exact hR.2.2.2.2.1
        have z2' : sV s4 68 i = nI z := by rw [V4 68 (by omega), e68]; exact z2
        simp -implicitDefEqProofs only [f_X6_town, isText_yes hi, Option.bind_some, n10, if_false, gR_60_9, gA68 _ hi, z2', if_pos (nI_pos' (show z < 2 ^ 31 by omega)), qO_60, if_true, y1, gI_60_20, e20, sF_60_1, gI_60_22, e22, sF_60_6, hs6, l7, g1, l9, gI_60_1, n9']
      refine ⟨nI a.1, s4, s9, cls, ref, ?_⟩
      -- the invariant
      have V9 : ∀ k, k ≠ 61 → sV s9 k = sV s8 k := fun k hk => by rw [← hs9, sV_uVne hk, sV_uVne hk, sV_uVne hk]
      have V9s : ∀ k, (k < 6 ∨ 8 < k) → (k < 61 ∨ 65 < k) → ¬ ScA k → sV s9 k = sV s1 k := fun k h1 h2 h3 => by rw [V9 k (by omega), g2.2.2.1 k h2, V7 k (by omega), S_V y2 h3, V4 k h1]
      have V9t : ∀ k, 6 ≤ k → k ≤ 8 → sV s9 k = sV s4 k := fun k h1 h2 => by rw [V9 k (by omega), g2.2.2.1 k (by omega), V7 k (by omega), S_V y2 (by unfold ScA; omega)]
      have I9 : ∀ k, k ≠ 1921 → k ≠ 1926 → ¬ ScI k → sI s9 k = sI s4 k := fun k h1 h2 h3 => by
        have e : sI s9 = sI s8 := by rw [← hs9]; rfl
        rw [e, g2.2.2.2.2, I7, I6 k h1 h2]
        exact y2.2.2.2 k h3
      have W9 : sW s9 = !sW s := by
        have e : sW s9 = sW s8 := by rw [← hs9]; rfl
        have e7 : sW s7 = sW s5 := by rw [← hs7, ← hs6]; rfl
        rw [e, g2.1, e7, y2.1, W4]
      have L9 : sL s9 = sL s := by
        have e : sL s9 = sL s8 := by rw [← hs9]; rfl
        have e7 : sL s7 = sL s5 := by rw [← hs7, ← hs6]; rfl
        rw [e, g2.2.1, e7, y2.2.1, d3, b2.2.1]
        exact w2.2.1
      have r61 : ∀ k, 1 ≤ k → k ≤ 6 → sV s9 61 k = vF a (k - 1) := fun k h1 h2 => by
        rw [← hs9, sV_uVp (by omega), sV_uVp (by omega), sV_uVp (by omega)]
        have := (g3 (k - 1) (by omega)).2.2.2.2
        rwa [show 1 + (k - 1) = k by omega] at this
      have r610 : ∀ k, k < 780 → (k < 1 ∨ 6 < k) → sV s9 61 k = 0 := fun k h1 h2 => by
        rw [← hs9, sV_uVp (by omega), sV_uVp (by omega), sV_uVp (by omega), g2.2.2.2.1 k h2, ← hs7]
        exact sV_setRz h1
      have c6 : ∀ p, p < 6 → sV s9 6 p = vF a p ∧ sV s9 7 p = 0 ∧ sV s9 8 p = 0 := fun p hp => by
        rw [V9t 6 (by omega) (by omega), V9t 7 (by omega) (by omega), V9t 8 (by omega) (by omega), d4]
        exact b3 p hp
      have hF9 : InvF s9 a.1 := by
        refine ⟨Or.inr ⟨by omega, h6⟩, n9', ?_, ?_, fun p hp => ?_⟩
        · rw [W9, I9 _ (by omega) (by omega) (by unfold ScI; omega)]
          exact n4
        · rw [W9, I9 _ (by omega) (by omega) (by unfold ScI; omega), I4 _ (by omega) (by omega), m9]
          exact hC.2.1
        · obtain ⟨⟨k, hk, ek⟩, ⟨x, hx1, hx2, ex⟩, ⟨y, hy, ey⟩, -, -, hb⟩ := hP.2.2.1 p hp
          obtain ⟨q1, q2, q3, q4, q5, -⟩ := hC.2.2 p hp
          obtain ⟨u1, u2, u3, u4, -⟩ := g3 p (by omega)
          have cl : ∀ k, fA (!sW s) + 1 ≤ k → k ≤ fA (!sW s) + 5 → sV s9 k = sV s1 k := fun k h1 h2 => V9s k (by omega) (by omega) (by unfold ScA; omega)
          rw [W9, cl (fA (!sW s) + 1) (by omega) (by omega), cl (fA (!sW s) + 2) (by omega) (by omega), cl (fA (!sW s) + 3) (by omega) (by omega), cl (fA (!sW s) + 4) (by omega) (by omega), V9 62 (by omega), V9 63 (by omega), V9 64 (by omega), V9 65 (by omega), u1, u2, u3, u4, q1, q2, q3, q4]
          have t : ∀ c, tvF a c p = a.2.2.1 p c := fun c => if_pos hp
          rw [t, t, t]
          exact ⟨⟨k, hk, ek, ek⟩, ⟨x, hx1, hx2, ex, ex⟩, ⟨y, hy, ey, ey⟩, ⟨a.2.2.2 p, hb, rfl, rfl⟩⟩
      have hS9 : InvS s9 a.1 6 7 8 0 1 := by
        refine ⟨fun p hp => ?_, fun p p1 p2 => ?_, fun p q hp hq e hne => ?_, fun p hp => ⟨0, by omega, ?_, ?_⟩, fun p hp => ?_, 0, Nat.two_pow_pos _, ?_, fun p hp => ?_⟩
        · have e1 := r61 (1 + p) (by omega) (by omega)
          rw [show 1 + p - 1 = p by omega] at e1
          rw [show 6 * 0 + p = p by omega, (c6 p (by omega)).1, e1]
          refine ⟨rfl, ?_⟩
          unfold vF
          rw [if_pos hp]
          rcases (hP.2.2.1 p hp).2.2.2.1 with hv | ⟨v, hv, ev⟩
          · exact Or.inl hv
          · have n9 := nI_n9 (show v < 2 ^ 31 by omega)
            have f := fn p (by omega) (by omega) (by rw [ev]; exact n9)
            rw [ev, nI_clamp (by omega)] at f
            exact Or.inr ⟨v, f.2.1, f.1, ev⟩
        · rw [show 6 * 0 + p = p by omega, (c6 p p2).1]
          exact if_neg (by omega)
        · have e1 := r61 (1 + p) (by omega) (by omega)
          have e2 := r61 (1 + q) (by omega) (by omega)
          rw [show 1 + p - 1 = p by omega] at e1
          rw [show 1 + q - 1 = q by omega] at e2
          rw [e1, e2] at e
          rw [e1] at hne
          unfold vF at e hne
          rw [if_pos hp] at e hne
          rw [if_pos hq] at e
          have hne2 : a.2.2.1 q 3 ≠ -9 := by rw [← e]; exact hne
          by_cases c : p = q
          · exact c
          · exfalso
            by_cases lt : p < q
            · exact (fn p (by omega) (by omega) hne).2.2.2 q lt (by omega) hne2 (by rw [e])
            · exact (fn q (by omega) (by omega) hne2).2.2.2 p (by omega) (by omega) hne (by rw [e])
        · rw [show 6 * 0 + p = p by omega, (c6 p (by omega)).2.1]; rfl
        · rw [r610 _ (by omega) (by omega)]; rfl
        · rw [show 6 * 0 + p = p by omega, (c6 p (by omega)).2.2, r610 _ (by omega) (by omega)]
        · rw [r610 _ (by omega) (by omega)]; rfl
        · rw [Nat.zero_testBit, r610 _ (by omega) (by omega), V9 63 (by omega), (g3 p (by omega)).2.2.1]
          obtain ⟨-, ⟨x, hx1, hx2, ex⟩, -⟩ := hP.2.2.1 p hp
          rw [show tvF a 1 p = a.2.2.1 p 1 from if_pos hp, ex]
          exact ⟨(fun q => by cases q), fun q => absurd q (nI_nle (by omega) (by omega))⟩
      have I1 : ∀ k, (k = 10 ∨ k = 11 ∨ k = 1931 ∨ k = 1934 ∨ 896 ≤ k ∧ k < 1536) → sI s9 k = sI s k := fun k hk => by
        rw [I9 k (by omega) (by omega) (by unfold ScI; omega), I4 k (by omega) (by omega)]
        exact w2.2.2.2 k (by omega) (by omega)
      have V1 : ∀ k, (28 ≤ k ∧ k < 48 ∨ 66 ≤ k ∧ k < 71 ∨ k = 15) → sV s9 k = sV s k := fun k hk => by
        rw [V9s k (by omega) (by omega) (by unfold ScA; omega)]
        exact w2.2.2.1 k (by omega) (by omega)
      refine ⟨⟨a.1, hF9, ⟨0, by omega, ?_, ?_, hS9, fun u hu => absurd hu (Nat.not_lt_zero u)⟩, fun k hk => Or.inl ⟨?_, ?_⟩⟩, InvR_same ⟨fun k hk => V1 k (by omega), fun k hk => I1 k (by omega)⟩ hI.2.1, InvM_same (SameM_of (fun k hk => I1 k (by omega)) L9 (V1 15 (by omega)) (V1 70 (by omega))) hI.2.2⟩
      · show sI s9 163 = nI 0
        rw [I9 163 (by omega) (by omega) (by unfold ScI; omega), d5 163 (by omega), b2.2.2.2, sI_uI, if_pos rfl]
        rfl
      · rw [r610 0 (by omega) (by omega)]; rfl
      · rw [I9 _ (by omega) (by omega) (by unfold ScI; omega)]
        exact d6 k hk
      · rw [← hs9]
        match k, hk with
        | 0, _ => rw [sV_uVp (by omega), sV_uVp (by omega), sV_uV, if_pos rfl, if_pos (by omega)]
        | 1, _ => rw [sV_uVp (by omega), sV_uV, if_pos rfl, if_pos (by omega)]
        | 2, _ => rw [sV_uV, if_pos rfl, if_pos (by omega)]
        | k + 3, h => exact absurd h (by omega)
