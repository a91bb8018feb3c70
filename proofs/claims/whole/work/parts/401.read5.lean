/-! ===== the class reads ===== -/
theorem dA_f (b : Bool) : dA b = fA (!b) := by cases b <;> rfl
theorem fk_sn (s : ST) (b : Bool) (v : Int32) : sF (HP s) (some (fA b)) 1 5 (.inl v) = some (HP (uI s (32 * fA b + 5) v)) := by
  obtain ⟨i, l, a, w⟩ := s
  cases b <;> rfl
theorem fk_sl (s : ST) (b : Bool) (v : Int32) : sF (HP s) (some (fA b)) 1 6 (.inl v) = some (HP (uI s (32 * fA b + 6) v)) := by
  obtain ⟨i, l, a, w⟩ := s
  cases b <;> rfl
theorem fk_s (s : ST) (b : Bool) {j p : Nat} (h : 1 ≤ j) (h2 : j ≤ 5) (hp : p < 6) (v : Int32) : sA (HP s) (some (fA b + j)) (nI p) v = some (HP (uV s (fA b + j) p v)) := HP_sAn s v (by rw [fk_len b h h2]; exact hp) (by omega)
theorem fA_c (b : Bool) : fA b = 16 ∨ fA b = 22 := by cases b <;> decide
theorem s4 (s : ST) {p : Nat} (hp : p < 6) (v : Int32) : sA (HP s) (some 4) (nI p) v = some (HP (uV s 4 p v)) := HP_sAn s v (show p < hLen 4 from hp) (by omega)
theorem g4 (s : ST) {p : Nat} (hp : p < 6) : gA (HP s) (some 4) (nI p) = some (sV s 4 p) := HP_gAn s (show p < hLen 4 from hp) (by omega)
def CP (s : ST) (c : Bool) (a : PSt) : Prop := sI s (32 * fA c + 5) = nI a.1 ∧ sI s (32 * fA c + 6) = nI a.2.1 ∧ ∀ j, j < a.1 → sV s (fA c + 1) j = a.2.2.1 j 0 ∧ sV s (fA c + 2) j = a.2.2.1 j 1 ∧ sV s (fA c + 3) j = a.2.2.1 j 2 ∧ sV s (fA c + 4) j = nI (a.2.2.2 j) ∧ sV s (fA c + 5) j = a.2.2.1 j 3 ∧ sV s 4 j = a.2.2.1 j 4
def DrF (c : Bool) (s s' : ST) : Prop := sW s' = sW s ∧ sL s' = sL s ∧ (∀ k, ¬ (fA c + 1 ≤ k ∧ k ≤ fA c + 5) → k ≠ 4 → sV s' k = sV s k) ∧ ∀ k, k ≠ 32 * fA c + 5 → k ≠ 32 * fA c + 6 → sI s' k = sI s k
theorem DrF.rf (c : Bool) (s : ST) : DrF c s s := ⟨rfl, rfl, fun _ _ _ => rfl, fun _ _ _ => rfl⟩
theorem DrF.trans {c : Bool} {x y z : ST} (h : DrF c x y) (k : DrF c y z) : DrF c x z := ⟨k.1.trans h.1, k.2.1.trans h.2.1, fun i a b => (k.2.2.1 i a b).trans (h.2.2.1 i a b), fun i a b => (k.2.2.2 i a b).trans (h.2.2.2 i a b)⟩
theorem DrF.uV {c : Bool} {s : ST} {k i : Nat} {v : Int32} (h : (fA c + 1 ≤ k ∧ k ≤ fA c + 5) ∨ k = 4) : DrF c s (uV s k i v) := ⟨rfl, rfl, fun j a b => sV_uVne (fun e => by omega), fun _ _ _ => rfl⟩
theorem DrF.uI {c : Bool} {s : ST} {k : Nat} {v : Int32} (h : k = 32 * fA c + 5 ∨ k = 32 * fA c + 6) : DrF c s (uI s k v) := ⟨rfl, rfl, fun _ _ _ => rfl, fun j a b => by rw [sI_uI, if_neg (by omega)]⟩
theorem hasc {s : ST} {c : Bool} {m p : Nat} (hm : sI s (32 * fA c + 5) = nI m) (h6 : m ≤ 6) (hp : p < 2 ^ 31) : f_X1_has (some (fA c)) (nI p) (HP s) = some (if p < m then 1 else 0, HP s) := by
  simp only [f_X1_has, if_neg (nI_pos hp), fk_n, Option.bind_some, hm]
  by_cases h : p < m
  · rw [if_neg (nI_ge h (by omega)), if_neg (show ¬ (6 : Int32) ≤ nI p from nI_ge (b := 6) (by omega) (by omega)), if_pos h]
  · rw [if_pos (nI_le (by omega) hp), if_neg h]
theorem nm0 : ¬ (0 : Int32) ≤ -1 := by decide
theorem fig5 {s : ST} {t z k lo hi : Nat} (ht : t < 10) (hz : sI s (32 * lc t + 1) = nI z) (hl : z ≤ lm t) (hk : k < 2 ^ 31) (hlo : lo ≤ 9) (hhi : hi ≤ 9) : f_X3_figure (some (lc t)) (nI k) (nI lo) (nI hi) (HP s) = some (oI (fg (sV s (lc t + 1)) z k lo hi) (-1), HP s) := by
  have hlm := lm_pos t
  unfold fg
  by_cases c : k < z
  · rw [if_pos c]
    simp only [f_X3_figure, ln_q s ht, if_true, p2_holdsT s ht hz hl c, Option.bind_some, n10, if_false, p2_get s ht hz hl c]
    rcases figV_spec (sV s (lc t + 1) k) lo hi with ⟨d, hd, e1, e2, e3⟩ | ⟨e1, e2, -⟩
    · rw [e3, e2]
      by_cases c2 : lo ≤ d ∧ d ≤ hi
      · rw [if_neg (nI_nlt c2.1 (by omega)), if_neg (nI_nlt c2.2 (by omega)), if_pos c2]
        rfl
      · rw [if_neg c2]
        by_cases c3 : lo ≤ d
        · rw [if_neg (nI_nlt c3 (by omega)), if_pos (nI_lt (by omega) (by omega))]
          rfl
        · rw [if_pos (nI_lt (by omega) (by omega))]
          rfl
    · rw [e1]
      rcases e2 with e2 | e2
      · rw [if_pos (Int32.lt_of_lt_of_le e2 (nI_pos' (by omega)))]
        rfl
      · have h1 : ¬ sV s (lc t + 1) k - 48 < nI lo := fun q => nI_nlt (show lo ≤ 10 by omega) (by omega) (Int32.lt_of_le_of_lt e2 q)
        have h2 : nI hi < sV s (lc t + 1) k - 48 := Int32.lt_of_lt_of_le (nI_lt (show hi < 10 by omega) (by omega)) e2
        rw [if_neg h1, if_pos h2]
        rfl
  · rw [if_neg c]
    simp only [f_X3_figure, ln_q s ht, if_true, p2_holdsF s ht hz hl (Or.inr (nI_le (show z ≤ k by omega) hk)), Option.bind_some, oI]
theorem gT_n {j : Nat} (h : j < 6) : gT (nI j) = some (jlet j) := by
  unfold gT
  rw [nI_clamp (by omega), if_pos ⟨nI_pos (by omega), h⟩]
theorem kb5 (w : Int32) (ah : AH) : f_X3_kindBy w ah = some (oI (kdF w 6 0) (-1), ah) := by
  have l : ∀ (m f j : Nat), j + m = 6 → m < f → jloop (f_X3_kindBy_b2 w) f (nI j) ah = some (match kdF w m j with | none => .inr ((), ah) | some k => .inl (nI k, ah)) := by
    intro m
    induction m with
    | zero =>
      intro f j hj hf
      obtain ⟨f, rfl⟩ : ∃ f', f = f' + 1 := ⟨f - 1, by omega⟩
      rw [jloop]
      simp only [f_X3_kindBy_b2, if_pos (show (6 : Int32) ≤ nI j from nI_le (a := 6) (by omega) (by omega)), kdF]
    | succ m ih =>
      intro f j hj hf
      obtain ⟨f, rfl⟩ : ∃ f', f = f' + 1 := ⟨f - 1, by omega⟩
      rw [jloop, kdF]
      simp only [f_X3_kindBy_b2, if_neg (show ¬ (6 : Int32) ≤ nI j from nI_ge (b := 6) (by omega) (by omega)), gT_n (show j < 6 by omega), Option.bind_some, nI_1]
      by_cases h : jlet j = w
      · simp only [h, if_true]
      · simp only [h, if_false]
        exact ih f (j + 1) (by omega) (by omega)
  have l0 : jloop (f_X3_kindBy_b2 w) jfuel 0 ah = _ := l 6 jfuel 0 (by omega) (by unfold jfuel; omega)
  simp only [f_X3_kindBy, l0, Option.bind_some]
  cases kdF w 6 0 <;> rfl
theorem nI_2 (a : Nat) : nI a + 2 = nI (a + 2) := nI_add a 2
theorem nI_3 (a : Nat) : nI a + 3 = nI (a + 3) := nI_add a 3
/-- one more PERSON -/
def joinS (s : ST) (c : Bool) (m : Nat) (k A Z v : Int32) : ST := uI (uV (uV (uV (uV (uV s (fA c + 1) m k) (fA c + 2) m A) (fA c + 3) m Z) (fA c + 4) m 0) (fA c + 5) m v) (32 * fA c + 5) (nI (m + 1))
theorem p1_join {s : ST} {c : Bool} {m : Nat} (hm : sI s (32 * fA c + 5) = nI m) (h6 : m < 6) (k A Z v : Int32) : f_X1_join (some (fA c)) k A Z v (HP s) = some ((), HP (joinS s c m k A Z v)) := by
  simp only [f_X1_join, fk_n, Option.bind_some, hm, if_neg (nI_pos (show m < 2 ^ 31 by omega)), if_pos (show nI m < 6 from nI_lt (b := 6) h6 (by omega)), fk_0, fk_1, fk_2, fk_3, fk_4, fk_s _ c (show 1 ≤ 1 by omega) (show 1 ≤ 5 by omega) h6, fk_s _ c (show 1 ≤ 2 by omega) (show 2 ≤ 5 by omega) h6, fk_s _ c (show 1 ≤ 3 by omega) (show 3 ≤ 5 by omega) h6, fk_s _ c (show 1 ≤ 4 by omega) (show 4 ≤ 5 by omega) h6, fk_s _ c (show 1 ≤ 5 by omega) (show 5 ≤ 5 by omega) h6, sI_uV, nI_1, fk_sn, joinS]
theorem sV_uVp {s : ST} {k i x j : Nat} {v : Int32} (h : j ≠ i) : sV (uV s k i v) x j = sV s x j := by
  rw [sV_uV]
  split
  · rename_i e
    rw [e]
  · rfl
theorem CP_join {s : ST} {c : Bool} {a : PSt} (hC : CP s c a) (h6 : a.1 < 6) (k A Z x : Nat) (v : Int32) : CP (joinS (uV s 4 a.1 (nI x)) c a.1 (nI k) (nI A) (nI Z) v) c (addP a k A Z v x) ∧ DrF c s (joinS (uV s 4 a.1 (nI x)) c a.1 (nI k) (nI A) (nI Z) v) := by
  have hf := fA_c c
  refine ⟨⟨by unfold joinS; rw [sI_uI, if_pos rfl]; rfl, ?_, fun j hj => ?_⟩, ?_⟩
  · unfold joinS
    rw [sI_uI, if_neg (by omega)]
    exact hC.2.1
  · have hj : j < a.1 + 1 := hj
    unfold joinS addP
    by_cases e : j = a.1
    · subst e
      simp only [sV_uI, sV_uV, if_true, upT_at]
      rw [if_neg (show ¬ fA c + 1 = fA c + 5 by omega), if_neg (show ¬ fA c + 1 = fA c + 4 by omega), if_neg (show ¬ fA c + 1 = fA c + 3 by omega), if_neg (show ¬ fA c + 1 = fA c + 2 by omega)]
      rw [if_neg (show ¬ fA c + 2 = fA c + 5 by omega), if_neg (show ¬ fA c + 2 = fA c + 4 by omega), if_neg (show ¬ fA c + 2 = fA c + 3 by omega)]
      rw [if_neg (show ¬ fA c + 3 = fA c + 5 by omega), if_neg (show ¬ fA c + 3 = fA c + 4 by omega), if_neg (show ¬ fA c + 4 = fA c + 5 by omega)]
      rw [if_neg (show ¬ 4 = fA c + 5 by omega), if_neg (show ¬ 4 = fA c + 4 by omega), if_neg (show ¬ 4 = fA c + 3 by omega), if_neg (show ¬ 4 = fA c + 2 by omega), if_neg (show ¬ 4 = fA c + 1 by omega)]
      exact ⟨rfl, rfl, rfl, rfl, rfl, rfl⟩
    · obtain ⟨q1, q2, q3, q4, q5, q6⟩ := hC.2.2 j (by omega)
      simp only [sV_uI, sV_uVp e, if_neg e, upT_ne e]
      exact ⟨q1, q2, q3, q4, q5, q6⟩
  · exact (DrF.uV (Or.inr rfl)).trans ((((((DrF.uV (by omega)).trans (DrF.uV (by omega))).trans (DrF.uV (by omega))).trans (DrF.uV (by omega))).trans (DrF.uV (by omega))).trans (DrF.uI (by omega)))
def rI (o : Nat ⊕ PSt) : Int32 := match o with
  | .inl x => nI x
  | .inr _ => -9
theorem rdp5 {s : ST} {c : Bool} {t z i : Nat} {a : PSt} (ht : t < 10) (hz : sI s (32 * lc t + 1) = nI z) (hl : z ≤ lm t) (hi : i < z) (hC : CP s c a) (hP : PI a) : ∃ s', f_X3_readPerson (some 3) (some (lc t)) (nI i) (some (fA c)) (HP s) = some (rI (rdP (sV s (lc t + 1)) z i a), HP s') ∧ DrF c s s' ∧ ∀ a', rdP (sV s (lc t + 1)) z i a = .inr a' → CP s' c a' := by
  have hlm := lm_pos t
  have hg := p2_get s ht hz hl hi
  have ea : f_X3_figure (some (lc t)) (nI (i + 1)) 1 9 (HP s) = _ := fig5 (lo := 1) (hi := 9) ht hz hl (show i + 1 < 2 ^ 31 by omega) (by omega) (by omega)
  have ez : f_X3_figure (some (lc t)) (nI (i + 2)) 0 5 (HP s) = _ := fig5 (lo := 0) (hi := 5) ht hz hl (show i + 2 < 2 ^ 31 by omega) (by omega) (by omega)
  have ev : f_X3_figure (some (lc t)) (nI (i + 3)) 0 9 (HP s) = _ := fig5 (lo := 0) (hi := 9) ht hz hl (show i + 3 < 2 ^ 31 by omega) (by omega) (by omega)
  have hh : f_X2_holds (some (lc t)) (nI (i + 3)) (HP s) = some (if i + 3 < z then 1 else 0, HP s) := by
    by_cases c3 : i + 3 < z
    · rw [if_pos c3]; exact p2_holdsT s ht hz hl c3
    · rw [if_neg c3]; exact p2_holdsF s ht hz hl (Or.inr (nI_le (show z ≤ i + 3 by omega) (by omega)))
  generalize hW : sV s (lc t + 1) = W at hg ea ez ev
  unfold rdP
  have el : (0 < nI a.2.1) = (0 < a.2.1) := propext (nI_ltI (a := 0) (b := a.2.1) (by omega) (by have := hP.2.1; omega))
  have em : (nI a.1 < 6) = (a.1 < 6) := propext (nI_ltI (a := a.1) (b := 6) (by have := hP.1; omega) (by omega))
  cases hk : kdF (W i) 6 0 with
  | none =>
    refine ⟨s, ?_, DrF.rf c s, fun a' h => by cases h⟩
    simp only [f_X3_readPerson, ln_q s ht, if_true, hg, Option.bind_some, kb5, hk, oI, if_pos (show (-1 : Int32) < 0 by decide), rI]
  | some k =>
    have hk6 := kdF_lt 6 0 k hk
    have nk : ¬ nI k < 0 := nI_pos (by omega)
    by_cases c1 : 0 < a.2.1
    · simp only [if_pos (show 0 < a.2.1 ∨ 6 ≤ a.1 from Or.inl c1)]
      refine ⟨s, ?_, DrF.rf c s, fun a' h => by cases h⟩
      simp only [f_X3_readPerson, ln_q s ht, if_true, hg, Option.bind_some, kb5, hk, oI, nk, if_false, fk_l, hC.2.1, el, c1, rI]
    · by_cases c2 : a.1 < 6
      case neg =>
        simp only [if_pos (show 0 < a.2.1 ∨ 6 ≤ a.1 from Or.inr (by omega))]
        refine ⟨s, ?_, DrF.rf c s, fun a' h => by cases h⟩
        simp only [f_X3_readPerson, ln_q s ht, if_true, hg, Option.bind_some, kb5, hk, oI, nk, if_false, fk_l, hC.2.1, el, c1, fk_n, hC.1, em, c2, rI]
      have cc : ¬ (0 < a.2.1 ∨ 6 ≤ a.1) := by omega
      simp only [if_neg cc]
      cases hA : fg W z (i + 1) 1 9 with
      | none =>
        refine ⟨s, ?_, DrF.rf c s, fun a' h => by cases h⟩
        simp only [f_X3_readPerson, ln_q s ht, if_true, hg, Option.bind_some, kb5, hk, oI, nk, if_false, fk_l, hC.2.1, el, c1, fk_n, hC.1, em, c2, nI_1, ea, hA, nm0, rI]
      | some A =>
        obtain ⟨a1, a2, a3, a4⟩ := fg_spec hA
        cases hZ : fg W z (i + 2) 0 5 with
        | none =>
          refine ⟨s, ?_, DrF.rf c s, fun a' h => by cases h⟩
          simp only [f_X3_readPerson, ln_q s ht, if_true, hg, Option.bind_some, kb5, hk, oI, nk, if_false, fk_l, hC.2.1, el, c1, fk_n, hC.1, em, c2, nI_1, ea, hA, if_pos (nI_pos' (show A < 2 ^ 31 by omega)), nI_2, ez, hZ, nm0, rI]
        | some Z =>
          obtain ⟨z1, z2, z3, z4⟩ := fg_spec hZ
          have fin : ∀ v : Int32, f_X3_readPerson_j139 (some 3) (nI i) (some (fA c)) (nI k) (nI A) (nI Z) v (HP s) = some (-9, HP (joinS (uV s 4 a.1 (nI (i + 3))) c a.1 (nI k) (nI A) (nI Z) v)) := fun v => by
            have h5 : sI (uV s 4 a.1 (nI (i + 3))) (32 * fA c + 5) = nI a.1 := hC.1
            simp only [f_X3_readPerson_j139, f_X3_readPerson_j167, fk_n, Option.bind_some, hC.1, if_neg (nI_pos (show a.1 < 2 ^ 31 by omega)), if_neg (show ¬ (6 : Int32) ≤ nI a.1 from nI_ge (b := 6) c2 (by omega)), gR_3_0, nI_3, s4 _ c2, fk_q, if_true, p1_join h5 c2]
          by_cases c3 : i + 3 < z ∧ W (i + 3) = 45
          · simp only [if_pos c3]
            have hg3 := p2_get s ht hz hl c3.1
            rw [hW] at hg3
            obtain ⟨j1, j2⟩ := CP_join hC c2 k A Z (i + 3) (-9)
            refine ⟨_, ?_, j2, fun a' h => by cases h; exact j1⟩
            simp only [f_X3_readPerson, f_X3_readPerson_j101, f_X3_readPerson_j123, ln_q s ht, if_true, hg, Option.bind_some, kb5, hk, oI, nk, if_false, fk_l, hC.2.1, el, c1, fk_n, hC.1, em, c2, nI_1, ea, hA, if_pos (nI_pos' (show A < 2 ^ 31 by omega)), nI_2, ez, hZ, if_pos (nI_pos' (show Z < 2 ^ 31 by omega)), nI_3, hh, if_pos c3.1, n10, hg3, if_pos c3.2, fin, rI]
          · simp only [if_neg c3]
            have to100 : f_X3_readPerson (some 3) (some (lc t)) (nI i) (some (fA c)) (HP s) = f_X3_readPerson_j100 (some 3) (some (lc t)) (nI i) (some (fA c)) (nI k) (nI A) (nI Z) (HP s) := by
              by_cases c4 : i + 3 < z
              · have hg3 := p2_get s ht hz hl c4
                rw [hW] at hg3
                have c5 : ¬ W (i + 3) = 45 := fun q => c3 ⟨c4, q⟩
                simp only [f_X3_readPerson, ln_q s ht, if_true, hg, Option.bind_some, kb5, hk, oI, nk, if_false, fk_l, hC.2.1, el, c1, fk_n, hC.1, em, c2, nI_1, ea, hA, if_pos (nI_pos' (show A < 2 ^ 31 by omega)), nI_2, ez, hZ, if_pos (nI_pos' (show Z < 2 ^ 31 by omega)), nI_3, hh, if_pos c4, n10, hg3, if_neg c5]
              · simp only [f_X3_readPerson, ln_q s ht, if_true, hg, Option.bind_some, kb5, hk, oI, nk, if_false, fk_l, hC.2.1, el, c1, fk_n, hC.1, em, c2, nI_1, ea, hA, if_pos (nI_pos' (show A < 2 ^ 31 by omega)), nI_2, ez, hZ, if_pos (nI_pos' (show Z < 2 ^ 31 by omega)), nI_3, hh, if_neg c4]
            rw [to100]
            cases hv : fg W z (i + 3) 0 9 with
            | none =>
              refine ⟨s, ?_, DrF.rf c s, fun a' h => by cases h⟩
              simp only [f_X3_readPerson_j100, f_X3_readPerson_j101, f_X3_readPerson_j123, if_true, nI_3, ev, hv, oI, Option.bind_some, nm0, if_false, rI]
            | some v =>
              obtain ⟨v1, v2, v3, v4⟩ := fg_spec hv
              obtain ⟨j1, j2⟩ := CP_join hC c2 k A Z (i + 3) (nI v)
              refine ⟨_, ?_, j2, fun a' h => by cases h; exact j1⟩
              simp only [f_X3_readPerson_j100, f_X3_readPerson_j101, f_X3_readPerson_j123, if_true, nI_3, ev, hv, oI, Option.bind_some, if_pos (nI_pos' (show v < 2 ^ 31 by omega)), fin, rI]
/-- two more who LOVE each other -/
def pairS (s : ST) (c : Bool) (B : Nat → Nat) (p q l : Nat) : ST := uI (uV (uV s (fA c + 4) p (nI (B p ||| 2 ^ q))) (fA c + 4) q (nI (B q ||| 2 ^ p))) (32 * fA c + 6) (nI (l + 1))
theorem rdl5 {s : ST} {c : Bool} {t z i : Nat} {a : PSt} (ht : t < 10) (hz : sI s (32 * lc t + 1) = nI z) (hl : z ≤ lm t) (hi : i < z) (hC : CP s c a) (hP : PI a) : ∃ s', f_X3_readLove (some 3) (some (lc t)) (nI i) (some (fA c)) (HP s) = some (rI (rdL (sV s (lc t + 1)) z i a), HP s') ∧ DrF c s s' ∧ ∀ a', rdL (sV s (lc t + 1)) z i a = .inr a' → CP s' c a' := by
  have hlm := lm_pos t
  have hf := fA_c c
  obtain ⟨h6, h8, h3, -⟩ := hP
  have e2 : (nI a.1 < 2) = (a.1 < 2) := propext (nI_ltI (a := a.1) (b := 2) (by omega) (by omega))
  have e8 : (nI a.2.1 < 8) = (a.2.1 < 8) := propext (nI_ltI (a := a.2.1) (b := 8) (by omega) (by omega))
  unfold rdL
  by_cases c1 : a.1 < 2
  · simp only [if_pos (show a.1 < 2 ∨ 8 ≤ a.2.1 from Or.inl c1)]
    refine ⟨s, ?_, DrF.rf c s, fun a' h => by cases h⟩
    simp only [f_X3_readLove, fk_n, Option.bind_some, hC.1, e2, c1, if_true, rI]
  by_cases c2 : a.2.1 < 8
  case neg =>
    simp only [if_pos (show a.1 < 2 ∨ 8 ≤ a.2.1 from Or.inr (by omega))]
    refine ⟨s, ?_, DrF.rf c s, fun a' h => by cases h⟩
    simp only [f_X3_readLove, fk_n, fk_l, Option.bind_some, hC.1, hC.2.1, e2, e8, c1, c2, if_false, rI]
  have cc : ¬ (a.1 < 2 ∨ 8 ≤ a.2.1) := by omega
  simp only [if_neg cc]
  have es : nI a.1 - 1 = nI (a.1 - 1) := pk_sub (a := a.1) (b := 1) (by omega)
  have ep : f_X3_figure (some (lc t)) (nI (i + 1)) 0 (nI (a.1 - 1)) (HP s) = _ := fig5 (lo := 0) (hi := a.1 - 1) ht hz hl (show i + 1 < 2 ^ 31 by omega) (by omega) (by omega)
  have eq : f_X3_figure (some (lc t)) (nI (i + 2)) 0 (nI (a.1 - 1)) (HP s) = _ := fig5 (lo := 0) (hi := a.1 - 1) ht hz hl (show i + 2 < 2 ^ 31 by omega) (by omega) (by omega)
  generalize sV s (lc t + 1) = W at ep eq ⊢
  cases hp : fg W z (i + 1) 0 (a.1 - 1) with
  | none =>
    refine ⟨s, ?_, DrF.rf c s, fun a' h => by cases h⟩
    simp only [f_X3_readLove, fk_n, fk_l, Option.bind_some, hC.1, hC.2.1, e2, e8, c1, c2, if_false, if_true, es, nI_1, ep, hp, oI, nm0, rI]
  | some p =>
    obtain ⟨p1, p2, p3, p4⟩ := fg_spec hp
    cases hq : fg W z (i + 2) 0 (a.1 - 1) with
    | none =>
      refine ⟨s, ?_, DrF.rf c s, fun a' h => by cases h⟩
      simp only [f_X3_readLove, fk_n, fk_l, Option.bind_some, hC.1, hC.2.1, e2, e8, c1, c2, if_false, if_true, es, nI_1, ep, hp, oI, if_pos (nI_pos' (show p < 2 ^ 31 by omega)), nI_2, eq, hq, if_pos (show (-1 : Int32) < 0 by decide), rI]
    | some q =>
      obtain ⟨q1, q2, q3, q4⟩ := fg_spec hq
      have hb64 : a.2.2.2 p < 64 := Nat.lt_of_lt_of_le (h3 p (by omega)).2.2.2.2.2 (pow64 h6)
      have hb64q : a.2.2.2 q < 64 := Nat.lt_of_lt_of_le (h3 q (by omega)).2.2.2.2.2 (pow64 h6)
      have epq : (nI q = nI p) = (q = p) := propext (nI_eq (by omega) (by omega))
      have elv : f_X1_lovedBy (some (fA c)) (nI p) (HP s) = some (nI (a.2.2.2 p), HP s) := by
        simp only [f_X1_lovedBy, fk_q, if_true, hasc hC.1 h6 (show p < 2 ^ 31 by omega), if_pos (show p < a.1 by omega), Option.bind_some, n10, if_false, fk_3, fk_g s c (show 1 ≤ 4 by omega) (by omega) (show p < 6 by omega), (hC.2.2 p (by omega)).2.2.2.1]
      have eb := bit_dec (a.2.2.2 p) hb64 q (by omega)
      by_cases c3 : q = p
      · simp only [if_pos (Or.inl c3 : q = p ∨ (a.2.2.2 p).testBit q = true)]
        refine ⟨s, ?_, DrF.rf c s, fun a' h => by cases h⟩
        simp only [f_X3_readLove, fk_n, fk_l, Option.bind_some, hC.1, hC.2.1, e2, e8, c1, c2, if_false, if_true, es, nI_1, ep, hp, oI, if_pos (nI_pos' (show p < 2 ^ 31 by omega)), nI_2, eq, hq, if_neg (nI_pos (show q < 2 ^ 31 by omega)), if_neg (nI_pos (show p < 2 ^ 31 by omega)), epq, c3, rI]
      · by_cases c4 : (a.2.2.2 p).testBit q = true
        · simp only [if_pos (show q = p ∨ (a.2.2.2 p).testBit q = true from Or.inr c4)]
          refine ⟨s, ?_, DrF.rf c s, fun a' h => by cases h⟩
          simp only [f_X3_readLove, fk_n, fk_l, Option.bind_some, hC.1, hC.2.1, e2, e8, c1, c2, if_false, if_true, es, nI_1, ep, hp, oI, if_pos (nI_pos' (show p < 2 ^ 31 by omega)), nI_2, eq, hq, if_neg (nI_pos (show q < 2 ^ 31 by omega)), epq, c3, fk_q, elv, p5_isIn (show q < 6 by omega), if_pos (eb.mpr c4), n10, rI]
        · have eb' : ¬ (nI (a.2.2.2 p) >>> (nI q &&& 31)) &&& 1 = 1 := fun w => c4 (eb.mp w)
          simp only [if_neg (show ¬ (q = p ∨ (a.2.2.2 p).testBit q = true) from fun w => w.elim c3 c4)]
          have epr : f_X1_pair (some (fA c)) (nI p) (nI q) (HP s) = some ((), HP (pairS s c a.2.2.2 p q a.2.1)) := by
            have g2 : sV (uV s (fA c + 4) p (nI (a.2.2.2 p ||| 2 ^ q))) (fA c + 4) q = nI (a.2.2.2 q) := by rw [sV_uVp c3]; exact (hC.2.2 q (by omega)).2.2.2.1
            have l2 : sI (uV (uV s (fA c + 4) p (nI (a.2.2.2 p ||| 2 ^ q))) (fA c + 4) q (nI (a.2.2.2 q ||| 2 ^ p))) (32 * fA c + 6) = nI a.2.1 := hC.2.1
            simp only [f_X1_pair, fk_q, if_true, hasc hC.1 h6 (show p < 2 ^ 31 by omega), hasc hC.1 h6 (show q < 2 ^ 31 by omega), if_pos (show p < a.1 by omega), if_pos (show q < a.1 by omega), Option.bind_some, n10, if_false, fk_3, fk_g _ c (show 1 ≤ 4 by omega) (by omega) (show p < 6 by omega), fk_g _ c (show 1 ≤ 4 by omega) (by omega) (show q < 6 by omega), (hC.2.2 p (by omega)).2.2.2.1, or_dec _ hb64 q (by omega), fk_s _ c (show 1 ≤ 4 by omega) (by omega) (show p < 6 by omega), fk_s _ c (show 1 ≤ 4 by omega) (by omega) (show q < 6 by omega), g2, or_dec _ hb64q p (by omega), fk_l, l2, nI_1, fk_sl, pairS]
          refine ⟨pairS s c a.2.2.2 p q a.2.1, ?_, ?_, fun a' h => ?_⟩
          · simp only [f_X3_readLove, fk_n, fk_l, Option.bind_some, hC.1, hC.2.1, e2, e8, c1, c2, if_false, if_true, es, nI_1, ep, hp, oI, if_pos (nI_pos' (show p < 2 ^ 31 by omega)), nI_2, eq, hq, if_neg (nI_pos (show q < 2 ^ 31 by omega)), epq, c3, fk_q, elv, p5_isIn (show q < 6 by omega), if_neg eb', epr, rI]
          · exact ((DrF.uV (by omega)).trans (DrF.uV (by omega))).trans (DrF.uI (by omega))
          · cases h
            refine ⟨?_, ?_, fun j hj => ?_⟩
            · unfold pairS
              rw [sI_uI, if_neg (by omega)]
              exact hC.1
            · unfold pairS
              rw [sI_uI, if_pos rfl]
            · obtain ⟨g1, g2, g3, g4, g5, g6⟩ := hC.2.2 j hj
              have ne : ∀ k, k ≠ fA c + 4 → sV (pairS s c a.2.2.2 p q a.2.1) k = sV s k := fun k hk => by unfold pairS; rw [sV_uI, sV_uVne hk, sV_uVne hk]
              refine ⟨by rw [ne _ (by omega)]; exact g1, by rw [ne _ (by omega)]; exact g2, by rw [ne _ (by omega)]; exact g3, ?_, by rw [ne _ (by omega)]; exact g5, by rw [ne _ (by omega)]; exact g6⟩
              show _ = nI (upT (upT a.2.2.2 p (a.2.2.2 p ||| 2 ^ q)) q (a.2.2.2 q ||| 2 ^ p) j)
              unfold pairS upT
              rw [sV_uI, sV_uV, if_pos rfl]
              by_cases e1 : j = q
              · rw [if_pos e1, if_pos e1]
              · rw [if_neg e1, if_neg e1, sV_uV, if_pos rfl]
                by_cases e2 : j = p
                · rw [if_pos e2, if_pos e2]
                · rw [if_neg e2, if_neg e2]
                  exact g4
