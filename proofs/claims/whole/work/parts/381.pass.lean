/-! ===== the reference's week ===== -/
def RS (s : ST) (n t : Nat) (V : Nat → Int32) (D : Nat → Nat) (F : Nat → Int32) : Prop := sV s 61 0 = nI t ∧ (∀ p, p < n → sV s 61 (1 + p) = V p ∧ Vok n p (V p) ∧ sV s 61 (7 + p) = nI (D p) ∧ D p ≤ 9 ∧ sV s 61 (13 + p) = F p) ∧ sV s 61 19 = nI (pset (rcd s D) n)
theorem p6_owesD {s : ST} {n p : Nat} {V : Nat → Int32} {D : Nat → Nat} (hF : InvF s n) (hp : p < n) (ev : sV s 61 (1 + p) = V p) (hv : Vok n p (V p)) : f_X6_owes (some 60) (nI p) (nI (pset (rcd s D) n)) (HP s) = some (if owD s V D p then 1 else 0, HP s) := by
  have h6 := hF.le
  have hk := (hF.k hp).1
  unfold owD
  have ek : (nI (kN s p) = 2) = (kN s p = 2) := propext (nI_eq (a := kN s p) (b := 2) (by omega) (by omega))
  rcases hv with h | ⟨q, hq, -, h⟩
  · simp only [f_X6_owes, qO_60, if_true, p6_victim s (show p < 6 by omega), Option.bind_some, ev, h]
    simp
  · simp only [f_X6_owes, qO_60, if_true, p6_victim s (show p < 6 by omega), Option.bind_some, ev, h, if_neg (nI_n9 (show q < 2 ^ 31 by omega)), gR_60_2, g62 s (show p < 6 by omega), (hF.k hp).2.2, ek, gR_60_5, g65 s (show p < 6 by omega), p6_has (sV s 65 p), p6_hasR h6 hq, nI_clamp (show q < 2 ^ 31 by omega)]
    by_cases c1 : kN s p = 2
    · simp [c1]
    · by_cases c2 : (sV s 65 p >>> (nI q &&& 31)) &&& 1 = 1
      · simp [c1, c2]
      · cases c3 : rcd s D q with
        | true => simp [c1, c2]
        | false => simp [c1, c2, nI_n9 (show q < 2 ^ 31 by omega)]
theorem p6_deeds1 {b : ST} {n t : Nat} {V : Nat → Int32} {D : Nat → Nat} {F c : Nat → Int32} (hF : InvF b n) (hC : RS b n t V D F) (hc : ∀ p, p < n → sV b 73 p = c p) : jloop (f_X6_pass_b14 (some 60) (nI (pset (rcd b D) n))) jfuel 0 (HP b) = some (.inr ((), HP (setR b 61 7 (fun p => nI (d1 b D c p)) n))) := by
  have h6 := hF.le
  have l : jloop (f_X6_pass_b14 (some 60) (nI (pset (rcd b D) n))) jfuel (nI 0) (HP (setR b 61 7 (fun p => nI (d1 b D c p)) 0)) = some (.inr ((), HP (setR b 61 7 (fun p => nI (d1 b D c p)) n))) := by
    refine jseq (n := n) (fun j => nI j) (fun j => HP (setR b 61 7 (fun p => nI (d1 b D c p)) j)) ?_ (fun j hj => ?_) n jfuel 0 (by omega) (by unfold jfuel; omega)
    · have hF' : InvF (setR b 61 7 (fun p => nI (d1 b D c p)) n) n := InvF_N (SameN.uA (by unfold TwA; omega)) hF
      simp only [f_X6_pass_b14, gI_60_1, Option.bind_some, hF'.2.1, if_pos (nI_le (Nat.le_refl n) (show n < 2 ^ 31 by omega))]
    · have hN : SameN b (setR b 61 7 (fun p => nI (d1 b D c p)) j) := SameN.uA (by unfold TwA; omega)
      have hF' := InvF_N hN hF
      have ec : sV (setR b 61 7 (fun p => nI (d1 b D c p)) j) 73 j = c j := by rw [sV_setRne (by omega)]; exact hc j hj
      have ed : sV (setR b 61 7 (fun p => nI (d1 b D c p)) j) 61 (7 + j) = nI (D j) := by rw [sV_setRout (by omega)]; exact (hC.2.1 j hj).2.2.1
      simp only [f_X6_pass_b14, f_X6_pass_b14_j54, f_X6_pass_b14_j55, gI_60_1, Option.bind_some, hF'.2.1, if_neg (nI_ge hj (show n < 2 ^ 31 by omega)), gR_60_0, e7p, g61 _ (show 7 + j < 3120 by omega), ed, gR_60_23, g73 _ (show j < 6 by omega), ec, p6_hasR h6 hj, s61 _ (show 7 + j < 3120 by omega), nI_1, Int32.add_zero]
      by_cases c1 : c j = 1
      · rw [if_pos c1]
        cases c2 : rcd b D j with
        | true =>
          simp only [if_true, n10, if_false]
          rw [← setR_1, show d1 b D c j = D j by unfold d1; rw [if_pos c1, c2]; rfl]
        | false =>
          simp only [if_true, Bool.false_eq_true, if_false]
          rw [← setR_1, show d1 b D c j = D j + 1 by unfold d1; rw [if_pos c1, c2]; rfl]
      · rw [if_neg c1, ← setR_1, show d1 b D c j = D j by unfold d1; rw [if_neg c1]]
  rw [setR_0] at l
  exact l
theorem p6_deeds2 {b : ST} {n t : Nat} {V : Nat → Int32} {D : Nat → Nat} {F c : Nat → Int32} (hF : InvF b n) (hC : RS b n t V D F) (hc : ∀ p, p < n → sV b 73 p = c p) (h2 : ∀ p, p < n → c p = 2 → V p ≠ -9) : jloop (f_X6_pass_b65 (some 60) (nI (pset (rcd b D) n))) jfuel 0 (HP (setR b 61 7 (fun p => nI (d1 b D c p)) n)) = some (.inr ((), HP (setR b 61 7 (fun p => nI (d2 b n V D c p)) n))) := by
  have h6 := hF.le
  have l := jfoldH (body := f_X6_pass_b65 (some 60) (nI (pset (rcd b D) n))) (n := n) (fun (_ : Nat → Nat) j => nI j) (fun _ => ()) (fun E => HP (setR b 61 7 (fun p => nI (E p)) n)) (thF b V D c) (fun _ E => ∀ p, p < n → E p ≤ 9) (fun j E hj hE p hp => by
      have := hE p hp
      unfold thF
      split
      · show (if p = _ then E p - str b j p else E p) ≤ 9
        split <;> omega
      · exact this) (fun E _ => by
      have hF' : InvF (setR b 61 7 (fun p => nI (E p)) n) n := InvF_N (SameN.uA (by unfold TwA; omega)) hF
      simp only [f_X6_pass_b65, gI_60_1, Option.bind_some, hF'.2.1, if_pos (nI_le (Nat.le_refl n) (show n < 2 ^ 31 by omega))]) (fun j E hj hE => by
      have hN : SameN b (setR b 61 7 (fun p => nI (E p)) n) := SameN.uA (by unfold TwA; omega)
      have hF' := InvF_N hN hF
      obtain ⟨-, -, -, -, -, -, n7, -⟩ := wN hN
      have ec : sV (setR b 61 7 (fun p => nI (E p)) n) 73 j = c j := by rw [sV_setRne (by omega)]; exact hc j hj
      have ev : sV (setR b 61 7 (fun p => nI (E p)) n) 61 (1 + j) = V j := by rw [sV_setRout (by omega)]; exact (hC.2.1 j hj).1
      simp only [f_X6_pass_b65, f_X6_pass_b65_j141, gI_60_1, Option.bind_some, hF'.2.1, if_neg (nI_ge hj (show n < 2 ^ 31 by omega)), gR_60_23, g73 _ (show j < 6 by omega), ec, qO_60, if_true, p6_victim _ (show j < 6 by omega), ev, nI_1]
      unfold thF
      by_cases c1 : c j = 2
      · rw [if_pos c1]
        rcases (hC.2.1 j hj).2.1 with h | ⟨q, hq, -, h⟩
        · exact absurd h (h2 j hj c1)
        · have n9 := nI_n9 (show q < 2 ^ 31 by omega)
          have eq : sV (setR b 61 7 (fun p => nI (E p)) n) 61 (7 + q) = nI (E q) := sV_setRin hq
          simp only [h, p6_hasR h6 hq, Option.bind_some, nI_clamp (show q < 2 ^ 31 by omega)]
          cases c2 : rcd b D q with
          | true =>
            simp only [if_true, n10, if_false, Bool.true_eq_false, and_false]
          | false =>
            have hE' := hE q hq
            have hst := str_le (s := b) q hF hj
            have es := sub0 (show E q ≤ 100 by omega) (show str b j q ≤ 100 by omega)
            have goal : ∀ v : Int32, v = nI (E q - str b j q) → HP (uV (setR b 61 7 (fun p => nI (E p)) n) 61 (7 + q) v) = HP (setR b 61 7 (fun p => nI (if p = q then E p - str b j p else E p)) n) := fun v hv => by
              rw [setR_set hq, hv]
              congr 2
              funext p
              by_cases e : p = q
              · rw [if_pos e, if_pos e, e]
              · rw [if_neg e, if_neg e]
            simp only [if_true, Bool.false_eq_true, if_false, gR_60_0, Option.bind_some, qO_60, p6_victim _ (show j < 6 by omega), ev, h, e7p, g61 _ (show 7 + q < 3120 by omega), eq, p6_str hF' hj hq, n7, s61 _ (show 7 + q < 3120 by omega), c1, ne_eq, n9, not_false_eq_true, and_true]
            by_cases c3 : 0 ≤ nI (E q) - nI (str b j q)
            · rw [if_pos c3] at es ⊢
              rw [goal _ es]
            · rw [if_neg c3] at es ⊢
              rw [goal _ es]
      · rw [if_neg c1, if_neg (fun z => c1 z.1)]) n jfuel 0 (d1 b D c) (by omega) (by unfold jfuel; omega) (fun p hp => d1_le hF hp (hC.2.1 p hp).2.2.2.1)
  exact l.1
/-- REACHED, as the reference gathers it -/
def rjF (s : ST) (D E : Nat → Nat) (p : Nat) (a : Nat) : Nat := if (!rcd s D p && rcd s E p) = true then a ||| 2 ^ p else a
def rj (s : ST) (n : Nat) (D E : Nat → Nat) (m : Nat) : Nat := fold (rjF s D E) m 0 (pset (rcd s D) n)
theorem rj_lt {s : ST} {n : Nat} {D E : Nat → Nat} (h6 : n ≤ 6) {m : Nat} (hm : m ≤ 6) : rj s n D E m < 64 := fold_P (fun a => a < 64) m 0 _ (fun k b _ hk hb => by
  show rjF s D E k b < 64
  unfold rjF
  split
  · exact or_lt hb (by omega)
  · exact hb) (pset_lt _ h6)
theorem rj_n {s : ST} {n : Nat} {V : Nat → Int32} {D : Nat → Nat} {c : Nat → Int32} : rj s n D (d2 s n V D c) n = pset (rcd s (d2 s n V D c)) n := by
  apply Nat.eq_of_testBit_eq
  intro i
  have := pset_bit (fun p => !rcd s D p && rcd s (d2 s n V D c) p) n 0 (pset (rcd s D) n) i
  unfold rj rjF
  rw [this, pset_tb, pset_tb]
  by_cases hi : i < n
  · simp only [hi, Nat.zero_add, Nat.zero_le, decide_true, Bool.true_and]
    cases h : rcd s D i with
    | true => rw [rcd_d2 h]; rfl
    | false => simp
  · simp [hi]
theorem gA19 (s : ST) : gA (HP s) (some 61) 19 = some (sV s 61 19) := g61 s (k := 19) (by omega)
theorem sA19 (s : ST) (v : Int32) : sA (HP s) (some 61) 19 v = some (HP (uV s 61 19 v)) := s61 s (k := 19) (by omega) v
theorem p6_third {b : ST} {n : Nat} {V : Nat → Int32} {D E : Nat → Nat} {F c : Nat → Int32} (hF : InvF b n) (hC : ∀ p, p < n → sV b 61 (1 + p) = V p ∧ Vok n p (V p) ∧ sV b 61 (7 + p) = nI (E p) ∧ sV b 61 (13 + p) = F p) (hr : sV b 61 19 = nI (pset (rcd b D) n)) (hc : ∀ p, p < n → sV b 73 p = c p) : jloop (f_X6_pass_b152 (some 60) (nI (pset (rcd b D) n))) jfuel (0, 0) (HP b) = some (.inr (cntW b n D E, HP (setR (uV b 61 19 (nI (rj b n D E n))) 61 13 (f1 b V D F c) n))) := by
  have h6 := hF.le
  have l : jloop (f_X6_pass_b152 (some 60) (nI (pset (rcd b D) n))) jfuel (fold (cwF b D E) 0 0 0, nI 0) (HP (setR (uV b 61 19 (nI (rj b n D E 0))) 61 13 (f1 b V D F c) 0)) = some (.inr (cntW b n D E, HP (setR (uV b 61 19 (nI (rj b n D E n))) 61 13 (f1 b V D F c) n))) := by
    refine jseq (n := n) (x := cntW b n D E) (fun j => (fold (cwF b D E) j 0 0, nI j)) (fun j => HP (setR (uV b 61 19 (nI (rj b n D E j))) 61 13 (f1 b V D F c) j)) ?_ (fun j hj => ?_) n jfuel 0 (by omega) (by unfold jfuel; omega)
    · have hF' : InvF (setR (uV b 61 19 (nI (rj b n D E n))) 61 13 (f1 b V D F c) n) n := InvF_N ((SameN.uV (by unfold TwA; omega)).trans (SameN.uA (by unfold TwA; omega))) hF
      simp only [f_X6_pass_b152, gI_60_1, Option.bind_some, hF'.2.1, if_pos (nI_le (Nat.le_refl n) (show n < 2 ^ 31 by omega)), cntW]
    · have hNr : ∀ r, SameN b (setR (uV b 61 19 r) 61 13 (f1 b V D F c) j) := fun r => (SameN.uV (by unfold TwA; omega)).trans (SameN.uA (by unfold TwA; omega))
      have hFr := fun r => InvF_N (hNr r) hF
      have e73 : ∀ r, sV (setR (uV b 61 19 r) 61 13 (f1 b V D F c) j) 73 j = c j := fun r => by rw [sV_setRne (by omega), sV_uVne (by omega)]; exact hc j hj
      have e63 : ∀ r, sV (setR (uV b 61 19 r) 61 13 (f1 b V D F c) j) 63 j = sV b 63 j := fun r => by rw [sV_setRne (by omega), sV_uVne (by omega)]
      have lo : ∀ r i, i < 13 ∨ i = 13 + j → sV (setR (uV b 61 19 r) 61 13 (f1 b V D F c) j) 61 i = sV b 61 i := fun r i hi => by rw [sV_setRout (by omega), sV_uV, if_pos rfl, if_neg (by omega)]
      have e19 : ∀ r, sV (setR (uV b 61 19 r) 61 13 (f1 b V D F c) j) 61 19 = r := fun r => by rw [sV_setRout (by omega), sV_uV, if_pos rfl, if_pos rfl]
      obtain ⟨v1, v2, v3, v4⟩ := hC j hj
      have eo : ∀ r, f_X6_owes (some 60) (nI j) (nI (pset (rcd b D) n)) (HP (setR (uV b 61 19 r) 61 13 (f1 b V D F c) j)) = some (if owD b V D j then 1 else 0, HP (setR (uV b 61 19 r) 61 13 (f1 b V D F c) j)) := fun r => by
        have := p6_owesD (D := D) (V := V) (hFr r) hj (by rw [lo r _ (by omega)]; exact v1) v2
        rw [(wN (hNr r)).1, (wN (hNr r)).2.1] at this
        exact this
      have e7 : ∀ r, sV (setR (uV b 61 19 r) 61 13 (f1 b V D F c) j) 61 (7 + j) = nI (E j) := fun r => by rw [lo r _ (by omega)]; exact v3
      have e13 : ∀ r, sV (setR (uV b 61 19 r) 61 13 (f1 b V D F c) j) 61 (13 + j) = F j := fun r => by rw [lo r _ (by omega)]; exact v4
      have hu : ∀ r w, uV (setR (uV b 61 19 r) 61 13 (f1 b V D F c) j) 61 19 w = setR (uV b 61 19 w) 61 13 (f1 b V D F c) j := fun r w => setR_uV (by omega) r w
      have h1 : ∀ r v, v = f1 b V D F c j → uV (setR (uV b 61 19 r) 61 13 (f1 b V D F c) j) 61 (13 + j) v = setR (uV b 61 19 r) 61 13 (f1 b V D F c) (j + 1) := fun r v hv => by rw [hv, setR_1]
      have fin : ∀ (r : Int32) (x y : Int32), f_X6_pass_b152_j226 (some 60) (nI (pset (rcd b D) n)) (nI j) y x (HP (setR (uV b 61 19 r) 61 13 (f1 b V D F c) j)) = some (.inr (.inr ((x + y, nI (j + 1)), HP (setR (uV b 61 19 r) 61 13 (f1 b V D F c) (j + 1))))) := fun r x y => by
        simp only [f_X6_pass_b152_j226, f_X6_pass_b152_j261, f_X6_pass_b152_j262, gR_60_0, Option.bind_some, e13p, g61 _ (show 13 + j < 3120 by omega), e13, gR_60_23, g73 _ (show j < 6 by omega), e73, qO_60, if_true, eo, s61 _ (show 13 + j < 3120 by omega), nI_1, Int32.add_zero]
        by_cases c1 : c j = 2
        · rw [if_pos c1, h1 r _ (by unfold f1; rw [if_pos c1])]
        · rw [if_neg c1]
          cases c2 : owD b V D j with
          | true =>
            simp only [if_true, n10, if_false]
            rw [h1 r _ (by unfold f1; rw [if_neg c1, c2]; rfl)]
          | false =>
            simp only [if_true, Bool.false_eq_true, if_false]
            rw [h1 r _ (by unfold f1; rw [if_neg c1, c2]; rfl)]
      have hlt : rj b n D E j < 64 := rj_lt h6 (by omega)
      have rs : rj b n D E (j + 1) = rjF b D E j (rj b n D E j) := fold_s _ _ _
      have cs : fold (cwF b D E) (j + 1) 0 0 = cwF b D E j (fold (cwF b D E) j 0 0) := fold_s _ _ _
      rw [rs, cs]
      have el : (nI (E j) < sV b 63 j) = ¬ (rcd b E j = true) := propext (by unfold rcd; rw [decide_eq_true_eq]; exact i32_nlt)
      simp only [f_X6_pass_b152, f_X6_pass_b152_j190, f_X6_pass_b152_j191, f_X6_pass_b152_j213, gI_60_1, Option.bind_some, (hFr _).2.1, if_neg (nI_ge hj (show n < 2 ^ 31 by omega)), p6_hasR h6 hj, gR_60_0, gR_60_3, e7p, g61 _ (show 7 + j < 3120 by omega), e7, g63 _ (show j < 6 by omega), e63, el, gA19, e19, sA19, hu, fin, if_true, n10, if_false, Int32.or_zero, Int32.add_zero, or_dec _ hlt j (show j < 6 by omega)]
      unfold rjF cwF
      cases rcd b D j with
      | true => simp only [if_true, n10, if_false, Bool.not_true, Bool.false_and, Bool.false_eq_true]
      | false =>
        cases rcd b E j with
        | true => simp only [if_true, not_true_eq_false, if_false, Bool.not_false, Bool.true_and, Bool.false_eq_true]
        | false => simp only [if_true, not_false_eq_true, if_false, Bool.not_false, Bool.true_and, Bool.false_eq_true]
  have e0 : setR (uV b 61 19 (nI (rj b n D E 0))) 61 13 (f1 b V D F c) 0 = b := by
    rw [setR_0]
    refine ST_ext (fun _ => rfl) rfl (fun j i => ?_) rfl
    rw [sV_uV]
    by_cases e : j = 61
    · subst e
      by_cases ei : i = 19
      · rw [if_pos rfl, if_pos ei, ei, hr]; rfl
      · rw [if_pos rfl, if_neg ei]
    · rw [if_neg e]
  rw [e0] at l
  exact l
def wk6 (s : ST) (n t : Nat) (V : Nat → Int32) (D : Nat → Nat) (F c : Nat → Int32) : ST := setR (uV (setR (pst s t) 61 7 (fun p => nI (d2 s n V D c p)) n) 61 19 (nI (pset (rcd s (d2 s n V D c)) n))) 61 13 (f1 s V D F c) n
theorem p6_pass {s : ST} {n t : Nat} {V : Nat → Int32} {D : Nat → Nat} {F c : Nat → Int32} (hF : InvF s n) (ht : t < 40) (hC : RS s n t V D F) (hc : ∀ p, p < n → sV s 73 p = c p) (h2 : ∀ p, p < n → c p = 2 → V p ≠ -9) : f_X6_pass (some 60) (HP s) = some (cntW s n D (d2 s n V D c), HP (wk6 s n t V D F c)) := by
  have h6 := hF.le
  have hNb := pst_N s t
  have hFb := InvF_N hNb hF
  obtain ⟨b1, b2, b3, b4, b5, b6, b7, b8⟩ := wN hNb
  have z : ∀ j, 1 ≤ j → j < 20 → sV (pst s t) 61 j = sV s 61 j := fun j x1 x2 => by rw [pst_V, if_neg (by omega), if_neg (by omega)]
  have hCb : RS (pst s t) n (t + 1) V D F := ⟨by rw [pst_V, if_pos rfl], fun p hp => by
    obtain ⟨q1, q2, q3, q4, q5⟩ := hC.2.1 p hp
    exact ⟨by rw [z _ (by omega) (by omega)]; exact q1, q2, by rw [z _ (by omega) (by omega)]; exact q3, q4, by rw [z _ (by omega) (by omega)]; exact q5⟩, by rw [z _ (by omega) (by omega), b1]; exact hC.2.2⟩
  have hcb : ∀ p, p < n → sV (pst s t) 73 p = c p := fun p hp => by rw [pst_Vne s t (by omega)]; exact hc p hp
  have l1 := p6_deeds1 hFb hCb hcb
  have l2 := p6_deeds2 hFb hCb hcb h2
  rw [b1] at l1 l2
  rw [b3] at l1 l2
  rw [b5] at l2
  have hN1 : SameN (pst s t) (setR (pst s t) 61 7 (fun p => nI (d2 s n V D c p)) n) := SameN.uA (by unfold TwA; omega)
  have hF1 := InvF_N hN1 hFb
  obtain ⟨m1, m2, m3, m4, m5, m6, m7, m8⟩ := wN (hNb.trans hN1)
  have l3 := p6_third (b := setR (pst s t) 61 7 (fun p => nI (d2 s n V D c p)) n) (V := V) (D := D) (E := d2 s n V D c) (F := F) (c := c) hF1 (fun p hp => by
    obtain ⟨q1, q2, q3, q4, q5⟩ := hCb.2.1 p hp
    exact ⟨by rw [sV_setRout (by omega)]; exact q1, q2, sV_setRin hp, by rw [sV_setRout (by omega)]; exact q5⟩) (by rw [sV_setRout (by omega), m1, hCb.2.2, b1]) (fun p hp => by rw [sV_setRne (by omega)]; exact hcb p hp)
  have er : rj (setR (pst s t) 61 7 (fun p => nI (d2 s n V D c p)) n) n D (d2 s n V D c) n = pset (rcd s (d2 s n V D c)) n := by
    have : rj (setR (pst s t) 61 7 (fun p => nI (d2 s n V D c p)) n) n D (d2 s n V D c) n = rj s n D (d2 s n V D c) n := by
      unfold rj rjF
      rw [m1]
    rw [this, rj_n]
  rw [er, m1, m6, m8] at l3
  have eg : sV (pst s t) 61 19 = nI (pset (rcd s D) n) := by rw [hCb.2.2, b1]
  unfold wk6
  simp only [f_X6_pass, qO_60, if_true, p6_past ht hC.1, Option.bind_some, gR_60_0, gA19, eg, l1, l2, l3]
