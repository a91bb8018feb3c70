/-! ===== runs of weeks; week, lots ===== -/
def Dk (s : ST) (n : Nat) (V : Nat → Int32) (D : Nat → Nat) (c : Nat → Nat → Int32) : Nat → Nat → Nat
  | 0 => D
  | k + 1 => d2 s n V (Dk s n V D c k) (c k)
def Fk (s : ST) (n : Nat) (V : Nat → Int32) (D : Nat → Nat) (F : Nat → Int32) (c : Nat → Nat → Int32) : Nat → Nat → Int32
  | 0 => F
  | k + 1 => f1 s V (Dk s n V D c k) (Fk s n V D F c k) (c k)
theorem Dk_le {s : ST} {n : Nat} {V : Nat → Int32} {D : Nat → Nat} {c : Nat → Nat → Int32} (hF : InvF s n) (hD : ∀ p, p < n → D p ≤ 9) : ∀ k p, p < n → Dk s n V D c k p ≤ 9
  | 0, p, hp => hD p hp
  | k + 1, p, hp => d2_le hF (fun q hq => Dk_le hF hD k q hq) p hp
/-- the class behind k weeks -/
def C5 (s : ST) (n t : Nat) (V : Nat → Int32) (D : Nat → Nat) (F : Nat → Int32) (c : Nat → Nat → Int32) (k : Nat) (s' : ST) : Prop :=
  SameN s s' ∧ sV s' 61 = sV s 61 ∧ (∀ a, 48 ≤ a → a < 60 → sV s' a = sV s a) ∧ (∀ a, 1536 ≤ a → a < 1920 → sI s' a = sI s a) ∧ sI s' 163 = nI (t + k) ∧
  (∀ a, 6 ≤ a → a ≤ 8 → ∀ j, j < 6 * t → sV s' a j = sV s a j) ∧ (∀ i, i ≤ k → ∀ p, p < 6 → sV s' 6 (6 * (t + i) + p) = sV s 6 (6 * t + p)) ∧
  ∀ i, i ≤ k → ∀ p, p < n → sV s' 7 (6 * (t + i) + p) = nI (Dk s n V D c i p) ∧ sV s' 8 (6 * (t + i) + p) = Fk s n V D F c i p
theorem C5_S {s s' s'' : ST} {n t k : Nat} {V : Nat → Int32} {D : Nat → Nat} {F : Nat → Int32} {c : Nat → Nat → Int32} (h : C5 s n t V D F c k s') (hS : SameS s' s'') : C5 s n t V D F c k s'' := by
  obtain ⟨h1, h2, h3, h4, h5, h6, h7, h8⟩ := h
  have e6 : sV s'' 6 = sV s' 6 := S_V hS (by unfold ScA; omega)
  have e7 : sV s'' 7 = sV s' 7 := S_V hS (by unfold ScA; omega)
  have e8 : sV s'' 8 = sV s' 8 := S_V hS (by unfold ScA; omega)
  refine ⟨h1.trans (S_N hS), (S_V hS (by unfold ScA; omega)).trans h2, fun a a1 a2 => (S_V hS (by unfold ScA; omega)).trans (h3 a a1 a2), fun a a1 a2 => (hS.2.2.2 a (by unfold ScI; omega)).trans (h4 a a1 a2), (hS.2.2.2 163 (by unfold ScI; omega)).trans h5, fun a a1 a2 j hj => by rw [S_V hS (by unfold ScA; omega)]; exact h6 a a1 a2 j hj, fun i hi p hp => by rw [e6]; exact h7 i hi p hp, fun i hi p hp => by rw [e7, e8]; exact h8 i hi p hp⟩
theorem C5_0 {s : ST} {n t : Nat} {V : Nat → Int32} {D : Nat → Nat} {F : Nat → Int32} {c : Nat → Nat → Int32} (hC : CS s n t V D F) : C5 s n t V D F c 0 s :=
  ⟨SameN.rf s, rfl, fun _ _ _ => rfl, fun _ _ _ => rfl, hC.2.1, fun _ _ _ _ _ => rfl, fun i hi p hp => by rw [show t + i = t by omega], fun i hi p hp => by
    rw [show i = 0 by omega]
    obtain ⟨-, -, q3, -, q5⟩ := hC.2.2 p hp
    exact ⟨q3, q5⟩⟩
theorem C5_step {s s' : ST} {n t k : Nat} {V : Nat → Int32} {D : Nat → Nat} {F : Nat → Int32} {c : Nat → Nat → Int32} (hF : InvF s n) (hC : CS s n t V D F) (h : C5 s n t V D F c k s') (ht : t + k < 40) (hc : ∀ p, p < n → sV s' 14 p = c k p) : ∃ s'', f_X5_passWeek (some 0) (HP s') = some (cntW s n (Dk s n V D c k) (Dk s n V D c (k + 1)), HP s'') ∧ C5 s n t V D F c (k + 1) s'' := by
  have h6 := hF.le
  obtain ⟨g1, g2, g3, g4, g5, g6, g7, g8⟩ := h
  have hF' := InvF_N g1 hF
  obtain ⟨m1, m2, m3, m4, m5, m6, m7, m8⟩ := wN g1
  have hC' : CS s' n (t + k) V (Dk s n V D c k) (Fk s n V D F c k) := ⟨by omega, g5, fun p hp => by
    obtain ⟨q1, q2, q3, q4, q5⟩ := hC.2.2 p hp
    exact ⟨by rw [g7 k (Nat.le_refl k) p (by omega)]; exact q1, q2, (g8 k (Nat.le_refl k) p hp).1, Dk_le hF (fun p hp => (hC.2.2 p hp).2.2.2.1) k p hp, (g8 k (Nat.le_refl k) p hp).2⟩⟩
  have l := p5_pass hF' ht hC' hc
  rw [m5, m8] at l
  refine ⟨_, l, ?_⟩
  have hN2 : SameN s' (wk5 s' n (t + k) V (Dk s n V D c k) (Fk s n V D F c k) (c k)) := ((bgn_N s' (t + k)).trans (SameN.uA (by unfold TwA; omega))).trans (SameN.uA (by unfold TwA; omega))
  have vne : ∀ a, a < 6 ∨ 8 < a → sV (wk5 s' n (t + k) V (Dk s n V D c k) (Fk s n V D F c k) (c k)) a = sV s' a := fun a ha => by unfold wk5; rw [sV_setRne (by omega), sV_setRne (by omega), bgn_Vne _ _ ha]
  have old : ∀ a, 6 ≤ a → a ≤ 8 → ∀ j, j < 6 * (t + k + 1) → sV (wk5 s' n (t + k) V (Dk s n V D c k) (Fk s n V D F c k) (c k)) a j = sV s' a j := fun a a1 a2 j hj => by
    unfold wk5
    rw [sV_setR]
    by_cases e7 : a = 7
    · subst e7
      rw [if_pos rfl, if_neg (by omega), sV_setRne (by omega), bgn_V _ _ (by omega) (by omega), if_neg (by omega)]
    · rw [if_neg e7, sV_setR]
      by_cases e8 : a = 8
      · subst e8
        rw [if_pos rfl, if_neg (by omega), bgn_V _ _ (by omega) (by omega), if_neg (by omega)]
      · rw [if_neg e8, bgn_V _ _ a1 a2, if_neg (by omega)]
  refine ⟨g1.trans hN2, (vne 61 (by omega)).trans g2, fun a a1 a2 => (vne a (by omega)).trans (g3 a a1 a2), fun a a1 a2 => ?_, ?_, fun a a1 a2 j hj => (old a a1 a2 j (by omega)).trans (g6 a a1 a2 j hj), fun i hi p hp => ?_, fun i hi p hp => ?_⟩
  · rw [← g4 a a1 a2]
    exact bgn_I s' (t + k) (by omega)
  · exact bgn_163 s' (t + k)
  · by_cases e : i = k + 1
    · subst e
      unfold wk5
      rw [sV_setRne (by omega), sV_setRne (by omega), bgn_V _ _ (by omega) (by omega), if_pos (by omega), show 6 * (t + k) + (6 * (t + (k + 1)) + p - (6 * (t + k) + 6)) = 6 * (t + k) + p by omega]
      exact g7 k (Nat.le_refl k) p hp
    · rw [old 6 (by omega) (by omega) _ (by omega)]
      exact g7 i (by omega) p hp
  · by_cases e : i = k + 1
    · subst e
      unfold wk5
      rw [show 6 * (t + (k + 1)) + p = 6 * (t + k + 1) + p by omega]
      refine ⟨?_, ?_⟩
      · rw [sV_setRin hp, m5]; rfl
      · rw [sV_setRne (by omega), sV_setRin hp, m6]; rfl
    · rw [old 7 (by omega) (by omega) _ (by omega), old 8 (by omega) (by omega) _ (by omega)]
      exact g8 i (by omega) p hp
/-- a sheet of the reference -/
def sh6 (s : ST) (n : Nat) (V : Nat → Int32) (D : Nat → Nat) (F : Nat → Int32) (c : Nat → Nat → Int32) (s' : ST) (b i : Nat) : Prop := (∀ p, p < n → sV s' 61 (b + p) = V p ∧ sV s' 61 (b + 6 + p) = nI (Dk s n V D c i p) ∧ sV s' 61 (b + 12 + p) = Fk s n V D F c i p) ∧ sV s' 61 (b + 18) = nI (pset (rcd s (Dk s n V D c i)) n)
theorem sh6_of {s s' s'' : ST} {n b b' i : Nat} {V : Nat → Int32} {D : Nat → Nat} {F : Nat → Int32} {c : Nat → Nat → Int32} (h6 : n ≤ 6) (h : sh6 s n V D F c s' b i) (e : ∀ j, j < 19 → sV s'' 61 (b' + j) = sV s' 61 (b + j)) : sh6 s n V D F c s'' b' i := by
  refine ⟨fun p hp => ?_, by rw [e 18 (by omega)]; exact h.2⟩
  obtain ⟨q1, q2, q3⟩ := h.1 p hp
  have e6 := e (6 + p) (by omega)
  have e12 := e (12 + p) (by omega)
  rw [← Nat.add_assoc, ← Nat.add_assoc] at e6 e12
  exact ⟨by rw [e p (by omega)]; exact q1, by rw [e6]; exact q2, by rw [e12]; exact q3⟩
/-- the reference behind k weeks, from s1 on -/
def C6 (s : ST) (n t : Nat) (V : Nat → Int32) (D : Nat → Nat) (F : Nat → Int32) (c : Nat → Nat → Int32) (s1 : ST) (k : Nat) (s' : ST) : Prop :=
  SameN s1 s' ∧ (∀ a, 6 ≤ a ∧ a ≤ 8 ∨ 48 ≤ a ∧ a < 60 → sV s' a = sV s1 a) ∧ (sI s' = sI s1) ∧ sV s' 61 0 = nI (t + k) ∧ (∀ j, 20 ≤ j ∧ j < 20 + 19 * t ∨ 780 ≤ j → sV s' 61 j = sV s1 61 j) ∧
  (∀ i, i < k → sh6 s n V D F c s' (20 + 19 * (t + i)) i) ∧ sh6 s n V D F c s' 1 k
theorem C6_74 {s s1 s' s'' : ST} {n t k : Nat} {V : Nat → Int32} {D : Nat → Nat} {F : Nat → Int32} {c : Nat → Nat → Int32} (h6 : n ≤ 6) (h : C6 s n t V D F c s1 k s') (hS : SameS s' s'') (hI : sI s'' = sI s') : C6 s n t V D F c s1 k s'' := by
  obtain ⟨h1, h2, h3, h4, h5, h7, h8⟩ := h
  have e : sV s'' 61 = sV s' 61 := S_V hS (by unfold ScA; omega)
  exact ⟨h1.trans (S_N hS), fun a ha => (S_V hS (by unfold ScA; omega)).trans (h2 a ha), hI.trans h3, by rw [e]; exact h4, fun j hj => by rw [e]; exact h5 j hj, fun i hi => sh6_of h6 (h7 i hi) (fun j _ => by rw [e]), sh6_of h6 h8 (fun j _ => by rw [e])⟩
theorem C6_step {s s1 s' : ST} {n t k : Nat} {V : Nat → Int32} {D : Nat → Nat} {F : Nat → Int32} {c : Nat → Nat → Int32} (hF : InvF s n) (hC : CS s n t V D F) (hN1 : SameN s s1) (h : C6 s n t V D F c s1 k s') (ht : t + k < 40) (hc : ∀ p, p < n → sV s' 73 p = c k p) (h2 : ∀ p, p < n → c k p = 2 → V p ≠ -9) : ∃ s'', f_X6_pass (some 60) (HP s') = some (cntW s n (Dk s n V D c k) (Dk s n V D c (k + 1)), HP s'') ∧ C6 s n t V D F c s1 (k + 1) s'' := by
  have h6 := hF.le
  obtain ⟨g1, g2, g3, g4, g5, g7, g8⟩ := h
  have hN' := hN1.trans g1
  have hF' := InvF_N hN' hF
  obtain ⟨m1, m2, m3, m4, m5, m6, m7, m8⟩ := wN hN'
  have hR : RS s' n (t + k) V (Dk s n V D c k) (Fk s n V D F c k) := ⟨g4, fun p hp => by
    obtain ⟨q1, q2, q3, q4, q5⟩ := hC.2.2 p hp
    obtain ⟨r1, r2, r3⟩ := g8.1 p hp
    exact ⟨r1, q2, by rw [show 7 + p = 1 + 6 + p by omega]; exact r2, Dk_le hF (fun p hp => (hC.2.2 p hp).2.2.2.1) k p hp, by rw [show 13 + p = 1 + 12 + p by omega]; exact r3⟩, by rw [m1]; exact g8.2⟩
  have l := p6_pass hF' ht hR hc h2
  rw [m5, m8] at l
  refine ⟨_, l, ?_⟩
  have vne : ∀ a, a ≠ 61 → sV (wk6 s' n (t + k) V (Dk s n V D c k) (Fk s n V D F c k) (c k)) a = sV s' a := fun a ha => by unfold wk6; rw [sV_setRne ha, sV_uVne ha, sV_setRne ha, pst_Vne _ _ ha]
  have hi : ∀ j, 20 ≤ j → sV (wk6 s' n (t + k) V (Dk s n V D c k) (Fk s n V D F c k) (c k)) 61 j = sV (pst s' (t + k)) 61 j := fun j hj => by unfold wk6; rw [sV_setRout (by omega), sV_uV, if_pos rfl, if_neg (by omega), sV_setRout (by omega)]
  have hN2 : SameN s' (wk6 s' n (t + k) V (Dk s n V D c k) (Fk s n V D F c k) (c k)) := (((pst_N s' (t + k)).trans (SameN.uA (by unfold TwA; omega))).trans (SameN.uV (by unfold TwA; omega))).trans (SameN.uA (by unfold TwA; omega))
  refine ⟨g1.trans hN2, fun a ha => (vne a (by omega)).trans (g2 a ha), by rw [← g3]; rfl, ?_, fun j hj => ?_, fun i hi' => ?_, ?_⟩
  · unfold wk6
    rw [sV_setRout (by omega), sV_uV, if_pos rfl, if_neg (by omega), sV_setRout (by omega), pst_V, if_pos rfl]
    rfl
  · rw [hi j (by omega), pst_V, if_neg (by omega), if_neg (by omega)]
    exact g5 j hj
  · by_cases e : i = k
    · subst e
      refine sh6_of h6 g8 (fun j hj => ?_)
      rw [hi _ (by omega), pst_V, if_neg (by omega), if_pos (by omega), show 1 + (20 + 19 * (t + i) + j - (20 + 19 * (t + i))) = 1 + j by omega]
    · refine sh6_of h6 (g7 i (by omega)) (fun j hj => ?_)
      rw [hi _ (by omega), pst_V, if_neg (by omega), if_neg (by omega)]
  · refine ⟨fun p hp => ?_, ?_⟩
    · unfold wk6
      refine ⟨?_, ?_, ?_⟩
      · rw [sV_setRout (by omega), sV_uV, if_pos rfl, if_neg (by omega), sV_setRout (by omega), pst_V, if_neg (by omega), if_neg (by omega)]
        exact (g8.1 p hp).1
      · rw [sV_setRout (by omega), sV_uV, if_pos rfl, if_neg (by omega), show 1 + 6 + p = 7 + p by omega, sV_setRin hp, m5]
        rfl
      · rw [show 1 + 12 + p = 13 + p by omega, sV_setRin hp, m6]
        rfl
    · unfold wk6
      rw [sV_setRout (by omega), sV_uV, if_pos rfl, if_pos rfl, m5, m1]
      rfl
/-- behind k weeks on both sides the invariant holds -/
theorem inv_run {s s1 s2 : ST} (hI : Inv s) {n t k : Nat} {V : Nat → Int32} {D : Nat → Nat} {F : Nat → Int32} {c : Nat → Nat → Int32} (hF : InvF s n) (hS : InvS s n 6 7 8 t 1) (hP : ∀ u, u < t → InvS s n 6 7 8 u (20 + 19 * u)) (hK : InvK s n) (hC : CS s n t V D F) (hV : V = fun p => sV s 61 (1 + p)) (h5 : C5 s n t V D F c k s1) (h6' : C6 s n t V D F c s1 k s2) (htk : t + k ≤ 40) : Inv s2 := by
  have h6 := hF.le
  obtain ⟨g1, g2, g3, g4, g5, g6, g7, g8⟩ := h5
  obtain ⟨f1', f2, f3, f4, f5, f7, f8⟩ := h6'
  have hN := g1.trans f1'
  have e63 := s63_N hN
  obtain ⟨a1, a2, a3, a4, a5, r, r1, r2, r3⟩ := hS
  have c6 : sV s2 6 = sV s1 6 := f2 6 (by omega)
  have c7 : sV s2 7 = sV s1 7 := f2 7 (by omega)
  have c8 : sV s2 8 = sV s1 8 := f2 8 (by omega)
  have sheet : ∀ i b, i ≤ k → sh6 s n V D F c s2 b i → InvS s2 n 6 7 8 (t + i) b := fun i b hi hb => by
    have ev : ∀ p, p < n → sV s2 61 (b + p) = sV s 61 (1 + p) := fun p hp => by rw [(hb.1 p hp).1, hV]
    refine ⟨fun p hp => ?_, fun p b1 b2 => ?_, fun p q hp hq => ?_, fun p hp => ⟨Dk s n V D c i p, Dk_le hF (fun p hp => (hC.2.2 p hp).2.2.2.1) i p hp, ?_, (hb.1 p hp).2.1⟩, fun p hp => ?_, pset (rcd s (Dk s n V D c i)) n, pset_pow _ n, hb.2, fun p hp => ?_⟩
    · rw [ev p hp, c6, g7 i hi p (by omega)]
      exact a1 p hp
    · rw [c6, g7 i hi p b2]
      exact a2 p b1 b2
    · rw [ev p hp, ev q hq]
      exact a3 p q hp hq
    · rw [c7]; exact (g8 i hi p hp).1
    · rw [c8, (hb.1 p hp).2.2]; exact (g8 i hi p hp).2
    · rw [pset_tb, e63, (hb.1 p hp).2.1]
      simp only [hp, decide_true, Bool.true_and]
      unfold rcd
      rw [decide_eq_true_eq]
  refine ⟨⟨n, InvF_N hN hF, ⟨t + k, htk, ?_, f4, sheet k 1 (Nat.le_refl k) f8, fun u hu => ?_⟩, ?_⟩, InvR_N hN hI.2.1, InvM_N hN hI.2.2⟩
  · show sI s2 163 = nI (t + k)
    rw [f3]
    exact g5
  · show InvS s2 n 6 7 8 u (0 + 20 + 19 * u)
    rw [show 0 + 20 + 19 * u = 20 + 19 * u by omega]
    by_cases e : u < t
    · refine InvS_of h6 (hP u e) (fun p hp => ?_) (fun p hp => ?_) (fun p hp => ?_) (fun j hj => ?_) e63
      · rw [c6]; exact g6 6 (by omega) (by omega) _ (by omega)
      · rw [c7]; exact g6 7 (by omega) (by omega) _ (by omega)
      · rw [c8]; exact g6 8 (by omega) (by omega) _ (by omega)
      · rw [f5 _ (by omega), g2]
    · have := sheet (u - t) (20 + 19 * u) (by omega) (by
        have := f7 (u - t) (by omega)
        rwa [show t + (u - t) = u by omega] at this)
      rwa [show t + (u - t) = u by omega] at this
  · refine InvK_of h6 hK (fun a a1 a2 => ?_) (fun a a1 a2 => ?_) (fun j hj => ?_) e63
    · rw [f2 a (by omega)]; exact g3 a a1 a2
    · rw [f3]; exact g4 a a1 a2
    · rw [f5 j (by omega), g2]
theorem run_start {s : ST} {n t : Nat} (hF : InvF s n) (ht : t ≤ 40) (hs : sI s 163 = nI t) (hS : InvS s n 6 7 8 t 1) : CS s n t (fun p => sV s 61 (1 + p)) (fun p => (sV s 61 (7 + p)).toNatClampNeg) (fun p => sV s 61 (13 + p)) := by
  have h6 := hF.le
  refine ⟨ht, hs, fun p hp => ?_⟩
  obtain ⟨v1, v2⟩ := hS.1 p hp
  obtain ⟨d, d1', d2', d3⟩ := hS.2.2.2.1 p hp
  rw [show 1 + 6 + p = 7 + p by omega] at d3
  have ef := hS.2.2.2.2.1 p hp
  rw [show 1 + 12 + p = 13 + p by omega] at ef
  exact ⟨v1, v2, by show _ = nI (sV s 61 (7 + p)).toNatClampNeg; rw [d2', d3, nI_clamp (by omega)], by show (sV s 61 (7 + p)).toNatClampNeg ≤ 9; rw [d3, nI_clamp (by omega)]; exact d1', ef⟩
theorem run_start6 {s s1 : ST} {n t : Nat} {c : Nat → Nat → Int32} (hF : InvF s n) (hs0 : sV s 61 0 = nI t) (hS : InvS s n 6 7 8 t 1) (h61 : sV s1 61 = sV s 61) : C6 s n t (fun p => sV s 61 (1 + p)) (fun p => (sV s 61 (7 + p)).toNatClampNeg) (fun p => sV s 61 (13 + p)) c s1 0 s1 := by
  have h6 := hF.le
  refine ⟨SameN.rf s1, fun _ _ => rfl, rfl, by rw [h61]; exact hs0, fun _ _ => rfl, fun i hi => absurd hi (by omega), fun p hp => ?_, ?_⟩
  · obtain ⟨d, d1', d2', d3⟩ := hS.2.2.2.1 p hp
    rw [show 1 + 6 + p = 7 + p by omega] at d3
    rw [h61, show 1 + 6 + p = 7 + p by omega, show 1 + 12 + p = 13 + p by omega]
    exact ⟨rfl, by show _ = nI (sV s 61 (7 + p)).toNatClampNeg; rw [d3, nI_clamp (by omega)], rfl⟩
  · rw [h61]
    show sV s 61 19 = _
    rw [rset_eq hS]
    have : rset s n = pset (rcd s (Dk s n (fun p => sV s 61 (1 + p)) (fun p => (sV s 61 (7 + p)).toNatClampNeg) c 0)) n := by
      apply Nat.eq_of_testBit_eq
      intro i
      unfold rset
      rw [pset_tb, pset_tb]
      by_cases hi : i < n
      · simp only [hi, decide_true, Bool.true_and]
        obtain ⟨d, d1', d2', d3⟩ := hS.2.2.2.1 i hi
        rw [show 1 + 6 + i = 7 + i by omega] at d3
        show _ = decide (sV s 63 i ≤ nI (sV s 61 (7 + i)).toNatClampNeg)
        rw [d3, nI_clamp (by omega)]
      · simp [hi]
    rw [this]
