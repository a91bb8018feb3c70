/-! ===== the reference: the whole TEXT; fault ===== -/
theorem RP_le {s : ST} {b z k : Nat} {a : PSt} (h : RP s b z a k) : sI s 1937 = nI k := h.2.1
theorem skip_loop {b z : Nat} (hb : b < 4) (hz : z ≤ 60) : ∀ (k i f : Nat) (a : PSt) (s : ST), i ≤ z → z ≤ i + k → k < f → RP s b z a i → ∃ s', jloop (f_X6_skip_b0 (some 60)) f () (HP s) = some (.inr ((), HP s')) ∧ SameS s s' ∧ RP s' b z a (sk (fun p => sV s 69 (60 * b + p)) z k i) := by
  intro k
  induction k with
  | zero =>
    intro i f a s h1 h2 hf h
    obtain ⟨f, rfl⟩ : ∃ f', f = f' + 1 := ⟨f - 1, by omega⟩
    refine ⟨s, ?_, SameS.rf s, h⟩
    rw [jloop]
    simp only [f_X6_skip_b0, gI_60_17, gI_60_18, Option.bind_some, h.2.1, h.2.2.1, if_pos (nI_le (show z ≤ i by omega) (show i < 2 ^ 31 by omega))]
  | succ k ih =>
    intro i f a s h1 h2 hf h
    obtain ⟨f, rfl⟩ : ∃ f', f = f' + 1 := ⟨f - 1, by omega⟩
    rw [sk]
    by_cases c1 : i < z
    · by_cases c2 : sV s 69 (60 * b + i) = 32
      · rw [if_pos ⟨c1, c2⟩]
        obtain ⟨s', w1, w2, w3⟩ := ih (i + 1) f a (uI s 1937 (nI (i + 1))) (by omega) (by omega) (by omega) (RP_pl h)
        refine ⟨s', ?_, S_pl.trans w2, w3⟩
        rw [jloop]
        simp only [f_X6_skip_b0, gI_60_17, gI_60_18, Option.bind_some, h.2.1, h.2.2.1, if_neg (nI_ge c1 (show z < 2 ^ 31 by omega)), qO_60, if_true, here6 hb h (show i < 60 by omega), c2, nI_1, sF_60_17]
        exact w1
      · rw [if_neg (fun q => c2 q.2)]
        refine ⟨s, ?_, SameS.rf s, h⟩
        rw [jloop]
        simp only [f_X6_skip_b0, gI_60_17, gI_60_18, Option.bind_some, h.2.1, h.2.2.1, if_neg (nI_ge c1 (show z < 2 ^ 31 by omega)), qO_60, if_true, here6 hb h (show i < 60 by omega), c2, if_false]
    · rw [if_neg (fun q => c1 q.1)]
      refine ⟨s, ?_, SameS.rf s, h⟩
      rw [jloop]
      simp only [f_X6_skip_b0, gI_60_17, gI_60_18, Option.bind_some, h.2.1, h.2.2.1, if_pos (nI_le (show z ≤ i by omega) (show i < 2 ^ 31 by omega))]
theorem skip6 {b z i : Nat} (hb : b < 4) (hz : z ≤ 60) {a : PSt} {s : ST} (hi : i ≤ z) (h : RP s b z a i) : ∃ s', f_X6_skip (some 60) (HP s) = some ((), HP s') ∧ SameS s s' ∧ RP s' b z a (sk (fun p => sV s 69 (60 * b + p)) z (z - i) i) := by
  by_cases c1 : i < z
  · rw [show z - i = (z - i - 1) + 1 by omega, sk]
    by_cases c2 : sV s 69 (60 * b + i) = 32
    · rw [if_pos ⟨c1, c2⟩]
      obtain ⟨s', w1, w2, w3⟩ := skip_loop hb hz (z - i - 1) (i + 1) jfuel a (uI s 1937 (nI (i + 1))) (by omega) (by omega) (by unfold jfuel; omega) (RP_pl h)
      refine ⟨s', ?_, S_pl.trans w2, w3⟩
      simp -implicitDefEqProofs only [f_X6_skip, gI_60_17, gI_60_18, Option.bind_some, h.2.1, h.2.2.1, if_neg (nI_ge c1 (show z < 2 ^ 31 by omega)), qO_60, if_true, here6 hb h (show i < 60 by omega), c2, nI_1, sF_60_17, w1]
    · rw [if_neg (fun q => c2 q.2)]
      refine ⟨s, ?_, SameS.rf s, h⟩
      simp -implicitDefEqProofs only [f_X6_skip, gI_60_17, gI_60_18, Option.bind_some, h.2.1, h.2.2.1, if_neg (nI_ge c1 (show z < 2 ^ 31 by omega)), qO_60, if_true, here6 hb h (show i < 60 by omega), c2, if_false]
  · rw [show z - i = 0 by omega]
    refine ⟨s, ?_, SameS.rf s, h⟩
    simp -implicitDefEqProofs only [f_X6_skip, gI_60_17, gI_60_18, Option.bind_some, h.2.1, h.2.2.1, if_pos (nI_le (show z ≤ i by omega) (show i < 2 ^ 31 by omega))]
theorem W_S {s s' : ST} (h : SameS s s') (b : Nat) : (fun p => sV s' 69 (60 * b + p)) = fun p => sV s 69 (60 * b + p) := by rw [S_V h (by unfold ScA; omega)]
theorem items6 {b z : Nat} (hb : b < 4) (hz : z ≤ 60) {W : Nat → Int32} : ∀ (k i f : Nat) (a : PSt) (s : ST), (fun p => sV s 69 (60 * b + p)) = W → z ≤ i + k → i ≤ z → (i = z ∨ W i ≠ 32) → k + 2 < f → RP s b z a i → PI a → ∃ s', jloop (f_X6_faultOf_b60 (some 60)) f 1 (HP s) = some (.inr (r01 (RA W z i a), HP s')) ∧ SameS s s' ∧ (∀ x, RA W z i a = .inl x → sI s' 1937 = nI x) ∧ ∀ a', RA W z i a = .inr a' → RP s' b z a' z := by
  intro k
  induction k with
  | zero =>
    intro i f a s hW hk hi hn hf h hP
    obtain ⟨f, rfl⟩ : ∃ f', f = f' + 1 := ⟨f - 1, by omega⟩
    have e : i = z := by omega
    subst e
    rw [RA_end (Nat.le_refl i)]
    refine ⟨s, ?_, SameS.rf s, (fun x q => by cases q), fun a' q => by cases q; exact h⟩
    rw [jloop]
    simp only [f_X6_faultOf_b60, n10, if_false, gI_60_17, gI_60_18, Option.bind_some, h.2.1, h.2.2.1, if_pos (nI_le (Nat.le_refl i) (show i < 2 ^ 31 by omega)), r01]
  | succ k ih =>
    intro i f a s hW hk hi hn hf h hP
    obtain ⟨f, rfl⟩ : ∃ f', f = f' + 1 := ⟨f - 1, by omega⟩
    by_cases e : i = z
    · subst e
      rw [RA_end (Nat.le_refl i)]
      refine ⟨s, ?_, SameS.rf s, (fun x q => by cases q), fun a' q => by cases q; exact h⟩
      rw [jloop]
      simp only [f_X6_faultOf_b60, n10, if_false, gI_60_17, gI_60_18, Option.bind_some, h.2.1, h.2.2.1, if_pos (nI_le (Nat.le_refl i) (show i < 2 ^ 31 by omega)), r01]
    · have hlt : i < z := by omega
      have h32 : W i ≠ 32 := hn.resolve_left e
      have hh := here6 hb h (show i < 60 by omega)
      have hWi : sV s 69 (60 * b + i) = W i := by rw [← hW]
      rw [hWi] at hh
      -- one item
      have item : ∃ s1, f_X6_faultOf_b60 (some 60) 1 (HP s) = f_X6_faultOf_b60_j95 (some 60) (r01 (rdI W z i a)) (HP s1) ∧ SameS s s1 ∧ (∀ x, rdI W z i a = .inl x → sI s1 1937 = nI x) ∧ ∀ a', rdI W z i a = .inr a' → RP s1 b z a' (i + wid (W i)) := by
        unfold rdI wid
        by_cases c : W i = 111
        · obtain ⟨s1, w1, w2, w3, w4⟩ := rdl6 hb h hz hlt hP
          rw [hW] at w1 w3 w4
          simp only [if_neg h32, if_pos c]
          refine ⟨s1, ?_, w2, w3, w4⟩
          simp -implicitDefEqProofs only [f_X6_faultOf_b60, n10, if_false, gI_60_17, gI_60_18, Option.bind_some, h.2.1, h.2.2.1, if_neg (nI_ge hlt (show z < 2 ^ 31 by omega)), qO_60, if_true, hh, c, w1]
        · obtain ⟨s1, w1, w2, w3, w4⟩ := rdp6 hb h hz hlt hP
          rw [hW] at w1 w3 w4
          simp only [if_neg h32, if_neg c]
          refine ⟨s1, ?_, w2, w3, w4⟩
          simp -implicitDefEqProofs only [f_X6_faultOf_b60, n10, if_false, gI_60_17, gI_60_18, Option.bind_some, h.2.1, h.2.2.1, if_neg (nI_ge hlt (show z < 2 ^ 31 by omega)), qO_60, if_true, hh, c, w1]
      obtain ⟨s1, w1, w2, w3, w4⟩ := item
      rw [RA_step hlt]
      cases hr : rdI W z i a with
      | inl x =>
        rw [hr] at w1
        obtain ⟨f, rfl⟩ : ∃ f', f = f' + 1 := ⟨f - 1, by omega⟩
        refine ⟨s1, ?_, w2, fun x' q => by cases q; exact w3 x hr, fun a' q => by cases q⟩
        rw [jloop, w1]
        simp only [f_X6_faultOf_b60_j95, r01, if_true]
        rw [jloop]
        simp only [f_X6_faultOf_b60, if_true]
      | inr a2 =>
        rw [hr] at w1
        have hle := rd_le hlt h32 hr
        have hwp := wid_pos (W i)
        have hr2 := w4 a2 hr
        have hP2 := PI_rdI hz hP hr
        obtain ⟨s2, y1, y2, y3⟩ := skip6 hb hz hle hr2
        rw [W_S w2, hW] at y3
        obtain ⟨k1, k2, k3, k4⟩ := sk_spec (W := W) (z := z) (z - (i + wid (W i))) (i + wid (W i)) a2 hle (by omega)
        obtain ⟨s3, u1, u2, u3, u4⟩ := ih _ f a2 s2 (by rw [W_S (w2.trans y2)]; exact hW) (by omega) k2 k3 (by omega) y3 hP2
        rw [k4] at u1 u3 u4
        refine ⟨s3, ?_, (w2.trans y2).trans u2, u3, u4⟩
        rw [jloop, w1]
        simp only [f_X6_faultOf_b60_j95, r01, n10, if_false, qO_60, if_true, y1, Option.bind_some]
        exact u1
theorem vict6 {s : ST} {b z k : Nat} {a : PSt} (h : RP s b z a k) (hP : PI a) : ∀ (m f p tk : Nat), p + m = a.1 → m < f → tk < 64 → jloop (f_X6_areVictims_b4 (some 60)) f (nI tk, nI p) (HP s) = some (match foF a m p tk with | none => .inr ((), HP s) | some j => .inl (0, HP (uI s 1937 (a.2.2.1 j 4)))) := by
  have h6 := hP.1
  obtain ⟨r1, r2, r3, r4, r5, r6, r7⟩ := h
  intro m
  induction m with
  | zero =>
    intro f p tk hp hf htk
    obtain ⟨f, rfl⟩ : ∃ f', f = f' + 1 := ⟨f - 1, by omega⟩
    rw [jloop]
    simp only [f_X6_areVictims_b4, gI_60_20, Option.bind_some, r4, if_pos (nI_le (show a.1 ≤ p by omega) (show p < 2 ^ 31 by omega)), foF]
  | succ m ih =>
    intro f p tk hp hf htk
    obtain ⟨f, rfl⟩ : ∃ f', f = f' + 1 := ⟨f - 1, by omega⟩
    obtain ⟨-, -, -, hv, -⟩ := hP.2.2.1 p (by omega)
    have g3 := r6 p (by omega) 3 (by omega)
    have g4' := r6 p (by omega) 4 (by omega)
    have j50 : f_X6_areVictims_b4_j50 (some 60) (nI p) (HP s) = some (.inl (0, HP (uI s 1937 (a.2.2.1 p 4)))) := by
      simp only [f_X6_areVictims_b4_j50, gR_60_19, Option.bind_some, e5n, nI_4, g71 _ (show 5 * p + 4 < 30 by omega), g4', sF_60_17]
    rw [jloop, foF]
    simp only [f_X6_areVictims_b4, f_X6_areVictims_b4_j66, gI_60_20, Option.bind_some, r4, if_neg (nI_ge (show p < a.1 by omega) (show a.1 < 2 ^ 31 by omega)), gR_60_19, e5n, nI_3, g71 _ (show 5 * p + 3 < 30 by omega), g3, nI_1, Int32.or_zero, j50]
    rcases hv with hv | ⟨v, hv, e⟩
    · simp only [hv, if_true]
      exact ih f (p + 1) tk (by omega) (by omega) htk
    · have n9 := nI_n9 (show v < 2 ^ 31 by omega)
      have evp : (nI v = nI p) = (v = p) := propext (nI_eq (by omega) (by omega))
      have ele : (nI a.1 ≤ nI v) = (a.1 ≤ v) := propext (nI_leI (by omega) (by omega))
      simp only [e, n9, if_false, nI_clamp (show v < 2 ^ 31 by omega), evp, ele]
      by_cases c1 : v = p
      · simp only [if_pos c1, if_pos (show v = p ∨ a.1 ≤ v ∨ tk.testBit v = true from Or.inl c1)]
      · simp only [if_neg c1]
        by_cases c2 : a.1 ≤ v
        · simp only [if_pos c2, if_pos (show v = p ∨ a.1 ≤ v ∨ tk.testBit v = true from Or.inr (Or.inl c2))]
        · have eb := bit_dec tk htk v (by omega)
          simp only [if_neg c2, p6_has, Option.bind_some, or_dec tk htk v (by omega)]
          by_cases c3 : tk.testBit v = true
          · simp only [if_pos (eb.mpr c3), n10, if_false, if_pos (show v = p ∨ a.1 ≤ v ∨ tk.testBit v = true from Or.inr (Or.inr c3)), j50]
          · simp only [if_neg (fun q => c3 (eb.mp q)), if_true, n9, if_false, if_neg (show ¬ (v = p ∨ a.1 ≤ v ∨ tk.testBit v = true) from fun q => by rcases q with q | q | q; exact c1 q; exact c2 q; exact c3 q)]
            exact ih f (p + 1) _ (by omega) (by omega) (or_lt htk (by omega))
theorem loves0 (s : ST) : jloop (f_X6_faultOf_b35 (some 60)) jfuel 0 (HP s) = some (.inr ((), HP (setR s 72 0 (fun _ => 0) 6))) := by
  have l : jloop (f_X6_faultOf_b35 (some 60)) jfuel (nI 0) (HP (setR s 72 0 (fun _ => 0) 0)) = some (.inr ((), HP (setR s 72 0 (fun _ => 0) 6))) := by
    refine jseq (n := 6) (fun j => nI j) (fun j => HP (setR s 72 0 (fun _ => 0) j)) ?_ (fun j hj => ?_) 6 jfuel 0 (by omega) (by unfold jfuel; omega)
    · simp only [f_X6_faultOf_b35, if_pos (show (6 : Int32) ≤ nI 6 by decide)]
    · have e1 : uV (setR s 72 0 (fun _ => 0) j) 72 j 0 = setR s 72 0 (fun _ => 0) (j + 1) := setR_1z s 72 (fun _ => 0) j
      simp only [f_X6_faultOf_b35, if_neg (show ¬ (6 : Int32) ≤ nI j from nI_ge (b := 6) hj (by omega)), gR_60_21, s72 _ hj, Option.bind_some, nI_1, e1]
  rw [setR_0] at l
  exact l
theorem e60n (b : Nat) : 60 * nI b = nI (60 * b) := pk_mul 60 b
theorem gA68' (s : ST) {i : Nat} (h : i < 4) : gA (HP s) (some 68) (nI i) = some (sV s 68 i) := gA68 s h
theorem fault6 {s : ST} {b z : Nat} (hb : b < 4) (hl : sV s 68 b = nI z) (hz : z ≤ 60) : ∃ s', f_X6_faultOf (some 60) (nI b) (HP s) = some (flt (fun p => sV s 69 (60 * b + p)) z, HP s') ∧ SameS s s' ∧ ∀ a, RA (fun p => sV s 69 (60 * b + p)) z 0 a00 = .inr a → foF a a.1 0 0 = none → 2 ≤ a.1 → RP s' b z a z := by
  generalize hs0 : setR (uI (uI (uI (uI (uI s 1936 (nI (60 * b))) 1937 0) 1938 (nI z)) 1940 0) 1942 0) 72 0 (fun _ => 0) 6 = s0
  have S0 : SameS s s0 := by
    rw [← hs0]
    exact (((((SameS.uI (by unfold ScI; omega)).trans (SameS.uI (by unfold ScI; omega))).trans (SameS.uI (by unfold ScI; omega))).trans (SameS.uI (by unfold ScI; omega))).trans (SameS.uI (by unfold ScI; omega))).trans (SameS.uA (by unfold ScA; omega))
  have h0 : RP s0 b z a00 0 := by
    rw [← hs0]
    exact ⟨rfl, rfl, rfl, rfl, rfl, fun j hj => absurd hj (Nat.not_lt_zero j), fun j hj => sV_setRz hj⟩
  obtain ⟨s1, w1, w2, w3⟩ := skip6 hb hz (Nat.zero_le z) h0
  rw [W_S S0] at w3
  generalize hW : (fun p => sV s 69 (60 * b + p)) = W at w3
  obtain ⟨k1, k2, k3, k4⟩ := sk_spec (W := W) (z := z) (z - 0) 0 a00 (Nat.zero_le z) (by omega)
  obtain ⟨s2, y1, y2, y3, y4⟩ := items6 hb hz (W := W) z _ jfuel a00 s1 (by rw [W_S (S0.trans w2)]; exact hW) (by omega) k2 k3 (by unfold jfuel; omega) w3 PI_0
  rw [k4] at y1 y3 y4
  have hl' : sV (uI (uI s 1936 (nI (60 * b))) 1937 0) 68 b = nI z := hl
  have pre : f_X6_faultOf (some 60) (nI b) (HP s) = f_X6_faultOf_j107 (some 60) (r01 (RA W z 0 a00)) (HP s2) := by
    have l0 := loves0 (uI (uI (uI (uI (uI s 1936 (nI (60 * b))) 1937 0) 1938 (nI z)) 1940 0) 1942 0)
    rw [hs0] at l0
    simp -implicitDefEqProofs only [f_X6_faultOf, e60n, sF_60_16, sF_60_17, sF_60_18, sF_60_20, sF_60_22, Option.bind_some, gR_60_9, gA68 _ hb, hl', l0, qO_60, if_true, w1, y1]
  rw [pre]
  cases hr : RA W z 0 a00 with
  | inl x =>
    refine ⟨s2, ?_, (S0.trans w2).trans y2, fun a q => by cases q⟩
    rw [flt_bad hr]
    simp -implicitDefEqProofs only [f_X6_faultOf_j107, f_X6_faultOf_j131, r01, if_true, gI_60_17, y3 x hr, Option.bind_some]
  | inr a =>
    have hR := y4 a hr
    have hP : PI a := PI_rdA hz _ _ _ _ PI_0 hr
    have h6 := hP.1
    rw [flt_ok hr]
    have e1 : (nI a.1 ≤ 1) = (a.1 ≤ 1) := propext (nI_leI (a := a.1) (b := 1) (by omega) (by omega))
    by_cases c2 : a.1 < 2
    · rw [if_pos c2]
      refine ⟨s2, ?_, (S0.trans w2).trans y2, fun a' q _ q2 => by cases q; omega⟩
      simp -implicitDefEqProofs only [f_X6_faultOf_j107, f_X6_faultOf_j131, r01, n10, if_false, gI_60_20, hR.2.2.2.1, Option.bind_some, e1, if_pos (show a.1 ≤ 1 by omega), gI_60_17, hR.2.1]
    · rw [if_neg c2]
      have lv : jloop (f_X6_areVictims_b4 (some 60)) jfuel (0, 0) (HP s2) = _ := vict6 hR hP a.1 jfuel 0 0 (by omega) (by unfold jfuel; omega) (by omega)
      cases hfo : foF a a.1 0 0 with
      | none =>
        rw [hfo] at lv
        refine ⟨s2, ?_, (S0.trans w2).trans y2, fun a' q _ _ => by cases q; exact hR⟩
        simp -implicitDefEqProofs only [f_X6_faultOf_j107, f_X6_areVictims, r01, n10, if_false, gI_60_20, hR.2.2.2.1, Option.bind_some, e1, if_neg (show ¬ a.1 ≤ 1 by omega), qO_60, if_true, lv]
      | some p =>
        rw [hfo] at lv
        refine ⟨uI s2 1937 (a.2.2.1 p 4), ?_, ((S0.trans w2).trans y2).trans S_pl, fun a' q q1 _ => by cases q; rw [hfo] at q1; cases q1⟩
        have e17 : sI (uI s2 1937 (a.2.2.1 p 4)) 1937 = a.2.2.1 p 4 := by rw [sI_uI, if_pos rfl]
        simp -implicitDefEqProofs only [f_X6_faultOf_j107, f_X6_faultOf_j131, f_X6_areVictims, r01, n10, if_false, gI_60_20, hR.2.2.2.1, Option.bind_some, e1, if_neg (show ¬ a.1 ≤ 1 by omega), qO_60, if_true, lv, gI_60_17, e17]
/-! the class's reading leaves the invariant -/
theorem InvF_D {s s' : ST} {n : Nat} (h : DrF (!sW s) s s') (hF : InvF s n) : InvF s' n := by
  have hF0 : fA (sW s) = 16 ∧ fA (!sW s) = 22 ∨ fA (sW s) = 22 ∧ fA (!sW s) = 16 := by cases sW s <;> decide
  unfold InvF at hF ⊢
  rw [h.1]
  have v : ∀ k, ¬ (fA (!sW s) + 1 ≤ k ∧ k ≤ fA (!sW s) + 5) → k ≠ 4 → sV s' k = sV s k := h.2.2.1
  have i : ∀ k, k ≠ 32 * fA (!sW s) + 5 → k ≠ 32 * fA (!sW s) + 6 → sI s' k = sI s k := h.2.2.2
  generalize fA (sW s) = F at hF hF0 ⊢
  generalize fA (!sW s) = G at hF0 v i
  rw [v (F + 1) (by omega) (by omega), v (F + 2) (by omega) (by omega), v (F + 3) (by omega) (by omega), v (F + 4) (by omega) (by omega), v 62 (by omega) (by omega), v 63 (by omega) (by omega), v 64 (by omega) (by omega), v 65 (by omega) (by omega), i 1921 (by omega) (by omega), i 1926 (by omega) (by omega), i (32 * F + 5) (by omega) (by omega), i (32 * F + 6) (by omega) (by omega)]
  exact hF
theorem Inv_D {s s' : ST} (h : DrF (!sW s) s s') (hI : Inv s) : Inv s' := by
  have hG : fA (!sW s) = 22 ∨ fA (!sW s) = 16 := by cases sW s <;> decide
  obtain ⟨h1, h2, h3, h4⟩ := id h
  obtain ⟨⟨n, hF, hT, hK⟩, hR, hM⟩ := hI
  have e61 : sV s' 61 = sV s 61 := h3 61 (by omega) (by omega)
  have e63 : sV s' 63 = sV s 63 := h3 63 (by omega) (by omega)
  refine ⟨⟨n, InvF_D h hF, InvT_of hF.le hT (h4 _ (by omega) (by omega)) (fun j _ => by rw [h3 _ (by omega) (by omega)]) (fun j _ => by rw [h3 _ (by omega) (by omega)]) (fun j _ => by rw [h3 _ (by omega) (by omega)]) (fun j _ => by rw [e61]) e63, InvK_of hF.le hK (fun k a1 a2 => h3 k (by omega) (by omega)) (fun k a1 a2 => h4 k (by omega) (by omega)) (fun j _ => by rw [e61]) e63⟩, InvR_same ⟨fun k hk => h3 k (by omega) (by omega), fun k hk => h4 k (by omega) (by omega)⟩ hR, InvM_same (SameM_of (fun k hk => h4 k (by omega) (by omega)) h2 (h3 15 (by omega) (by omega)) (h3 70 (by omega) (by omega))) hM⟩
theorem flt_congr {W W' : Nat → Int32} {z : Nat} (h : ∀ k, k < z → W k = W' k) : flt W z = flt W' z ∧ RA W z 0 a00 = RA W' z 0 a00 := by
  have hfg : ∀ k lo hi, fg W z k lo hi = fg W' z k lo hi := fun k lo hi => by
    unfold fg
    by_cases c : k < z
    · rw [if_pos c, if_pos c, h k c]
    · rw [if_neg c, if_neg c]
  have hI : ∀ i a, i < z → rdI W z i a = rdI W' z i a := fun i a hi => by
    have h45 : (i + 3 < z ∧ W (i + 3) = 45) = (i + 3 < z ∧ W' (i + 3) = 45) := propext ⟨fun q => ⟨q.1, by rw [← h _ q.1]; exact q.2⟩, fun q => ⟨q.1, by rw [h _ q.1]; exact q.2⟩⟩
    unfold rdI rdL rdP
    simp only [hfg, h i hi, h45]
  have hA : ∀ k i a, rdA W z k i a = rdA W' z k i a := by
    intro k
    induction k with
    | zero => intro i a; rfl
    | succ k ih =>
      intro i a
      rw [rdA, rdA]
      by_cases c : z ≤ i
      · rw [if_pos c, if_pos c]
      · rw [if_neg c, if_neg c, hI i a (by omega), h i (by omega)]
        cases rdI W' z i a with
        | inl x => rfl
        | inr a' => exact ih _ a'
  have hR : RA W z 0 a00 = RA W' z 0 a00 := hA _ _ _
  refine ⟨?_, hR⟩
  unfold flt
  rw [show ((0, 0, fun _ _ => 0, fun _ => 0) : PSt) = a00 from rfl, hR]
theorem ag_fault {s : ST} (hI : Inv s) (a0 : Int32) : ∃ (v : Int32) (s1 s2 : ST), f_X5_fault (some 0) a0 (HP s) = some (v, HP s1) ∧ f_X6_fault (some 60) a0 (HP s1) = some (v, HP s2) ∧ Inv s2 := by
  rcases ix4 a0 with h0 | ⟨i, hi, rfl⟩
  · refine ⟨-1, s, s, ?_, ?_, hI⟩
    · simp only [f_X5_fault, gR_0_1, Option.bind_some, p5_textNo s h0, if_true]
    · simp only [f_X6_fault, isText_no h0, Option.bind_some, if_true]
  have hi10 : 6 + i < 10 := by omega
  rcases hI.2.1.2 i hi with ⟨z1, z2⟩ | ⟨z, hz, z1, z2, z3⟩
  · rw [← lc_t i] at z1
    refine ⟨-3, fnd5 s 1, fnd6 (fnd5 s 1) 1, ?_, ?_, inv_find hI 1⟩
    · simp only [f_X5_fault, gR_0_1, Option.bind_some, p5_textAt s hi rfl, reduceCtorEq, if_false, ln_q s hi10, if_true, p2_missT s hi10 z1, n10, qO_0, p5_find (x := 1) s 1 rfl (by omega) (by omega)]
    · simp only [f_X6_fault, isText_yes hi, Option.bind_some, n10, if_false, gR_60_9, gA68 _ hi, sV5 s 1 (show 68 ≠ 15 by omega), z2, if_neg (show ¬ (0 : Int32) ≤ -1 by decide), qO_60, if_true, p6_find (x := 1) _ 1 rfl (by omega)]
  rw [← lc_t i] at z1 z3
  obtain ⟨s1, w1, w2, -⟩ := read5 (c := !sW s) hi10 z1 (by rw [lm_t]; exact hz)
  have hI1 := Inv_D w2 hI
  have hG : fA (!sW s) = 22 ∨ fA (!sW s) = 16 := by cases sW s <;> decide
  have e68 : sV s1 68 = sV s 68 := w2.2.2.1 68 (by omega) (by omega)
  have e69 : sV s1 69 = sV s 69 := w2.2.2.1 69 (by omega) (by omega)
  obtain ⟨s2, y1, y2, -⟩ := fault6 (s := s1) hi (by rw [e68]; exact z2) hz
  rw [e69, ← (flt_congr (W := sV s (lc (6 + i) + 1)) z3).1] at y1
  refine ⟨flt (sV s (lc (6 + i) + 1)) z, s1, s2, ?_, ?_, Inv_S y2 hI1⟩
  · simp -implicitDefEqProofs only [f_X5_fault, gR_0_1, Option.bind_some, p5_textAt s hi rfl, reduceCtorEq, if_false, ln_q s hi10, if_true, p2_missF s hi10 z1 (show z < 2 ^ 31 by omega), gR_0_2, gR_0_9, dA_f, qO_3, w1]
  · simp -implicitDefEqProofs only [f_X6_fault, isText_yes hi, Option.bind_some, n10, if_false, gR_60_9, gA68 _ hi, e68, z2, if_pos (nI_pos' (show z < 2 ^ 31 by omega)), qO_60, if_true, y1]
