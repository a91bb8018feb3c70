/-! ===== a TEXT read as a TOWN: what both find ===== -/
/-- how many PERSONS, how many LOVES, of each PERSON kind, aim, zeal, VICTIM, place of its figure; whom it LOVES -/
abbrev PSt : Type := Nat × Nat × (Nat → Nat → Int32) × (Nat → Nat)
def dgN (w : Int32) : Nat := (w - 48).toNatClampNeg
def figV (w : Int32) (lo hi : Nat) : Option Nat := if w = nI (48 + dgN w) ∧ lo ≤ dgN w ∧ dgN w ≤ hi ∧ dgN w < 10 then some (dgN w) else none
theorem figV_spec (w : Int32) (lo hi : Nat) : (∃ d, d < 10 ∧ w = nI (48 + d) ∧ w - 48 = nI d ∧ figV w lo hi = if lo ≤ d ∧ d ≤ hi then some d else none) ∨ (figV w lo hi = none ∧ (w - 48 < 0 ∨ nI 10 ≤ w - 48) ∧ ¬ (48 ≤ w.toInt ∧ w.toInt ≤ 57)) := by
  rcases ix_n (w - 48) (n := 10) (by omega) with q | ⟨d, hd, e⟩
  · right
    have hno : ∀ d, d < 10 → w ≠ nI (48 + d) := fun d hd e => by
      have e2 : w - 48 = nI d := by
        rw [e]
        have := pk_sub (a := 48 + d) (b := 48) (by omega)
        rw [show 48 + d - 48 = d by omega] at this
        exact this
      rw [e2] at q
      rcases q with q | q
      · exact nI_pos (by omega) q
      · exact nI_ge hd (by omega) q
    refine ⟨if_neg (fun z => hno _ z.2.2.2 z.1), q, fun z => ?_⟩
    rcases ix_n w (n := 58) (by omega) with q2 | ⟨k, hk, e2⟩
    · rcases q2 with q2 | q2
      · have := toInt_neg q2; omega
      · have := toInt_ge (by omega) q2; omega
    · rw [e2, nI_toInt (by omega)] at z
      exact hno (k - 48) (by omega) (by rw [e2, show 48 + (k - 48) = k by omega])
  · left
    have ew : w = nI (48 + d) := by
      have h1 : w = (w - 48) + 48 := (Int32.sub_add_cancel w 48).symm
      rw [h1, e]
      have := nI_add d 48
      rw [Nat.add_comm d 48] at this
      exact this
    have ed : dgN w = d := by unfold dgN; rw [e, nI_clamp (by omega)]
    refine ⟨d, hd, ew, e, ?_⟩
    unfold figV
    rw [ed]
    by_cases c : lo ≤ d ∧ d ≤ hi
    · rw [if_pos ⟨ew, c.1, c.2, hd⟩, if_pos c]
    · rw [if_neg (fun z => c ⟨z.2.1, z.2.2.1⟩), if_neg c]
def fg (W : Nat → Int32) (z k lo hi : Nat) : Option Nat := if k < z then figV (W k) lo hi else none
theorem fg_spec {W : Nat → Int32} {z k lo hi d : Nat} (h : fg W z k lo hi = some d) : k < z ∧ d < 10 ∧ lo ≤ d ∧ d ≤ hi := by
  unfold fg at h
  by_cases c : k < z
  · rw [if_pos c] at h
    unfold figV at h
    split at h
    · rename_i h2
      cases h
      exact ⟨c, h2.2.2.2, h2.2.1, h2.2.2.1⟩
    · cases h
  · rw [if_neg c] at h
    cases h
def oI (o : Option Nat) (e : Int32) : Int32 := match o with
  | none => e
  | some d => nI d
def kdF (w : Int32) : Nat → Nat → Option Nat
  | 0, _ => none
  | m + 1, j => if jlet j = w then some j else kdF w m (j + 1)
theorem kdF_lt {w : Int32} : ∀ m j k, kdF w m j = some k → k < j + m
  | 0, _, _, h => by cases h
  | m + 1, j, k, h => by
    rw [kdF] at h
    split at h
    · cases h; omega
    · have := kdF_lt m (j + 1) k h; omega
def addP (a : PSt) (k A Z : Nat) (v : Int32) (x : Nat) : PSt := (a.1 + 1, a.2.1, fun j c => if j = a.1 then (if c = 0 then nI k else if c = 1 then nI A else if c = 2 then nI Z else if c = 3 then v else nI x) else a.2.2.1 j c, upT a.2.2.2 a.1 0)
def rdP (W : Nat → Int32) (z i : Nat) (a : PSt) : Nat ⊕ PSt := match kdF (W i) 6 0 with
  | none => .inl i
  | some k => if 0 < a.2.1 ∨ 6 ≤ a.1 then .inl i else match fg W z (i + 1) 1 9 with
    | none => .inl (i + 1)
    | some A => match fg W z (i + 2) 0 5 with
      | none => .inl (i + 2)
      | some Z => if i + 3 < z ∧ W (i + 3) = 45 then .inr (addP a k A Z (-9) (i + 3)) else match fg W z (i + 3) 0 9 with
        | none => .inl (i + 3)
        | some v => .inr (addP a k A Z (nI v) (i + 3))
def rdL (W : Nat → Int32) (z i : Nat) (a : PSt) : Nat ⊕ PSt := if a.1 < 2 ∨ 8 ≤ a.2.1 then .inl i else match fg W z (i + 1) 0 (a.1 - 1) with
  | none => .inl (i + 1)
  | some p => match fg W z (i + 2) 0 (a.1 - 1) with
    | none => .inl (i + 2)
    | some q => if q = p ∨ (a.2.2.2 p).testBit q = true then .inl (i + 2) else .inr (a.1, a.2.1 + 1, a.2.2.1, upT (upT a.2.2.2 p (a.2.2.2 p ||| 2 ^ q)) q (a.2.2.2 q ||| 2 ^ p))
def rdI (W : Nat → Int32) (z i : Nat) (a : PSt) : Nat ⊕ PSt := if W i = 32 then .inr a else if W i = 111 then rdL W z i a else rdP W z i a
def wid (w : Int32) : Nat := if w = 32 then 1 else if w = 111 then 3 else 4
theorem wid_pos (w : Int32) : 1 ≤ wid w := by unfold wid; split <;> (try split) <;> omega
def rdA (W : Nat → Int32) (z : Nat) : Nat → Nat → PSt → Nat ⊕ PSt
  | 0, _, a => .inr a
  | k + 1, i, a => if z ≤ i then .inr a else match rdI W z i a with
    | .inl x => .inl x
    | .inr a' => rdA W z k (i + wid (W i)) a'
theorem rdA_f {W : Nat → Int32} {z : Nat} : ∀ (k k' i : Nat) (a : PSt), z ≤ i + k → z ≤ i + k' → rdA W z k i a = rdA W z k' i a
  | 0, 0, _, _, _, _ => rfl
  | 0, k' + 1, i, a, h, _ => by rw [rdA, rdA, if_pos (by omega)]
  | k + 1, 0, i, a, _, h => by rw [rdA, rdA, if_pos (by omega)]
  | k + 1, k' + 1, i, a, h, h' => by
    have := wid_pos (W i)
    rw [rdA, rdA]
    by_cases c : z ≤ i
    · rw [if_pos c, if_pos c]
    · rw [if_neg c, if_neg c]
      cases rdI W z i a with
      | inl x => rfl
      | inr a' => exact rdA_f k k' _ a' (by omega) (by omega)
/-- what is read from i on -/
def RA (W : Nat → Int32) (z i : Nat) (a : PSt) : Nat ⊕ PSt := rdA W z (z - i) i a
theorem RA_end {W : Nat → Int32} {z i : Nat} {a : PSt} (h : z ≤ i) : RA W z i a = .inr a := by
  unfold RA
  rw [show z - i = 0 by omega]
  rfl
theorem RA_step {W : Nat → Int32} {z i : Nat} {a : PSt} (h : i < z) : RA W z i a = match rdI W z i a with
    | .inl x => .inl x
    | .inr a' => RA W z (i + wid (W i)) a' := by
  have hw := wid_pos (W i)
  unfold RA
  rw [show z - i = (z - i - 1) + 1 by omega, rdA, if_neg (by omega)]
  cases rdI W z i a with
  | inl x => rfl
  | inr a' => exact rdA_f _ _ _ a' (by omega) (by omega)
def sk (W : Nat → Int32) (z : Nat) : Nat → Nat → Nat
  | 0, i => i
  | k + 1, i => if i < z ∧ W i = 32 then sk W z k (i + 1) else i
theorem sk_spec {W : Nat → Int32} {z : Nat} : ∀ (k i : Nat) (a : PSt), i ≤ z → z ≤ i + k → i ≤ sk W z k i ∧ sk W z k i ≤ z ∧ (sk W z k i = z ∨ W (sk W z k i) ≠ 32) ∧ RA W z (sk W z k i) a = RA W z i a
  | 0, i, a, h1, h2 => ⟨Nat.le_refl i, h1, Or.inl (by show i = z; omega), rfl⟩
  | k + 1, i, a, h1, h2 => by
    rw [sk]
    by_cases c : i < z ∧ W i = 32
    · rw [if_pos c]
      obtain ⟨q1, q2, q3, q4⟩ := sk_spec (W := W) (z := z) k (i + 1) a (by omega) (by omega)
      refine ⟨by omega, q2, q3, ?_⟩
      rw [q4, RA_step c.1]
      unfold rdI wid
      rw [if_pos c.2, if_pos c.2]
    · rw [if_neg c]
      refine ⟨Nat.le_refl i, h1, ?_, rfl⟩
      by_cases e : i = z
      · exact Or.inl e
      · exact Or.inr (fun h => c ⟨by omega, h⟩)
/-- what always holds of what was read -/
def PI (a : PSt) : Prop := a.1 ≤ 6 ∧ a.2.1 ≤ 8 ∧ (∀ j, j < a.1 → (∃ k : Nat, k < 6 ∧ a.2.2.1 j 0 = nI k) ∧ (∃ x : Nat, 1 ≤ x ∧ x ≤ 9 ∧ a.2.2.1 j 1 = nI x) ∧ (∃ x : Nat, x ≤ 5 ∧ a.2.2.1 j 2 = nI x) ∧ (a.2.2.1 j 3 = -9 ∨ ∃ v : Nat, v < 10 ∧ a.2.2.1 j 3 = nI v) ∧ (∃ x : Nat, x ≤ 60 ∧ a.2.2.1 j 4 = nI x) ∧ a.2.2.2 j < 2 ^ a.1) ∧ ∀ j, a.1 ≤ j → a.2.2.2 j = 0
theorem PI_add {a : PSt} (h : PI a) {k A Z x : Nat} {v : Int32} (hm : a.1 < 6) (hk : k < 6) (hA : 1 ≤ A ∧ A ≤ 9) (hZ : Z ≤ 5) (hv : v = -9 ∨ ∃ u : Nat, u < 10 ∧ v = nI u) (hx : x ≤ 60) : PI (addP a k A Z v x) := by
  obtain ⟨h1, h2, h3, h4⟩ := h
  refine ⟨by show a.1 + 1 ≤ 6; omega, h2, fun j hj => ?_, fun j hj => ?_⟩
  · have hj : j < a.1 + 1 := hj
    unfold addP
    by_cases e : j = a.1
    · simp only [e, if_true, upT_at]
      exact ⟨⟨k, hk, rfl⟩, ⟨A, hA.1, hA.2, rfl⟩, ⟨Z, hZ, rfl⟩, hv, ⟨x, hx, rfl⟩, Nat.two_pow_pos _⟩
    · simp only [e, if_false, upT_ne e]
      obtain ⟨q1, q2, q3, q4, q5, q6⟩ := h3 j (by omega)
      exact ⟨q1, q2, q3, q4, q5, Nat.lt_of_lt_of_le q6 (Nat.pow_le_pow_right (by omega) (by omega))⟩
  · have hj : a.1 + 1 ≤ j := hj
    show upT a.2.2.2 a.1 0 j = 0
    rw [upT_ne (by omega)]
    exact h4 j (by omega)
theorem PI_rdP {W : Nat → Int32} {z i : Nat} {a a' : PSt} (hz : z ≤ 60) (h : PI a) (e : rdP W z i a = .inr a') : PI a' := by
  unfold rdP at e
  cases hk : kdF (W i) 6 0 with
  | none => rw [hk] at e; cases e
  | some k =>
    rw [hk] at e
    have hk6 := kdF_lt 6 0 k hk
    by_cases c : 0 < a.2.1 ∨ 6 ≤ a.1
    · simp only [if_pos c] at e; cases e
    · simp only [if_neg c] at e
      cases hA : fg W z (i + 1) 1 9 with
      | none => rw [hA] at e; cases e
      | some A =>
        rw [hA] at e
        obtain ⟨a1, a2, a3, a4⟩ := fg_spec hA
        cases hZ : fg W z (i + 2) 0 5 with
        | none => rw [hZ] at e; cases e
        | some Z =>
          rw [hZ] at e
          obtain ⟨z1, z2, z3, z4⟩ := fg_spec hZ
          by_cases c2 : i + 3 < z ∧ W (i + 3) = 45
          · simp only [if_pos c2] at e
            cases e
            exact PI_add h (by omega) (by omega) ⟨a3, a4⟩ z4 (Or.inl rfl) (by omega)
          · simp only [if_neg c2] at e
            cases hv : fg W z (i + 3) 0 9 with
            | none => rw [hv] at e; cases e
            | some v =>
              rw [hv] at e
              obtain ⟨v1, v2, v3, v4⟩ := fg_spec hv
              cases e
              exact PI_add h (by omega) (by omega) ⟨a3, a4⟩ z4 (Or.inr ⟨v, v2, rfl⟩) (by omega)
theorem PI_rdL {W : Nat → Int32} {z i : Nat} {a a' : PSt} (h : PI a) (e : rdL W z i a = .inr a') : PI a' := by
  unfold rdL at e
  by_cases c : a.1 < 2 ∨ 8 ≤ a.2.1
  · rw [if_pos c] at e; cases e
  · rw [if_neg c] at e
    cases hp : fg W z (i + 1) 0 (a.1 - 1) with
    | none => rw [hp] at e; cases e
    | some p =>
      rw [hp] at e
      obtain ⟨p1, p2, p3, p4⟩ := fg_spec hp
      cases hq : fg W z (i + 2) 0 (a.1 - 1) with
      | none => rw [hq] at e; cases e
      | some q =>
        rw [hq] at e
        obtain ⟨q1, q2, q3, q4⟩ := fg_spec hq
        by_cases c2 : q = p ∨ (a.2.2.2 p).testBit q = true
        · simp only [if_pos c2] at e; cases e
        · simp only [if_neg c2] at e
          cases e
          obtain ⟨h1, h2, h3, h4⟩ := h
          have b : ∀ j k, j < a.1 → k < a.1 → a.2.2.2 j ||| 2 ^ k < 2 ^ a.1 := fun j k hj hk => Nat.or_lt_two_pow (h3 j hj).2.2.2.2.2 (Nat.pow_lt_pow_right (by omega) hk)
          refine ⟨h1, by show a.2.1 + 1 ≤ 8; omega, fun j hj => ?_, fun j hj => ?_⟩
          · obtain ⟨g1, g2, g3, g4, g5, g6⟩ := h3 j hj
            refine ⟨g1, g2, g3, g4, g5, ?_⟩
            show upT (upT a.2.2.2 p _) q _ j < 2 ^ a.1
            unfold upT
            split
            · exact b q p (by omega) (by omega)
            · split
              · exact b p q (by omega) (by omega)
              · exact g6
          · have hj : a.1 ≤ j := hj
            show upT (upT a.2.2.2 p _) q _ j = 0
            rw [upT_ne (by omega), upT_ne (by omega)]
            exact h4 j hj
theorem PI_rdI {W : Nat → Int32} {z i : Nat} {a a' : PSt} (hz : z ≤ 60) (h : PI a) (e : rdI W z i a = .inr a') : PI a' := by
  unfold rdI at e
  split at e
  · cases e; exact h
  · split at e
    · exact PI_rdL h e
    · exact PI_rdP hz h e
theorem rd_le {W : Nat → Int32} {z i : Nat} {a a' : PSt} (hi : i < z) (h32 : W i ≠ 32) (e : rdI W z i a = .inr a') : i + wid (W i) ≤ z := by
  unfold rdI at e
  rw [if_neg h32] at e
  unfold wid
  rw [if_neg h32]
  by_cases c1 : W i = 111
  · rw [if_pos c1] at e ⊢
    unfold rdL at e
    by_cases c : a.1 < 2 ∨ 8 ≤ a.2.1
    · rw [if_pos c] at e; cases e
    · rw [if_neg c] at e
      cases hp : fg W z (i + 1) 0 (a.1 - 1) with
      | none => rw [hp] at e; cases e
      | some p =>
        rw [hp] at e
        cases hq : fg W z (i + 2) 0 (a.1 - 1) with
        | none => rw [hq] at e; cases e
        | some q =>
          have := (fg_spec hq).1
          omega
  · rw [if_neg c1] at e ⊢
    unfold rdP at e
    cases hk : kdF (W i) 6 0 with
    | none => rw [hk] at e; cases e
    | some k =>
      rw [hk] at e
      by_cases c : 0 < a.2.1 ∨ 6 ≤ a.1
      · simp only [if_pos c] at e; cases e
      · simp only [if_neg c] at e
        cases hA : fg W z (i + 1) 1 9 with
        | none => rw [hA] at e; cases e
        | some A =>
          rw [hA] at e
          cases hZ : fg W z (i + 2) 0 5 with
          | none => rw [hZ] at e; cases e
          | some Z =>
            rw [hZ] at e
            by_cases c2 : i + 3 < z ∧ W (i + 3) = 45
            · omega
            · simp only [if_neg c2] at e
              cases hv : fg W z (i + 3) 0 9 with
              | none => rw [hv] at e; cases e
              | some v =>
                have := (fg_spec hv).1
                omega
/-- the first whose VICTIM is wrong -/
def foF (a : PSt) : Nat → Nat → Nat → Option Nat
  | 0, _, _ => none
  | m + 1, p, tk => if a.2.2.1 p 3 = -9 then foF a m (p + 1) tk else if (a.2.2.1 p 3).toNatClampNeg = p ∨ a.1 ≤ (a.2.2.1 p 3).toNatClampNeg ∨ tk.testBit (a.2.2.1 p 3).toNatClampNeg = true then some p else foF a m (p + 1) (tk ||| 2 ^ (a.2.2.1 p 3).toNatClampNeg)
/-- the FAULT, -9 if there is none -/
def flt (W : Nat → Int32) (z : Nat) : Int32 := match RA W z 0 (0, 0, fun _ _ => 0, fun _ => 0) with
  | .inl x => nI x
  | .inr a => if a.1 < 2 then nI z else match foF a a.1 0 0 with
    | none => -9
    | some p => a.2.2.1 p 4
