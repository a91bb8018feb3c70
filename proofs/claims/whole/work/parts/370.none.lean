/-! ===== what is set down for a while; none ===== -/
def ScA (k : Nat) : Prop := 10 ≤ k ∧ k ≤ 14 ∨ 71 ≤ k ∧ k < 77
def ScI (k : Nat) : Prop := 320 ≤ k ∧ k < 352 ∨ 1936 ≤ k
/-- all but what is set down for a while is as it was -/
def SameS (s s' : ST) : Prop := sW s' = sW s ∧ sL s' = sL s ∧ (∀ k, ¬ ScA k → sV s' k = sV s k) ∧ ∀ k, ¬ ScI k → sI s' k = sI s k
theorem SameS.rf (s : ST) : SameS s s := ⟨rfl, rfl, fun _ _ => rfl, fun _ _ => rfl⟩
theorem SameS.trans {a b c : ST} (h : SameS a b) (k : SameS b c) : SameS a c := ⟨k.1.trans h.1, k.2.1.trans h.2.1, fun i hi => (k.2.2.1 i hi).trans (h.2.2.1 i hi), fun i hi => (k.2.2.2 i hi).trans (h.2.2.2 i hi)⟩
theorem SameS.uA {s : ST} {k : Nat} {f : Nat → Int32} (h : ScA k) : SameS s (uA s k f) := ⟨rfl, rfl, fun j hj => by rw [sV_uA, if_neg (fun e : j = k => hj (e ▸ h))], fun _ _ => rfl⟩
theorem SameS.uV {s : ST} {k i : Nat} {v : Int32} (h : ScA k) : SameS s (uV s k i v) := ⟨rfl, rfl, fun j hj => sV_uVne (fun e => hj (e ▸ h)), fun _ _ => rfl⟩
theorem SameS.uI {s : ST} {k : Nat} {v : Int32} (h : ScI k) : SameS s (uI s k v) := ⟨rfl, rfl, fun _ _ => rfl, fun j hj => by rw [sI_uI, if_neg (fun e : j = k => hj (e ▸ h))]⟩
theorem cS_I {s s' : ST} (h : SameS s s') (k : Nat) (v : Int32) : SameS (uI s k v) (uI s' k v) := ⟨h.1, h.2.1, h.2.2.1, fun j hj => by rw [sI_uI, sI_uI, h.2.2.2 j hj]⟩
theorem cS_L {s s' : ST} (h : SameS s s') (k : Nat) (v : Int64) : SameS (uL s k v) (uL s' k v) := ⟨h.1, by funext j; rw [sL_uL, sL_uL, h.2.1], h.2.2.1, h.2.2.2⟩
theorem cS_V {s s' : ST} (h : SameS s s') (k i : Nat) (v : Int32) : SameS (uV s k i v) (uV s' k i v) := ⟨h.1, h.2.1, fun j hj => by
  by_cases e : j = k
  · subst e
    funext x
    rw [sV_uV, sV_uV, h.2.2.1 j hj]
  · rw [sV_uVne e, sV_uVne e, h.2.2.1 j hj], h.2.2.2⟩
theorem cS_f6 {s s' : ST} (h : SameS s s') (f : Nat) : SameS (fnd6 s f) (fnd6 s' f) := by
  unfold fnd6
  rw [h.2.2.1 70 (by unfold ScA; omega)]
  exact cS_V (cS_I h _ _) _ _ _
theorem cS_f5 {s s' : ST} (h : SameS s s') (f : Nat) : SameS (fnd5 s f) (fnd5 s' f) := by
  unfold fnd5
  rw [h.2.2.1 15 (by unfold ScA; omega)]
  exact cS_V (cS_I h _ _) _ _ _
theorem Inv_S {s s' : ST} (h : SameS s s') (hI : Inv s) : Inv s' :=
  ⟨InvA_same ⟨h.1, fun k hk => h.2.2.1 k (by unfold ScA; unfold TyT at hk; omega), fun k hk => h.2.2.2 k (by unfold ScI; unfold IdT at hk; omega)⟩ hI.1, InvR_same ⟨fun k hk => h.2.2.1 k (by unfold ScA; omega), fun k hk => h.2.2.2 k (by unfold ScI; omega)⟩ hI.2.1, InvM_same (SameM_of (fun k hk => h.2.2.2 k (by unfold ScI; omega)) h.2.1 (h.2.2.1 15 (by unfold ScA; omega)) (h.2.2.1 70 (by unfold ScA; omega))) hI.2.2⟩
theorem S_N {s s' : ST} (h : SameS s s') : SameN s s' := ⟨h.1, h.2.1, fun k hk => h.2.2.1 k (by unfold ScA; unfold TwA at hk; omega), fun k hk => h.2.2.2 k (by unfold ScI; unfold TwI at hk; omega)⟩
theorem S_V {s s' : ST} (h : SameS s s') {k : Nat} (hk : ¬ ScA k) : sV s' k = sV s k := h.2.2.1 k hk
theorem InvF_S {s s' : ST} {n : Nat} (h : SameS s s') (hF : InvF s n) : InvF s' n := InvF_N (S_N h) hF
theorem InvT_S {s s' : ST} {n : Nat} (h : SameS s s') (hT : InvT s n 5 0) : InvT s' n 5 0 := InvT_same ⟨h.1, fun k hk => h.2.2.1 k (by unfold ScA; unfold TyT at hk; omega), fun k hk => h.2.2.2 k (by unfold ScI; unfold IdT at hk; omega)⟩ (Or.inl rfl) hT
theorem InvS_S {s s' : ST} {n t : Nat} (h : SameS s s') (hS : InvS s n 6 7 8 t 1) : InvS s' n 6 7 8 t 1 := InvS_same (S_V h (by unfold ScA; omega)) (S_V h (by unfold ScA; omega)) (S_V h (by unfold ScA; omega)) (S_V h (by unfold ScA; omega)) (S_V h (by unfold ScA; omega)) hS
/-! a row that is to have a place for each PERSON -/
theorem rf_state {s : ST} {i : Nat} (hF : InvF s 0) : f_X5_refuseFolkRow (some 0) (some (lc i)) (HP s) = some (-4, HP s) := by
  simp only [f_X5_refuseFolkRow, f_X5_refuseRow, qO_0, if_true, gR_0_8, Option.bind_some, fk_n, hF.2.2.1, if_pos (show nI 0 = 0 from rfl), if_neg (show ¬ (-4 : Int32) = 0 by decide)]
theorem rf_miss {s : ST} {i n : Nat} (hF : InvF s n) (hn : n ≠ 0) (hi : i < 10) (h1 : sI s (32 * lc i + 1) = -1) : f_X5_refuseFolkRow (some 0) (some (lc i)) (HP s) = some (-3, HP (fnd5 s 1)) := by
  have h6 := hF.le
  simp only [f_X5_refuseFolkRow, f_X5_refuseRow, qO_0, if_true, gR_0_8, Option.bind_some, fk_n, hF.2.2.1, n_eq0 h6, hn, if_false, ln_q s hi, p2_missT s hi h1, n10, p5_find (x := 1) s 1 rfl (by omega) (by omega), n30]
theorem rf_size {s : ST} {i n m : Nat} (hF : InvF s n) (hn : n ≠ 0) (hi : i < 10) (h1 : sI s (32 * lc i + 1) = nI m) (hm : m ≤ 60) (hne : m ≠ n) : f_X5_refuseFolkRow (some 0) (some (lc i)) (HP s) = some (-3, HP (fnd5 s 5)) := by
  have h6 := hF.le
  have e : ¬ nI m = nI n := fun q => hne ((nI_eq (by omega) (by omega)).mp q)
  simp only [f_X5_refuseFolkRow, f_X5_refuseRow, qO_0, if_true, gR_0_8, Option.bind_some, fk_n, hF.2.2.1, n_eq0 h6, hn, if_false, ln_q s hi, p2_missF s hi h1 (show m < 2 ^ 31 by omega), ln_z s hi, h1, if_neg e, p5_find (x := 5) s 5 rfl (by omega) (by omega)]
theorem rf_ok {s : ST} {i n : Nat} (hF : InvF s n) (hn : n ≠ 0) (hi : i < 10) (h1 : sI s (32 * lc i + 1) = nI n) : f_X5_refuseFolkRow (some 0) (some (lc i)) (HP s) = some (0, HP s) := by
  have h6 := hF.le
  simp only [f_X5_refuseFolkRow, f_X5_refuseRow, qO_0, if_true, gR_0_8, Option.bind_some, fk_n, hF.2.2.1, n_eq0 h6, hn, if_false, ln_q s hi, p2_missF s hi h1 (show n < 2 ^ 31 by omega), ln_z s hi, h1]
/-! MAPS by what each has, n for nobody -/
/-- what is left of a set of VICTIMS, if T is a MAP of some of them -/
def lo (n : Nat) (T : Nat → Nat) : Nat → Nat → Nat → Option Nat
  | 0, _, l => some l
  | m + 1, j, l => if n ≤ T j then lo n T m (j + 1) l else if T j = j then none else if l.testBit (T j) = true then lo n T m (j + 1) (l ^^^ 2 ^ T j) else none
set_option maxRecDepth 100000 in
theorem clr_dec : ∀ a, a < 64 → ∀ k, k < 6 → a.testBit k = true → nI a &&& (((1 : Int32) <<< (nI k &&& 31)) ^^^ (-1)) = nI (a ^^^ 2 ^ k) := by decide +kernel
theorem xor_lt {a k : Nat} (ha : a < 64) (hk : k < 6) : a ^^^ 2 ^ k < 64 := Nat.xor_lt_two_pow (n := 6) ha (Nat.pow_lt_pow_right (a := 2) (by omega) hk)
theorem g74 (s : ST) {p : Nat} (hp : p < 6) : gA (HP s) (some 74) (nI p) = some (sV s 74 p) := HP_gAn s (show p < hLen 74 from hp) (by omega)
theorem s74 (s : ST) {p : Nat} (hp : p < 6) (v : Int32) : sA (HP s) (some 74) (nI p) v = some (HP (uV s 74 p v)) := HP_sAn s v (show p < hLen 74 from hp) (by omega)
theorem lo_loop {s : ST} {n : Nat} (hF : InvF s n) {T : Nat → Nat} (hT : ∀ p, p < n → T p ≤ n ∧ sV s 74 p = nI (T p)) : ∀ (m f j l : Nat), j + m = n → m < f → l < 64 → jloop (f_X6_leftOf_b4 (some 60)) f (nI l, nI j) (HP s) = some (match lo n T m j l with | none => .inl (-1, HP s) | some l' => .inr (nI l', HP s)) ∧ (∀ l', lo n T m j l = some l' → l' < 64) := by
  have h6 := hF.le
  intro m
  induction m with
  | zero =>
    intro f j l hj hf hl
    obtain ⟨f, rfl⟩ : ∃ f', f = f' + 1 := ⟨f - 1, by omega⟩
    refine ⟨?_, fun l' h => by cases h; exact hl⟩
    rw [jloop]
    simp only [f_X6_leftOf_b4, gI_60_1, Option.bind_some, hF.2.1, if_pos (nI_le (show n ≤ j by omega) (show j < 2 ^ 31 by omega)), lo]
  | succ m ih =>
    intro f j l hj hf hl
    obtain ⟨f, rfl⟩ : ∃ f', f = f' + 1 := ⟨f - 1, by omega⟩
    obtain ⟨t1, t2⟩ := hT j (by omega)
    rw [jloop, lo]
    by_cases c1 : n ≤ T j
    · simp only [f_X6_leftOf_b4, gI_60_1, Option.bind_some, hF.2.1, if_neg (nI_ge (show j < n by omega) (show n < 2 ^ 31 by omega)), gR_60_24, g74 s (show j < 6 by omega), t2, if_pos (nI_le c1 (show T j < 2 ^ 31 by omega)), nI_1, c1, if_true]
      exact ih f (j + 1) l (by omega) (by omega) hl
    · by_cases c2 : T j = j
      · have e : nI (T j) = nI j := by rw [c2]
        simp only [f_X6_leftOf_b4, gI_60_1, Option.bind_some, hF.2.1, if_neg (nI_ge (show j < n by omega) (show n < 2 ^ 31 by omega)), gR_60_24, g74 s (show j < 6 by omega), t2, if_neg (nI_ge (show T j < n by omega) (show n < 2 ^ 31 by omega)), if_pos e, if_neg c1, if_pos c2]
        exact ⟨trivial, fun l' h => by cases h⟩
      · have e : ¬ nI (T j) = nI j := fun q => c2 ((nI_eq (by omega) (by omega)).mp q)
        by_cases c3 : l.testBit (T j) = true
        · simp only [f_X6_leftOf_b4, gI_60_1, Option.bind_some, hF.2.1, if_neg (nI_ge (show j < n by omega) (show n < 2 ^ 31 by omega)), gR_60_24, g74 s (show j < 6 by omega), t2, if_neg (nI_ge (show T j < n by omega) (show n < 2 ^ 31 by omega)), c1, if_false, if_neg e, c2, p6_has, if_pos ((bit_dec l hl (T j) (by omega)).mpr c3), n10, c3, if_true, clr_dec l hl (T j) (by omega) c3, nI_1]
          exact ih f (j + 1) _ (by omega) (by omega) (xor_lt hl (by omega))
        · simp only [f_X6_leftOf_b4, gI_60_1, Option.bind_some, hF.2.1, if_neg (nI_ge (show j < n by omega) (show n < 2 ^ 31 by omega)), gR_60_24, g74 s (show j < 6 by omega), t2, if_neg (nI_ge (show T j < n by omega) (show n < 2 ^ 31 by omega)), c1, if_false, if_neg e, c2, p6_has, if_neg (fun z => c3 ((bit_dec l hl (T j) (by omega)).mp z)), c3, if_true, Bool.false_eq_true]
          exact ⟨trivial, fun l' h => by cases h⟩
/-- leftOf: nothing is left just if T is a MAP with just these VICTIMS -/
theorem p6_leftOf {s : ST} {n V : Nat} (hF : InvF s n) {T : Nat → Nat} (hT : ∀ p, p < n → T p ≤ n ∧ sV s 74 p = nI (T p)) (hV : V < 64) : ∃ x : Int32, f_X6_leftOf (some 60) (nI V) (HP s) = some (x, HP s) ∧ (x = 0 ↔ lo n T n 0 V = some 0) := by
  have h6 := hF.le
  obtain ⟨h1, h2⟩ := lo_loop hF hT n jfuel 0 V (by omega) (by unfold jfuel; omega) hV
  have h1 : jloop (f_X6_leftOf_b4 (some 60)) jfuel (nI V, 0) (HP s) = _ := h1
  cases hl : lo n T n 0 V with
  | none =>
    rw [hl] at h1
    refine ⟨-1, by simp only [f_X6_leftOf, h1, Option.bind_some], ⟨fun e => absurd e (by decide), fun e => by cases e⟩⟩
  | some l =>
    rw [hl] at h1
    have := h2 l hl
    refine ⟨nI l, by simp only [f_X6_leftOf, h1, Option.bind_some], ?_⟩
    rw [nI_z (by omega)]
    exact ⟨fun e => by rw [e], fun e => Option.some.inj e⟩
/-- the class's way: the set of VICTIMS of a row, if it is a MAP -/
def mo (n : Nat) (W : Nat → Int32) : Nat → Nat → Nat → Option Nat
  | 0, _, a => some a
  | m + 1, j, a => if W j = -9 then mo n W m (j + 1) a else if (0 ≤ (W j).toInt ∧ (W j).toInt < n) ∧ W j ≠ nI j ∧ a.testBit (W j).toNatClampNeg = false then mo n W m (j + 1) (a ||| 2 ^ (W j).toNatClampNeg) else none
theorem mo_sup (n : Nat) (W : Nat → Int32) : ∀ (m j a A : Nat), mo n W m j a = some A → ∀ k, a.testBit k = true → A.testBit k = true
  | 0, _, a, A, h, k, hk => by cases h; exact hk
  | m + 1, j, a, A, h, k, hk => by
    rw [mo] at h
    split at h
    · exact mo_sup n W m (j + 1) a A h k hk
    · split at h
      · exact mo_sup n W m (j + 1) _ A h k (by rw [tb_or, hk]; rfl)
      · cases h
def tW (n : Nat) (W : Nat → Int32) (p : Nat) : Nat := if W p = -9 then n else (W p).toNatClampNeg
theorem mo_lo {n V : Nat} {W : Nat → Int32} (h6 : n ≤ 6) (hV : V < 64) (hW : ∀ p, p < n → W p = -9 ∨ ∃ k, k < n ∧ W p = nI k) : ∀ (m j a l : Nat), j + m = n → l < 64 → a < 64 → (∀ k, l.testBit k = (V.testBit k && !a.testBit k)) → (∀ k, a.testBit k = true → V.testBit k = true) → (mo n W m j a = some V ↔ lo n (tW n W) m j l = some 0) := by
  intro m
  induction m with
  | zero =>
    intro j a l hj hl ha h1 h2
    rw [mo, lo]
    constructor
    · intro h
      cases h
      congr 1
      apply Nat.eq_of_testBit_eq
      intro i
      rw [h1, Nat.zero_testBit]
      cases V.testBit i <;> rfl
    · intro h
      have h : l = 0 := Option.some.inj h
      subst h
      congr 1
      apply Nat.eq_of_testBit_eq
      intro i
      have q1 := h1 i
      rw [Nat.zero_testBit] at q1
      have q2 := h2 i
      cases ha : a.testBit i with
      | true => rw [q2 ha]
      | false =>
        rw [ha] at q1
        cases hv : V.testBit i with
        | true => rw [hv] at q1; cases q1
        | false => rfl
  | succ m ih =>
    intro j a l hj hl ha h1 h2
    rw [mo, lo]
    rcases hW j (by omega) with h | ⟨k, hk, h⟩
    · have e : tW n W j = n := by unfold tW; rw [if_pos h]
      rw [if_pos h, e, if_pos (Nat.le_refl n)]
      exact ih (j + 1) a l (by omega) hl ha h1 h2
    · have n9 := nI_n9 (show k < 2 ^ 31 by omega)
      have e : tW n W j = k := by unfold tW; rw [h, if_neg n9, nI_clamp (by omega)]
      have ht : 0 ≤ (nI k).toInt ∧ (nI k).toInt < n := by rw [nI_toInt (by omega)]; omega
      rw [e, h, if_neg n9, if_neg (show ¬ n ≤ k by omega), nI_clamp (by omega)]
      by_cases c1 : k = j
      · rw [if_neg (fun z => z.2.1 (by rw [c1])), if_pos c1]
        simp
      · have c1' : nI k ≠ nI j := fun z => c1 ((nI_eq (by omega) (by omega)).mp z)
        rw [if_neg c1]
        cases hak : a.testBit k with
        | true =>
          have : l.testBit k = false := by rw [h1, hak]; simp
          rw [if_neg (fun z => by simp at z), this]
          simp
        | false =>
          rw [if_pos ⟨ht, c1', rfl⟩]
          cases hvk : V.testBit k with
          | true =>
            have hlk : l.testBit k = true := by rw [h1, hak, hvk]; rfl
            rw [if_pos hlk]
            refine ih (j + 1) (a ||| 2 ^ k) (l ^^^ 2 ^ k) (by omega) (xor_lt hl (by omega)) (or_lt ha (by omega)) (fun i => ?_) (fun i hi => ?_)
            · rw [Nat.testBit_xor, Nat.testBit_two_pow, tb_or, h1]
              by_cases ei : k = i
              · subst ei
                simp [hvk, hak]
              · simp [ei]
            · rw [tb_or] at hi
              by_cases ei : k = i
              · subst ei; exact hvk
              · simp [ei] at hi
                exact h2 i hi
          | false =>
            have hlk : ¬ l.testBit k = true := by rw [h1, hvk]; simp
            rw [if_neg hlk]
            constructor
            · intro h3
              have := mo_sup n W m (j + 1) _ V h3 k (by rw [tb_or]; simp)
              rw [hvk] at this
              cases this
            · intro h3
              cases h3
theorem mo_bad {n : Nat} {W : Nat → Int32} {p : Nat} (hb : ¬ (W p = -9 ∨ ∃ k, k < n ∧ W p = nI k)) (h6 : n ≤ 6) : ∀ (m j a : Nat), j ≤ p → p < j + m → mo n W m j a = none
  | 0, j, a, h1, h2 => by omega
  | m + 1, j, a, h1, h2 => by
    rw [mo]
    by_cases e : j = p
    · subst e
      rw [if_neg (fun z => hb (Or.inl z)), if_neg (fun z => hb (Or.inr ?_))]
      rcases ix_n (W j) (n := n) (by omega) with q | ⟨k, hk, e⟩
      · exfalso
        rcases q with q | q
        · have := toInt_neg q; omega
        · have := toInt_ge (by omega) q; omega
      · exact ⟨k, hk, e⟩
    · split
      · exact mo_bad hb h6 m (j + 1) a (by omega) (by omega)
      · split
        · exact mo_bad hb h6 m (j + 1) _ (by omega) (by omega)
        · rfl
theorem p5_pair {s : ST} {n j : Nat} (hF : InvF s n) (hj : j < n) (x : Int32) : f_X5_isPair (some 0) (nI j) x (HP s) = some (if (0 ≤ x.toInt ∧ x.toInt < n) ∧ x ≠ nI j then 1 else 0, HP s) := by
  have h6 := hF.le
  rcases two_cases hF (nI j) x with ⟨p, q, hp, hq, hpq, e1, rfl, e2, -⟩ | ⟨e2, -⟩
  · have ej : j = p := (nI_eq (by omega) (by omega)).mp e1
    rw [e2, if_pos]
    exact ⟨by rw [nI_toInt (by omega)]; omega, fun z => hpq (by rw [← ej]; exact ((nI_eq (by omega) (by omega)).mp z).symm)⟩
  · rw [e2, if_neg]
    rintro ⟨q1, q2⟩
    rcases ix_n x (n := n) (by omega) with q | ⟨k, hk, rfl⟩
    · rcases q with q | q
      · have := toInt_neg q; omega
      · have := toInt_ge (by omega) q; omega
    · simp only [f_X5_isPair, gR_0_8, Option.bind_some, fk_q, if_true, p1_hasT hF hj, p1_hasT hF hk, n10, if_false, if_neg (show ¬ nI j = nI k from fun z => q2 z.symm)] at e2
      have := congrArg (fun o => o.map Prod.fst) e2
      simp at this
theorem mo_loop {s : ST} {n i : Nat} (hF : InvF s n) (hi : i < 10) (h1 : sI s (32 * lc i + 1) = nI n) (hl : n ≤ lm i) : ∀ (m f j a : Nat), j + m = n → m < f → a < 64 → jloop (f_X5_isMapOfNow_b4 (some 0) (some (lc i))) f (nI a, nI j) (HP s) = some (match mo n (sV s (lc i + 1)) m j a with | none => .inl (0, HP s) | some A => .inr (nI A, HP s)) ∧ ∀ A, mo n (sV s (lc i + 1)) m j a = some A → A < 64 := by
  have h6 := hF.le
  intro m
  induction m with
  | zero =>
    intro f j a hj hf ha
    obtain ⟨f, rfl⟩ : ∃ f', f = f' + 1 := ⟨f - 1, by omega⟩
    refine ⟨?_, fun l' h => by cases h; exact ha⟩
    rw [jloop]
    simp only [f_X5_isMapOfNow_b4, gR_0_8, Option.bind_some, fk_n, hF.2.2.1, if_pos (nI_le (show n ≤ j by omega) (show j < 2 ^ 31 by omega)), mo]
  | succ m ih =>
    intro f j a hj hf ha
    obtain ⟨f, rfl⟩ : ∃ f', f = f' + 1 := ⟨f - 1, by omega⟩
    rw [jloop, mo]
    have hb : f_X5_isMapOfNow_b4 (some 0) (some (lc i)) (nI a, nI j) (HP s) = if sV s (lc i + 1) j = -9 then some (.inr (.inr ((nI a, nI (j + 1)), HP s))) else if (0 ≤ (sV s (lc i + 1) j).toInt ∧ (sV s (lc i + 1) j).toInt < n) ∧ sV s (lc i + 1) j ≠ nI j ∧ a.testBit (sV s (lc i + 1) j).toNatClampNeg = false then some (.inr (.inr ((nI (a ||| 2 ^ (sV s (lc i + 1) j).toNatClampNeg), nI (j + 1)), HP s))) else some (.inl (0, HP s)) := by
      simp only [f_X5_isMapOfNow_b4, gR_0_8, Option.bind_some, fk_n, hF.2.2.1, if_neg (nI_ge (show j < n by omega) (show n < 2 ^ 31 by omega)), ln_q s hi, if_true, p2_get s hi h1 hl (show j < n by omega), qO_0, p5_pair hF (show j < n by omega), nI_1]
      generalize sV s (lc i + 1) j = w
      by_cases c1 : w = -9
      · simp only [c1, if_true]
      · simp only [c1, if_false]
        by_cases c2 : (0 ≤ w.toInt ∧ w.toInt < n) ∧ w ≠ nI j
        · obtain ⟨k, hk, rfl⟩ : ∃ k, k < n ∧ w = nI k := by
            rcases ix_n w (n := n) (by omega) with q | q
            · exfalso
              rcases q with q | q
              · have := toInt_neg q; omega
              · have := toInt_ge (by omega) q; omega
            · exact q
          simp only [if_pos c2, n10, if_false, p5_isIn (show k < 6 by omega), Option.bind_some, nI_clamp (show k < 2 ^ 31 by omega), or_dec a ha k (by omega)]
          cases hak : a.testBit k with
          | true => simp only [if_pos ((bit_dec a ha k (by omega)).mpr hak), n10, if_false, reduceCtorEq, and_false]
          | false =>
            have hnb : ¬ (nI a >>> (nI k &&& 31)) &&& 1 = 1 := fun z => by have := (bit_dec a ha k (by omega)).mp z; rw [hak] at this; cases this
            simp only [if_neg hnb, if_true, and_true, if_pos c2]
        · have c3 : ¬ ((0 ≤ w.toInt ∧ w.toInt < n) ∧ w ≠ nI j ∧ a.testBit w.toNatClampNeg = false) := fun z => c2 ⟨z.1, z.2.1⟩
          simp only [if_neg c2, if_true, if_neg c3]
    rw [hb]
    by_cases c1 : sV s (lc i + 1) j = -9
    · rw [if_pos c1, if_pos c1]
      exact ih f (j + 1) a (by omega) (by omega) ha
    · rw [if_neg c1, if_neg c1]
      by_cases c2 : (0 ≤ (sV s (lc i + 1) j).toInt ∧ (sV s (lc i + 1) j).toInt < n) ∧ sV s (lc i + 1) j ≠ nI j ∧ a.testBit (sV s (lc i + 1) j).toNatClampNeg = false
      · rw [if_pos c2, if_pos c2]
        have hk : (sV s (lc i + 1) j).toNatClampNeg < 6 := by
          rcases ix_n (sV s (lc i + 1) j) (n := n) (by omega) with q | ⟨k, hk, e⟩
          · exfalso
            rcases q with q | q
            · have := toInt_neg q; omega
            · have := toInt_ge (by omega) q; omega
          · rw [e, nI_clamp (by omega)]; omega
        exact ih f (j + 1) _ (by omega) (by omega) (or_lt ha hk)
      · rw [if_neg c2, if_neg c2]
        exact ⟨rfl, fun A h => by cases h⟩
/-- a row is a MAP with just the VICTIMS of now -/
def isM (s : ST) (n i : Nat) : Bool := decide (mo n (sV s (lc i + 1)) n 0 0 = some (vset s n))
theorem p5_isMap {s : ST} {n i : Nat} (hF : InvF s n) (hT : InvT s n 5 0) (hi : i < 10) (h1 : sI s (32 * lc i + 1) = nI n) (hl : n ≤ lm i) : f_X5_isMapOfNow (some 0) (some (lc i)) (HP s) = some (if isM s n i then 1 else 0, HP s) := by
  have h6 := hF.le
  obtain ⟨t, ht, hs, -, hS, -⟩ := hT.t
  obtain ⟨l1, l2⟩ := mo_loop hF hi h1 hl n jfuel 0 0 (by omega) (by unfold jfuel; omega) (by omega)
  have l1 : jloop (f_X5_isMapOfNow_b4 (some 0) (some (lc i))) jfuel (0, 0) (HP s) = _ := l1
  unfold isM
  cases hm : mo n (sV s (lc i + 1)) n 0 0 with
  | none =>
    rw [hm] at l1
    simp only [f_X5_isMapOfNow, l1, Option.bind_some]
    simp
  | some A =>
    rw [hm] at l1
    have hA := l2 A hm
    have hv := vset_lt h6 hS
    simp only [f_X5_isMapOfNow, l1, Option.bind_some, gR_0_3, qO_5, if_true, p4_vset hF hT]
    by_cases e : A = vset s n
    · rw [e]; simp
    · have e2 : ¬ nI A = nI (vset s n) := fun z => e ((nI_eq (by omega) (by omega)).mp z)
      simp [e, e2]
/-- the row as the reference sets it down -/
def tri (s : ST) (n i : Nat) : Nat → ST
  | 0 => s
  | m + 1 => uV (tri s n i m) 74 m (if sV s 67 (40 * i + m) = -9 then nI n else sV s 67 (40 * i + m))
theorem tri_S (s : ST) (n i : Nat) : ∀ m, SameS s (tri s n i m)
  | 0 => SameS.rf s
  | m + 1 => (tri_S s n i m).trans (SameS.uV (by unfold ScA; omega))
theorem tri_V (s : ST) (n i : Nat) : ∀ m p, p < m → sV (tri s n i m) 74 p = (if sV s 67 (40 * i + p) = -9 then nI n else sV s 67 (40 * i + p))
  | 0, p, h => by omega
  | m + 1, p, h => by
    rw [tri, sV_uV, if_pos rfl]
    by_cases e : p = m
    · rw [if_pos e, e]
    · rw [if_neg e]
      exact tri_V s n i m p (by omega)
/-- all are PERSONS or nobody -/
def allP (s : ST) (n i : Nat) : Nat → Bool
  | 0 => true
  | m + 1 => allP s n i m && decide (sV s 67 (40 * i + m) = -9 ∨ ∃ k, k < n ∧ sV s 67 (40 * i + m) = nI k)
theorem allP_iff (s : ST) (n i : Nat) : ∀ m, allP s n i m = true ↔ ∀ p, p < m → (sV s 67 (40 * i + p) = -9 ∨ ∃ k, k < n ∧ sV s 67 (40 * i + p) = nI k)
  | 0 => by simp [allP]
  | m + 1 => by
    rw [allP, Bool.and_eq_true, allP_iff s n i m, decide_eq_true_eq]
    constructor
    · rintro ⟨h1, h2⟩ p hp
      by_cases e : p = m
      · rw [e]; exact h2
      · exact h1 p (by omega)
    · intro h
      exact ⟨fun p hp => h p (by omega), h m (by omega)⟩
