/-! ===== mildest ===== -/
theorem lo_congr {n : Nat} {T T' : Nat → Nat} : ∀ (m j l : Nat), (∀ p, j ≤ p → p < j + m → T p = T' p) → lo n T m j l = lo n T' m j l
  | 0, _, _, _ => rfl
  | m + 1, j, l, h => by
    rw [lo, lo, h j (by omega) (by omega), lo_congr m (j + 1) l (fun p h1 h2 => h p (by omega) (by omega)), lo_congr m (j + 1) _ (fun p h1 h2 => h p (by omega) (by omega))]
theorem enl_mem {n : Nat} : ∀ (m : Nat) (T T' : Nat → Nat), m ≤ n → (∀ q, q < n - m ∨ n ≤ q → T' q = T q) → (∀ q, q < n → T' q ≤ n) → T' ∈ enl n m T
  | 0, T, T', _, h1, _ => by
    rw [enl, List.mem_singleton]
    funext q
    exact h1 q (by omega)
  | m + 1, T, T', hm, h1, h2 => by
    rw [enl, List.mem_flatMap]
    refine ⟨T' (n - m - 1), ?_, enl_mem m _ T' (by omega) (fun q hq => ?_) h2⟩
    · rw [List.mem_range'_1]
      have := h2 (n - m - 1) (by omega)
      omega
    · unfold upT
      by_cases e : q = n - m - 1
      · rw [if_pos e, e]
      · rw [if_neg e]
        exact h1 q (by omega)
/-- the set of VICTIMS of the MAP of now, as the class's check takes it -/
theorem mo_now {n : Nat} {W : Nat → Int32} (h6 : n ≤ 6) (h1 : ∀ p, p < n → Vok n p (W p)) (h2 : ∀ p q, p < n → q < n → W p = W q → W p ≠ -9 → p = q) : ∀ (m j a : Nat), j + m = n → (∀ k, a.testBit k = true → ∃ q, q < j ∧ W q = nI k) → mo n W m j a = some (fold (fun p a => inS (W p) a) m j a)
  | 0, _, _, _, _ => rfl
  | m + 1, j, a, hj, ha => by
    rw [mo, fold]
    rcases h1 j (by omega) with h | ⟨k, hk, hkj, h⟩
    · rw [if_pos h, show inS (W j) a = a from if_pos h]
      exact mo_now h6 h1 h2 m (j + 1) a (by omega) (fun k hk => by
        obtain ⟨q, q1, q2⟩ := ha k hk
        exact ⟨q, by omega, q2⟩)
    · have n9 := nI_n9 (show k < 2 ^ 31 by omega)
      have hb : a.testBit k = false := by
        cases hb : a.testBit k with
        | false => rfl
        | true =>
          obtain ⟨q, q1, q2⟩ := ha k hb
          have := h2 q j (by omega) (by omega) (by rw [q2, h]) (by rw [q2]; exact n9)
          omega
      have hne : ¬ nI k = nI j := fun z => hkj ((nI_eq (by omega) (by omega)).mp z)
      have e : inS (W j) a = a ||| 2 ^ k := by unfold inS; rw [h, if_neg n9, nI_clamp (by omega)]
      rw [h, if_neg n9, nI_clamp (by omega), if_pos ⟨⟨by rw [nI_toInt (by omega)]; omega, by rw [nI_toInt (by omega)]; omega⟩, hne, hb⟩, ← h, e]
      exact mo_now h6 h1 h2 m (j + 1) _ (by omega) (fun i hi => by
        rw [tb_or] at hi
        by_cases ei : k = i
        · subst ei
          exact ⟨j, by omega, h⟩
        · simp [ei] at hi
          obtain ⟨q, q1, q2⟩ := ha i hi
          exact ⟨q, by omega, q2⟩)
theorem vset_pow {s : ST} {n t : Nat} (h6 : n ≤ 6) (hS : InvS s n 6 7 8 t 1) : vset s n < 2 ^ n :=
  fold_P (fun a => a < 2 ^ n) n 0 0 (fun k b _ hk hb => by
    show inS (sV s 61 (1 + k)) b < 2 ^ n
    unfold inS
    rcases (hS.1 k (by omega)).2 with h | ⟨q, hq, -, h⟩
    · rw [if_pos h]; exact hb
    · rw [h, if_neg (nI_n9 (by omega)), nI_clamp (by omega)]
      exact Nat.or_lt_two_pow hb (Nat.pow_lt_pow_right (by omega) hq)) (Nat.two_pow_pos n)
theorem Bx1 (s : ST) (n : Nat) : Bx s n 1 = fun _ => 0 := by
  funext q
  unfold Bx
  rw [if_neg (by decide)]
theorem mpl_ne {s : ST} {n t : Nat} (hF : InvF s n) (hS : InvS s n 6 7 8 t 1) : mpl s n (vset s n) 1 ≠ [] := by
  have h6 := hF.le
  have hV := vset_lt h6 hS
  have hm := mo_now (W := fun p => sV s 61 (1 + p)) h6 (fun p hp => (hS.1 p hp).2) (fun p q hp hq e h => hS.2.2.1 p q hp hq e h) n 0 0 (by omega) (fun k h => by rw [Nat.zero_testBit] at h; cases h)
  have hW : ∀ p, p < n → (fun p => sV s 61 (1 + p)) p = -9 ∨ ∃ k, k < n ∧ (fun p => sV s 61 (1 + p)) p = nI k := fun p hp => by
    rcases (hS.1 p hp).2 with h | ⟨k, hk, -, h⟩
    · exact Or.inl h
    · exact Or.inr ⟨k, hk, h⟩
  have hl := (mo_lo (V := vset s n) h6 hV hW n 0 0 (vset s n) (by omega) hV (by omega) (fun k => by rw [Nat.zero_testBit]; simp) (fun k h => by rw [Nat.zero_testBit] at h; cases h)).mp hm
  have hmem : (fun q => if q < n then tW n (fun p => sV s 61 (1 + p)) q else 0) ∈ mpl s n (vset s n) 1 := by
    unfold mpl
    rw [Bx1, trl_enl h6 (fun _ _ => Nat.two_pow_pos n) n 0 _ T0 (by omega) hV, List.mem_filter]
    refine ⟨enl_mem n T0 _ (Nat.le_refl n) (fun q hq => ?_) (fun q hq => ?_), ?_⟩
    · show (if q < n then _ else 0) = 0
      rw [if_neg (by omega)]
    · show (if q < n then _ else 0) ≤ n
      rw [if_pos hq]
      unfold tW
      rcases hW q hq with h | ⟨k, hk, h⟩
      · rw [if_pos h]; exact Nat.le_refl n
      · rw [h, if_neg (nI_n9 (by omega)), nI_clamp (by omega)]; omega
    · unfold okM
      rw [okB_0, Bool.and_true, decide_eq_true_eq, ← hl]
      exact lo_congr n 0 _ (fun p _ hp => if_pos (by omega))
  intro e
  rw [e] at hmem
  cases hmem
/-- all STRENGTHS by a MAP -/
def stF (s : ST) (n : Nat) (T : Nat → Nat) (p a : Nat) : Nat := a + (if T p < n then str s p (T p) else 0)
def stS (s : ST) (n : Nat) (T : Nat → Nat) : Nat := fold (stF s n T) n 0 0
theorem stS_le {s : ST} {n : Nat} (hF : InvF s n) (T : Nat → Nat) : stS s n T ≤ 48 := by
  have h6 := hF.le
  have h : ∀ (m j a : Nat), j + m ≤ n → fold (stF s n T) m j a ≤ a + 8 * m := by
    intro m
    induction m with
    | zero => intro j a _; exact Nat.le_refl _
    | succ m ih =>
      intro j a hj
      rw [fold]
      have h1 := ih (j + 1) (stF s n T j a) (by omega)
      have h2 : stF s n T j a ≤ a + 8 := by
        unfold stF
        split
        · have := str_le (s := s) (T j) hF (show j < n by omega); omega
        · omega
      omega
  have := h n 0 0 (by omega)
  unfold stS
  omega
theorem p6_strT {s : ST} {n : Nat} {T : Nat → Nat} (hF : InvF s n) (hT : Hd s n T) : f_X6_strengthsTried (some 60) (HP s) = some (nI (stS s n T), HP s) := by
  have h6 := hF.le
  have l : jloop (f_X6_strengthsTried_b4 (some 60)) jfuel (0, 0) (HP s) = some (.inr (nI (stS s n T), HP s)) := jfoldG (body := f_X6_strengthsTried_b4 (some 60)) (ah := HP s) (n := n) (fun (a : Nat) j => (nI a, nI j)) (fun a => nI a) (stF s n T) (fun a => by
      simp only [f_X6_strengthsTried_b4, gI_60_1, Option.bind_some, hF.2.1, if_pos (nI_le (Nat.le_refl n) (show n < 2 ^ 31 by omega))]) (fun j a hj => by
      obtain ⟨t1, t2⟩ := hT j hj
      have en : (nI (T j) = nI n) = (T j = n) := propext (nI_eq (by omega) (by omega))
      simp only [f_X6_strengthsTried_b4, gI_60_1, Option.bind_some, hF.2.1, if_neg (nI_ge hj (show n < 2 ^ 31 by omega)), gR_60_24, g74 _ (show j < 6 by omega), t2, en, qO_60, if_true, nI_1, Int32.add_zero, stF]
      by_cases c : T j = n
      · rw [if_pos c, if_neg (by omega)]
        rfl
      · rw [if_neg c, if_pos (by omega), p6_str hF hj (by omega), Option.bind_some, nI_add]) n jfuel 0 0 (by omega) (by unfold jfuel; omega)
  simp only [f_X6_strengthsTried, l, Option.bind_some]
theorem vI_9 {n v : Nat} (h6 : n ≤ 6) : (vI n v = -9) = (¬ v < n) := propext (by
  unfold vI
  by_cases c : v < n
  · rw [if_pos c]
    exact ⟨fun z => absurd z (nI_n9 (by omega)), fun z => absurd c z⟩
  · rw [if_neg c]
    exact ⟨fun _ => c, fun _ => rfl⟩)
theorem p5_strI {s : ST} {n k : Nat} {L : List (Nat → Nat)} (hF : InvF s n) (hA : HA s n L) (hL : L.length ≤ 320) (hk : k < L.length) : f_X5_strengthsIn (some 0) (nI k) (HP s) = some (nI (stS s n (L.getD k T0)), HP s) := by
  have h6 := hF.le
  have l : jloop (f_X5_strengthsIn_b4 (some 0) (nI k)) jfuel (0, 0) (HP s) = some (.inr (nI (stS s n (L.getD k T0)), HP s)) := jfoldG (body := f_X5_strengthsIn_b4 (some 0) (nI k)) (ah := HP s) (n := n) (fun (a : Nat) j => (nI a, nI j)) (fun a => nI a) (stF s n (L.getD k T0)) (fun a => by
      simp only [f_X5_strengthsIn_b4, gR_0_8, Option.bind_some, fk_n, hF.2.2.1, if_pos (nI_le (Nat.le_refl n) (show n < 2 ^ 31 by omega))]) (fun j a hj => by
      simp only [f_X5_strengthsIn_b4, gR_0_8, Option.bind_some, fk_n, hF.2.2.1, if_neg (nI_ge hj (show n < 2 ^ 31 by omega)), gR_0_5, qO_10, if_true, p0_victimIn h6 hA hL hk hj, vI_9 h6, fk_q, nI_1, Int32.add_zero, stF]
      by_cases c : L.getD k T0 j < n
      · rw [if_neg (fun z => z c), if_pos c, show vI n (L.getD k T0 j) = nI (L.getD k T0 j) from if_pos c, p1_str hF hj c, Option.bind_some, nI_add]
      · rw [if_pos c, if_neg c]
        rfl) n jfuel 0 0 (by omega) (by unfold jfuel; omega)
  simp only [f_X5_strengthsIn, l, Option.bind_some]
/-- the first of the least -/
def mnF (st : (Nat → Nat) → Nat) (T : Nat → Nat) (a : Option (Nat × (Nat → Nat))) : Option (Nat × (Nat → Nat)) := match a with
  | none => some (st T, T)
  | some q => if q.1 ≤ st T then some q else some (st T, T)
def GM (ok : (Nat → Nat) → Bool) (st : (Nat → Nat) → Nat) (T : Nat → Nat) (a : Option (Nat × (Nat → Nat))) : Option (Nat × (Nat → Nat)) := if ok T then mnF st T a else a
theorem GM_fold (ok : (Nat → Nat) → Bool) (st : (Nat → Nat) → Nat) (l : List (Nat → Nat)) (a : Option (Nat × (Nat → Nat))) : l.foldl (fun a T => GM ok st T a) a = (l.filter ok).foldl (fun a T => mnF st T a) a := by
  induction l generalizing a with
  | nil => rfl
  | cons T l ih =>
    rw [List.foldl_cons, ih, List.filter_cons]
    unfold GM
    cases h : ok T with
    | true => rw [if_pos rfl, if_pos rfl, List.foldl_cons]
    | false => rw [if_neg (by simp), if_neg (by simp)]
theorem mild5 {s : ST} {n : Nat} {L : List (Nat → Nat)} (hF : InvF s n) (hA : HA s n L) (hL : L.length ≤ 320) (y : Option Nat) : ∀ (m f j b : Nat) (v : Nat), j + m = L.length → m < f → (L.take j).foldl (fun a T => mnF (stS s n) T a) none = some (v, L.getD b T0) → b < L.length → v ≤ 48 → ∃ b' v', jloop (f_X5_mildest_b59 (some 0) y) f (nI b, nI v, nI j) (HP s) = some (.inr ((nI b', nI v'), HP s)) ∧ L.foldl (fun a T => mnF (stS s n) T a) none = some (v', L.getD b' T0) ∧ b' < L.length ∧ v' ≤ 48 := by
  have h6 := hF.le
  intro m
  induction m with
  | zero =>
    intro f j b v hj hf h hb hv
    obtain ⟨f, rfl⟩ : ∃ f', f = f' + 1 := ⟨f - 1, by omega⟩
    rw [List.take_of_length_le (by omega)] at h
    refine ⟨b, v, ?_, h, hb, hv⟩
    rw [jloop]
    simp only [f_X5_mildest_b59, gR_0_5, Option.bind_some, gI_10_3, hA.1, if_pos (nI_le (show L.length ≤ j by omega) (show j < 2 ^ 31 by omega))]
  | succ m ih =>
    intro f j b v hj hf h hb hv
    obtain ⟨f, rfl⟩ : ∃ f', f = f' + 1 := ⟨f - 1, by omega⟩
    have hj' : j < L.length := by omega
    have hst := stS_le hF (L.getD j T0)
    have ele : (nI v ≤ nI (stS s n (L.getD j T0))) = (v ≤ stS s n (L.getD j T0)) := propext (nI_leI (by omega) (by omega))
    have et : (L.take (j + 1)).foldl (fun a T => mnF (stS s n) T a) none = mnF (stS s n) (L.getD j T0) (some (v, L.getD b T0)) := by
      rw [List.take_succ, List.foldl_append, h, List.getElem?_eq_getElem hj', List.getD_eq_getElem?_getD (l := L) (i := j), List.getElem?_eq_getElem hj']
      rfl
    by_cases c : v ≤ stS s n (L.getD j T0)
    · obtain ⟨b', v', w1, w2⟩ := ih f (j + 1) b v (by omega) (by omega) (by rw [et]; exact if_pos c) hb hv
      refine ⟨b', v', ?_, w2⟩
      rw [jloop]
      simp only [f_X5_mildest_b59, gR_0_5, Option.bind_some, gI_10_3, hA.1, if_neg (nI_ge hj' (show L.length < 2 ^ 31 by omega)), qO_0, if_true, p5_strI hF hA hL hj', ele, if_pos c, nI_1]
      exact w1
    · obtain ⟨b', v', w1, w2⟩ := ih f (j + 1) j (stS s n (L.getD j T0)) (by omega) (by omega) (by rw [et]; exact if_neg c) hj' hst
      refine ⟨b', v', ?_, w2⟩
      rw [jloop]
      simp only [f_X5_mildest_b59, gR_0_5, Option.bind_some, gI_10_3, hA.1, if_neg (nI_ge hj' (show L.length < 2 ^ 31 by omega)), qO_0, if_true, p5_strI hF hA hL hj', ele, if_neg c, nI_1]
      exact w1
/-- all but a row and what is set down for a while is as it was -/
def RwS (i : Nat) (s s' : ST) : Prop := sW s' = sW s ∧ sL s' = sL s ∧ (∀ k, ¬ ScA k → k ≠ 66 → k ≠ 67 → k ≠ lc i + 1 → sV s' k = sV s k) ∧ (∀ j, j ≠ i → sV s' 66 j = sV s 66 j) ∧ (∀ j, j < 40 * i ∨ 40 * i + 40 ≤ j → sV s' 67 j = sV s 67 j) ∧ ∀ k, ¬ ScI k → k ≠ 32 * lc i + 1 → sI s' k = sI s k
theorem RwS.trans {i : Nat} {a b c : ST} (h : RwS i a b) (k : RwS i b c) : RwS i a c := ⟨k.1.trans h.1, k.2.1.trans h.2.1, fun j a1 a2 a3 a4 => (k.2.2.1 j a1 a2 a3 a4).trans (h.2.2.1 j a1 a2 a3 a4), fun j hj => (k.2.2.2.1 j hj).trans (h.2.2.2.1 j hj), fun j hj => (k.2.2.2.2.1 j hj).trans (h.2.2.2.2.1 j hj), fun j a1 a2 => (k.2.2.2.2.2 j a1 a2).trans (h.2.2.2.2.2 j a1 a2)⟩
theorem RwS.of {i : Nat} {a b : ST} (h : SameS a b) : RwS i a b := ⟨h.1, h.2.1, fun j a1 _ _ _ => h.2.2.1 j a1, fun j _ => by rw [h.2.2.1 66 (by unfold ScA; omega)], fun j _ => by rw [h.2.2.1 67 (by unfold ScA; omega)], fun j a1 _ => h.2.2.2 j a1⟩
theorem RwS.T {i : Nat} (hi : i < 6) {a b : ST} (h : RwS i a b) : SameT a b := ⟨h.1, fun k hk => h.2.2.1 k (by unfold ScA; unfold TyT at hk; omega) (by unfold TyT at hk; omega) (by unfold TyT at hk; omega) (by unfold TyT at hk; unfold lc; omega), fun k hk => h.2.2.2.2.2 k (by unfold ScI; unfold IdT at hk; omega) (by unfold IdT at hk; unfold lc; omega)⟩
theorem inv_Rw {s s' : ST} (hI : Inv s) {i : Nat} (hi : i < 6) (h : RwS i s s') (hn : InvL s' (lc i) 66 i 67 (40 * i) 40) : Inv s' := by
  refine ⟨InvA_same (h.T hi) hI.1, InvR_row hI.2.1 hi (fun k a1 a2 a3 => h.2.2.2.2.2 k (by unfold ScI; omega) a3) (fun k a1 a2 a3 => h.2.2.1 k (by unfold ScA; omega) (by omega) (by omega) a3) h.2.2.2.1 h.2.2.2.2.1 (h.2.2.1 68 (by unfold ScA; omega) (by omega) (by omega) (by unfold lc; omega)) (h.2.2.1 69 (by unfold ScA; omega) (by omega) (by omega) (by unfold lc; omega)) hn, InvM_same (SameM_of (fun k hk => h.2.2.2.2.2 k (by unfold ScI; omega) (by unfold lc; omega)) h.2.1 (h.2.2.1 15 (by unfold ScA; omega) (by omega) (by omega) (by unfold lc; omega)) (h.2.2.1 70 (by unfold ScA; omega) (by omega) (by omega) (by unfold lc; omega))) hI.2.2⟩
theorem str_T {s s' : ST} (h : SameT s s') : str s' = str s := by
  have e62 : sV s' 62 = sV s 62 := h.2.1 62 (by unfold TyT; omega)
  have e64 : sV s' 64 = sV s 64 := h.2.1 64 (by unfold TyT; omega)
  have e65 : sV s' 65 = sV s 65 := h.2.1 65 (by unfold TyT; omega)
  funext p q
  unfold str pw kN zN
  rw [e62, e64, e65]
theorem stS_T {s s' : ST} (h : SameT s s') : stS s' = stS s := by
  funext n T
  unfold stS stF
  rw [str_T h]
/-- the class's row as it tells the MAP -/
def rowM (s : ST) (i n : Nat) (T : Nat → Nat) : ST := setR (renew s i n (-9)) (lc i + 1) 0 (fun p => vI n (T p)) n
theorem renew_Rw {s : ST} {i n : Nat} (hi : i < 6) (v : Int32) : RwS i s (renew s i n v) := by
  unfold renew
  refine ⟨fillV_W _ _ _ _ _, fillV_L _ _ _ _ _, fun k _ _ _ a4 => ?_, fun j _ => ?_, fun j _ => ?_, fun k _ a2 => ?_⟩
  · rw [fillV_ne a4, sV_uI]
  · by_cases e : 66 = lc i + 1
    · unfold lc at e; omega
    · rw [fillV_ne e, sV_uI]
  · by_cases e : 67 = lc i + 1
    · unfold lc at e; omega
    · rw [fillV_ne e, sV_uI]
  · rw [fillV_I, sI_uI, if_neg a2]
theorem setR_Rw {s : ST} {i : Nat} (hi : i < 6) {f : Nat → Int32} {m : Nat} : RwS i s (setR s (lc i + 1) 0 f m) := ⟨rfl, rfl, fun k _ _ _ a4 => sV_setRne a4, fun j _ => by rw [sV_setRne (by unfold lc; omega)], fun j _ => by rw [sV_setRne (by unfold lc; omega)], fun _ _ _ => rfl⟩
theorem rowM_loop {s : ST} {n i b : Nat} {L : List (Nat → Nat)} (hF : InvF s n) (hi : i < 6) (hA : HA s n L) (hL : L.length ≤ 320) (hb : b < L.length) (x : Int32) : jloop (f_X5_mildest_b115 (some 0) (some (lc i)) (nI b) x) jfuel 0 (HP (renew s i n (-9))) = some (.inr ((), HP (rowM s i n (L.getD b T0)))) := by
  have h6 := hF.le
  have hi10 : i < 10 := by omega
  have hlm : n ≤ lm i := by rw [lm_r hi]; omega
  have hA0 : HA (renew s i n (-9)) n L := HA_D hA (by unfold renew; rw [fillV_ne (by unfold lc; omega), sV_uI]) (by unfold renew; rw [fillV_I, sI_uI, if_neg (by unfold lc; omega)]) (by unfold renew; rw [fillV_I, sI_uI, if_neg (by unfold lc; omega)])
  have hF0 : InvF (renew s i n (-9)) n := InvF_same ((renew_Rw hi (-9)).T hi) hF
  have z0 : sI (renew s i n (-9)) (32 * lc i + 1) = nI n := by unfold renew; rw [fillV_I, sI_uI, if_pos rfl]
  have l : jloop (f_X5_mildest_b115 (some 0) (some (lc i)) (nI b) x) jfuel (nI 0) (HP (setR (renew s i n (-9)) (lc i + 1) 0 (fun p => vI n (L.getD b T0 p)) 0)) = some (.inr ((), HP (setR (renew s i n (-9)) (lc i + 1) 0 (fun p => vI n (L.getD b T0 p)) n))) := by
    refine jseq (n := n) (fun j => nI j) (fun j => HP (setR (renew s i n (-9)) (lc i + 1) 0 (fun p => vI n (L.getD b T0 p)) j)) ?_ (fun j hj => ?_) n jfuel 0 (by omega) (by unfold jfuel; omega)
    · have hF' : InvF (setR (renew s i n (-9)) (lc i + 1) 0 (fun p => vI n (L.getD b T0 p)) n) n := InvF_same ((setR_Rw hi).T hi) hF0
      simp only [f_X5_mildest_b115, gR_0_8, Option.bind_some, fk_n, hF'.2.2.1, if_pos (nI_le (Nat.le_refl n) (show n < 2 ^ 31 by omega))]
    · have hF' : InvF (setR (renew s i n (-9)) (lc i + 1) 0 (fun p => vI n (L.getD b T0 p)) j) n := InvF_same ((setR_Rw hi).T hi) hF0
      have hA' : HA (setR (renew s i n (-9)) (lc i + 1) 0 (fun p => vI n (L.getD b T0 p)) j) n L := HA_D hA0 (sV_setRne (by unfold lc; omega)) rfl rfl
      have z' : sI (setR (renew s i n (-9)) (lc i + 1) 0 (fun p => vI n (L.getD b T0 p)) j) (32 * lc i + 1) = nI n := z0
      have e1 : uV (setR (renew s i n (-9)) (lc i + 1) 0 (fun p => vI n (L.getD b T0 p)) j) (lc i + 1) j (vI n (L.getD b T0 j)) = setR (renew s i n (-9)) (lc i + 1) 0 (fun p => vI n (L.getD b T0 p)) (j + 1) := setR_1z _ _ (fun p => vI n (L.getD b T0 p)) j
      simp only [f_X5_mildest_b115, gR_0_8, Option.bind_some, fk_n, hF'.2.2.1, if_neg (nI_ge hj (show n < 2 ^ 31 by omega)), gR_0_5, qO_10, if_true, p0_victimIn h6 hA' hL hb hj, ln_q _ hi10, p2_set _ hi10 z' hlm hj, nI_1, e1]
  rw [setR_0] at l
  exact l
def lsI (a : Option (Nat × (Nat → Nat))) : Int32 := match a with
  | none => -9
  | some q => nI q.1
/-- the reference's row as it tells the MAP -/
def rowR (s : ST) (i n : Nat) (T : Nat → Nat) : ST := setR (mkRow s i (nI n)) 67 (40 * i) (fun p => vI n (T p)) n
theorem mkRow_Rw {s : ST} {i : Nat} (v : Int32) : RwS i s (mkRow s i v) := by
  unfold mkRow
  refine ⟨fillV_W _ _ _ _ _, fillV_L _ _ _ _ _, fun k _ a2 a3 _ => ?_, fun j hj => ?_, fun j hj => ?_, fun k _ _ => ?_⟩
  · rw [fillV_ne a3, sV_uVne a2]
  · rw [fillV_ne (by omega), sV_uV, if_pos rfl, if_neg hj]
  · rw [fillV_in, if_neg (by omega), sV_uVne (by omega)]
  · rw [fillV_I, sI_uV]
theorem set67_Rw {s : ST} {i n : Nat} {f : Nat → Int32} (hn : n ≤ 40) : RwS i s (setR s 67 (40 * i) f n) := ⟨rfl, rfl, fun k _ _ a3 _ => sV_setRne a3, fun j _ => by rw [sV_setRne (by omega)], fun j hj => sV_setRout (by omega), fun _ _ _ => rfl⟩
theorem rowR_loop {s : ST} {n i : Nat} {T : Nat → Nat} (hF : InvF s n) (hi : i < 6) (hT : Hd s n T) (x y : Int32) : jloop (f_X6_mildest_b102 (some 60) (nI i) x y) jfuel 0 (HP (mkRow s i (nI n))) = some (.inr ((), HP (rowR s i n T))) := by
  have h6 := hF.le
  have hF0 : InvF (mkRow s i (nI n)) n := InvF_same ((mkRow_Rw _).T hi) hF
  have e74 : sV (mkRow s i (nI n)) 74 = sV s 74 := by unfold mkRow; rw [fillV_ne (by omega), sV_uVne (by omega)]
  have l : jloop (f_X6_mildest_b102 (some 60) (nI i) x y) jfuel (nI 0) (HP (setR (mkRow s i (nI n)) 67 (40 * i) (fun p => vI n (T p)) 0)) = some (.inr ((), HP (setR (mkRow s i (nI n)) 67 (40 * i) (fun p => vI n (T p)) n))) := by
    refine jseq (n := n) (fun j => nI j) (fun j => HP (setR (mkRow s i (nI n)) 67 (40 * i) (fun p => vI n (T p)) j)) ?_ (fun j hj => ?_) n jfuel 0 (by omega) (by unfold jfuel; omega)
    · have hF' : InvF (setR (mkRow s i (nI n)) 67 (40 * i) (fun p => vI n (T p)) n) n := InvF_same ((set67_Rw (by omega)).T hi) hF0
      simp only [f_X6_mildest_b102, gI_60_1, Option.bind_some, hF'.2.1, if_pos (nI_le (Nat.le_refl n) (show n < 2 ^ 31 by omega))]
    · have hF' : InvF (setR (mkRow s i (nI n)) 67 (40 * i) (fun p => vI n (T p)) j) n := InvF_same ((set67_Rw (by omega)).T hi) hF0
      obtain ⟨t1, t2⟩ := hT j hj
      have e : sV (setR (mkRow s i (nI n)) 67 (40 * i) (fun p => vI n (T p)) j) 74 j = nI (T j) := by rw [sV_setRne (by omega), e74]; exact t2
      have en : (nI (T j) = nI n) = (T j = n) := propext (nI_eq (by omega) (by omega))
      have e1 : uV (setR (mkRow s i (nI n)) 67 (40 * i) (fun p => vI n (T p)) j) 67 (40 * i + j) (vI n (T j)) = setR (mkRow s i (nI n)) 67 (40 * i) (fun p => vI n (T p)) (j + 1) := setR_1 _ _ _ (fun p => vI n (T p)) j
      simp only [f_X6_mildest_b102, f_X6_mildest_b102_j148, gI_60_1, Option.bind_some, hF'.2.1, if_neg (nI_ge hj (show n < 2 ^ 31 by omega)), gR_60_8, gR_60_24, g74 _ (show j < 6 by omega), e, en, sA67 _ hi (show j < 40 by omega), nI_1]
      rw [← e1]
      by_cases c : T j = n
      · rw [if_pos c, show vI n (T j) = -9 from if_neg (by omega)]
      · rw [if_neg c, show vI n (T j) = nI (T j) from if_pos (by omega)]
  rw [setR_0] at l
  exact l
theorem ag_mildest {s : ST} (hI : Inv s) (a0 : Int32) : ∃ (v : Int32) (s1 s2 : ST), f_X5_mildest (some 0) a0 (HP s) = some (v, HP s1) ∧ f_X6_mildest (some 60) a0 (HP s1) = some (v, HP s2) ∧ Inv s2 := by
  obtain ⟨n, hF, hT, hK⟩ := hI.1
  have h6 := hF.le
  obtain ⟨t, ht, hs, hs0, hS, hP⟩ := hT.t
  rcases ix6 a0 with h0 | ⟨i, hi, rfl⟩
  · refine ⟨-1, s, s, ?_, ?_, hI⟩
    · simp only [f_X5_mildest, gR_0_0, Option.bind_some, p5_rowNo s h0, if_true]
    · simp only [f_X6_mildest, isRow_no h0, Option.bind_some, if_true]
  have hi10 : i < 10 := by omega
  by_cases hn : n = 0
  · subst hn
    refine ⟨-4, s, s, ?_, ?_, hI⟩
    · simp only [f_X5_mildest, gR_0_0, Option.bind_some, p5_rowAt s hi rfl, reduceCtorEq, if_false, gR_0_8, fk_n, hF.2.2.1, if_pos (show nI 0 = 0 from rfl)]
    · simp only [f_X6_mildest, isRow_yes hi, Option.bind_some, n10, if_false, gI_60_1, hF.2.1, if_pos (show nI 0 = 0 from rfl)]
  have hV := vset_pow h6 hS
  have hV64 := vset_lt h6 hS
  have hlm : n ≤ lm i := by rw [lm_r hi]; omega
  obtain ⟨sA, c1, c2, c3⟩ := p0_seek (x := 1) hF hV
  have hlen := mpl_len (x := 1) hF hV
  have hne := mpl_ne hF hS
  have hml : mpl s n (vset s n) 1 = (enl n n T0).filter (okM n (fun _ => 0) n 0 (vset s n)) := by
    unfold mpl
    rw [Bx1]
    exact trl_enl h6 (fun _ _ => Nat.two_pow_pos n) n 0 _ T0 (by omega) hV64
  generalize hL : mpl s n (vset s n) 1 = L at c3 hlen hne hml
  have h0 : 0 < L.length := List.length_pos_iff.mpr hne
  have hFA := InvF_S c2 hF
  have eST : stS sA = stS s := stS_T ((RwS.of (i := i) c2).T hi)
  have hst0 := stS_le hF (L.getD 0 T0)
  obtain ⟨b, v, m1, m2, m3, m4⟩ := mild5 hFA c3 (by omega) (some (lc i)) (L.length - 1) jfuel 1 0 (stS s n (L.getD 0 T0)) (by omega) (by unfold jfuel; omega) (by
    rw [eST]
    cases L with
    | nil => exact absurd rfl hne
    | cons T l => rfl) h0 hst0
  have m1 : jloop (f_X5_mildest_b59 (some 0) (some (lc i))) jfuel (0, nI (stS s n (L.getD 0 T0)), 1) (HP sA) = _ := m1
  have q0 : f_X5_strengthsIn (some 0) 0 (HP sA) = some (nI (stS s n (L.getD 0 T0)), HP sA) := by
    have := p5_strI hFA c3 (by omega) h0
    rw [eST] at this
    exact this
  rw [eST] at m2
  generalize hTb : L.getD b T0 = Tb at m2
  have rl := rowM_loop hFA hi c3 (show L.length ≤ 320 by omega) m3 (nI v)
  rw [hTb] at rl
  -- the class is through; the reference
  have hRw1 : RwS i s (rowM sA i n Tb) := ((RwS.of c2).trans (renew_Rw hi (-9))).trans (setR_Rw hi)
  generalize hs1 : rowM sA i n Tb = s1 at rl hRw1
  have z1 : sI s1 (32 * lc i + 1) = nI n := by rw [← hs1]; unfold rowM renew; rw [sI_setR, fillV_I, sI_uI, if_pos rfl]
  have z3 : ∀ p, p < n → sV s1 (lc i + 1) p = vI n (Tb p) := fun p hp => by rw [← hs1]; unfold rowM; exact sV_setRz hp
  have hT1 := hRw1.T hi
  have hF1 := InvF_same hT1 hF
  have hS1 : InvS s1 n 6 7 8 t 1 := InvS_same (hT1.2.1 6 (by unfold TyT; omega)) (hT1.2.1 7 (by unfold TyT; omega)) (hT1.2.1 8 (by unfold TyT; omega)) (hT1.2.1 61 (by unfold TyT; omega)) (hT1.2.1 63 (by unfold TyT; omega)) hS
  have ev1 : vset s1 n = vset s n := by unfold vset; rw [hT1.2.1 61 (by unfold TyT; omega)]
  have l1 := tried0 hF1 (body := f_X6_mildest_b30 (some 60) (nI i) (nI (vset s n)) (-9)) (fun _ _ => rfl)
  have hS2 : SameS s1 (setR s1 74 0 (fun _ => 0) n) := SameS.uA (by unfold ScA; omega)
  obtain ⟨⟨r, d1⟩, ⟨r2, d2⟩, d3⟩ := enl_ch (n := n) n T0 (Nat.le_refl n) (fun _ _ _ => rfl)
  have hel := enl_len (n := n) n T0
  have hall := all_lt h6
  obtain ⟨s3, T3, w1, w2⟩ := odo (n := n) (body := f_X6_mildest_b56 (some 60) (nI i) (nI (vset s n))) (fun a on => (lsI a, on)) (fun a => lsI a) (GM (okM n (fun _ => 0) n 0 (vset s n)) (stS s n)) (fun a T s' => (RwS i s1 s' ∧ sV s' (lc i + 1) = sV s1 (lc i + 1) ∧ sI s' (32 * lc i + 1) = sI s1 (32 * lc i + 1)) ∧ Hd s' n T ∧ ∀ q, a = some q → q.1 ≤ 48 ∧ sV s' 66 i = nI n ∧ ∀ p, p < n → sV s' 67 (40 * i + p) = vI n (q.2 p)) none (enl n n T0) (fun a s' => by
      simp only [f_X6_mildest_b56, if_true]) (fun pre T post s' hE hP => by
      generalize pre.foldl (fun a T => GM (okM n (fun _ => 0) n 0 (vset s n)) (stS s n) T a) none = a at hP ⊢
      obtain ⟨⟨p1, p1b, p1c⟩, p2, p3⟩ := hP
      have hF' := InvF_same (p1.T hi) hF1
      have eS' : stS s' = stS s := (stS_T (p1.T hi)).trans (stS_T hT1)
      obtain ⟨y, y1, y2⟩ := p6_leftOf (V := vset s n) hF' p2 hV64
      have st1 := p6_strT hF' p2
      rw [eS'] at st1
      have hst := stS_le hF T
      obtain ⟨s4, u1, u2, u3⟩ := p6_next hF' p2
      have keep : (RwS i s1 s4 ∧ sV s4 (lc i + 1) = sV s1 (lc i + 1) ∧ sI s4 (32 * lc i + 1) = sI s1 (32 * lc i + 1)) ∧ Hd s4 n (nxt n n T).2 ∧ ∀ q, a = some q → q.1 ≤ 48 ∧ sV s4 66 i = nI n ∧ ∀ p, p < n → sV s4 67 (40 * i + p) = vI n (q.2 p) :=
        ⟨⟨p1.trans (RwS.of u2.S), (u2.2.2.1 _ (by unfold lc; omega)).trans p1b, by rw [u2.2.2.2]; exact p1c⟩, u3, fun q hq => by
          rw [u2.2.2.1 66 (by omega), u2.2.2.1 67 (by omega)]
          exact p3 q hq⟩
      have take : ∃ s5, f_X6_mildest_b56_j87 (some 60) (nI i) (nI (vset s n)) (nI (stS s n T)) (HP s') = some (.inr (.inr ((nI (stS s n T), if (nxt n n T).1 then 1 else 0), HP s5))) ∧ (RwS i s1 s5 ∧ sV s5 (lc i + 1) = sV s1 (lc i + 1) ∧ sI s5 (32 * lc i + 1) = sI s1 (32 * lc i + 1)) ∧ Hd s5 n (nxt n n T).2 ∧ sV s5 66 i = nI n ∧ ∀ p, p < n → sV s5 67 (40 * i + p) = vI n (T p) := by
        have hRr : RwS i s' (rowR s' i n T) := (mkRow_Rw _).trans (set67_Rw (by omega))
        have hFr := InvF_same (hRr.T hi) hF'
        have e74 : sV (rowR s' i n T) 74 = sV s' 74 := by unfold rowR mkRow; rw [sV_setRne (by omega), fillV_ne (by omega), sV_uVne (by omega)]
        obtain ⟨s5, q1, q2, q3⟩ := p6_next (T := T) hFr (fun p hp => ⟨(p2 p hp).1, by rw [e74]; exact (p2 p hp).2⟩)
        refine ⟨s5, ?_, ⟨(p1.trans hRr).trans (RwS.of q2.S), ?_, ?_⟩, q3, ?_, fun p hp => ?_⟩
        · simp -implicitDefEqProofs only [f_X6_mildest_b56_j87, f_X6_mildest_b56_j155, gI_60_1, Option.bind_some, hF'.2.1, qO_60, if_true, p6_makeRow s' hi (nI n), rowR_loop hF' hi p2, q1]
        · rw [q2.2.2.1 _ (by unfold lc; omega)]
          unfold rowR mkRow
          rw [sV_setRne (by unfold lc; omega), fillV_ne (by unfold lc; omega), sV_uVne (by unfold lc; omega)]
          exact p1b
        · rw [q2.2.2.2]
          unfold rowR mkRow
          rw [sI_setR, fillV_I, sI_uV]
          exact p1c
        · rw [q2.2.2.1 66 (by omega)]
          unfold rowR mkRow
          rw [sV_setRne (by omega), fillV_ne (by omega), sV_uV, if_pos rfl, if_pos rfl]
        · rw [q2.2.2.1 67 (by omega)]
          exact sV_setRin hp
      by_cases cy : y = 0
      · have hok : okM n (fun _ => 0) n 0 (vset s n) T = true := by
          unfold okM
          rw [decide_eq_true (y2.mp cy), okB_0]
          rfl
        have eG : GM (okM n (fun _ => 0) n 0 (vset s n)) (stS s n) T a = mnF (stS s n) T a := if_pos hok
        rw [eG]
        obtain ⟨s5, x1, x2, x3, x4, x5⟩ := take
        cases a with
        | none =>
          refine ⟨s5, ?_, x2, x3, fun q hq => ?_⟩
          · simp -implicitDefEqProofs only [f_X6_mildest_b56, n10, if_false, qO_60, if_true, y1, Option.bind_some, cy, st1, lsI, x1, mnF]
          · cases hq
            exact ⟨hst, x4, x5⟩
        | some q =>
          obtain ⟨g1, g2, g3⟩ := p3 q rfl
          have n9 := nI_n9 (show q.1 < 2 ^ 31 by omega)
          have ele : (nI q.1 ≤ nI (stS s n T)) = (q.1 ≤ stS s n T) := propext (nI_leI (by omega) (by omega))
          by_cases cl : q.1 ≤ stS s n T
          · have em : mnF (stS s n) T (some q) = some q := if_pos cl
            rw [em]
            refine ⟨s4, ?_, keep⟩
            simp -implicitDefEqProofs only [f_X6_mildest_b56, f_X6_mildest_b56_j155, n10, if_false, qO_60, if_true, y1, Option.bind_some, cy, st1, lsI, n9, ele, cl, u1]
          · have em : mnF (stS s n) T (some q) = some (stS s n T, T) := if_neg cl
            rw [em]
            refine ⟨s5, ?_, x2, x3, fun q hq => ?_⟩
            · simp -implicitDefEqProofs only [f_X6_mildest_b56, n10, if_false, qO_60, if_true, y1, Option.bind_some, cy, st1, lsI, n9, ele, cl, x1]
            · cases hq
              exact ⟨hst, x4, x5⟩
      · have hok : okM n (fun _ => 0) n 0 (vset s n) T = false := by
          unfold okM
          rw [decide_eq_false (fun z => cy (y2.mpr z))]
          rfl
        have eG : GM (okM n (fun _ => 0) n 0 (vset s n)) (stS s n) T a = a := if_neg (by rw [hok]; simp)
        rw [eG]
        refine ⟨s4, ?_, keep⟩
        simp -implicitDefEqProofs only [f_X6_mildest_b56, f_X6_mildest_b56_j155, n10, if_false, qO_60, if_true, y1, Option.bind_some, cy, u1]) r [] T0 (setR s1 74 0 (fun _ => 0) n) jfuel (by rw [d1]; rfl) (by rw [← d1]; exact d3) (fun _ => Or.inr trivial) ⟨r2, by rw [← d1]; exact d2⟩ ⟨⟨RwS.of hS2, sV_setRne (by unfold lc; omega), rfl⟩, fun p hp => ⟨Nat.zero_le n, sV_setRz hp⟩, fun q hq => by cases hq⟩ (by
        rw [d1, List.length_cons] at hel
        unfold jfuel
        omega)
  have eE : (enl n n T0).foldl (fun a T => GM (okM n (fun _ => 0) n 0 (vset s n)) (stS s n) T a) none = some (v, Tb) := by rw [GM_fold, ← hml, m2]
  rw [eE] at w1 w2
  have w1 : jloop (f_X6_mildest_b56 (some 60) (nI i) (nI (vset s n))) jfuel (-9, 1) (HP (setR s1 74 0 (fun _ => 0) n)) = some (.inr (nI v, HP s3)) := w1
  obtain ⟨⟨f1', f2', f3'⟩, -, f4'⟩ := w2
  obtain ⟨-, f5', f6'⟩ := f4' _ rfl
  refine ⟨nI v, s1, s3, ?_, ?_, inv_Rw hI hi (hRw1.trans f1') (Or.inr ⟨n, by omega, by rw [f3']; exact z1, f5', fun k hk => by rw [f2', z3 k hk, f6' k hk]⟩)⟩
  · simp -implicitDefEqProofs only [f_X5_mildest, gR_0_0, Option.bind_some, p5_rowAt s hi rfl, reduceCtorEq, if_false, gR_0_8, fk_n, hF.2.2.1, n_eq0 h6, hn, gR_0_5, gR_0_3, qO_5, if_true, p4_vset hF hT, qO_10, c1, qO_0, q0, m1, hFA.2.2.1, ln_q _ hi10, p2_renew sA hi10 hlm (-9), rl]
  · have e2 := p6_vset hF1 hS1
    rw [ev1] at e2
    simp -implicitDefEqProofs only [f_X6_mildest, isRow_yes hi, Option.bind_some, n10, if_false, gI_60_1, hF1.2.1, n_eq0 h6, hn, qO_60, if_true, e2, l1, w1]
