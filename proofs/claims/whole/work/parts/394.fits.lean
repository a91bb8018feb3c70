/-! ===== which MAPS fit a row of weeks ===== -/
def okW (n : Nat) (w : Int32) : Prop := 0 ≤ w.toInt ∧ w.toInt ≤ ((2 ^ n - 1 : Nat) : Int)
theorem okW_n {n : Nat} {w : Int32} (h6 : n ≤ 6) (h : okW n w) : w.toNatClampNeg < 2 ^ n ∧ w = nI w.toNatClampNeg := by
  have h64 := pow64 h6
  have hp := Nat.two_pow_pos n
  obtain ⟨h1, h2⟩ := h
  rcases ix_n w (n := 2 ^ n) (by omega) with q | ⟨k, hk, e⟩
  · exfalso
    rcases q with q | q
    · have := toInt_neg q; omega
    · have := toInt_ge (by omega) q; omega
  · rw [e, nI_clamp (by omega)]
    exact ⟨hk, rfl⟩
def alW (n : Nat) (W : Nat → Int32) : Nat → Nat → Prop
  | 0, _ => True
  | m + 1, j => okW n (W j) ∧ alW n W m (j + 1)
theorem alW_at {n : Nat} {W : Nat → Int32} : ∀ (m j : Nat), alW n W m j → ∀ k, j ≤ k → k < j + m → okW n (W k)
  | 0, j, _, k, h1, h2 => by omega
  | m + 1, j, h, k, h1, h2 => by
    by_cases e : k = j
    · rw [e]; exact h.1
    · exact alW_at m (j + 1) h.2 k (by omega) (by omega)
theorem alW_congr {n : Nat} {W W' : Nat → Int32} : ∀ (m j : Nat), (∀ k, j ≤ k → k < j + m → W k = W' k) → (alW n W m j ↔ alW n W' m j)
  | 0, _, _ => Iff.rfl
  | m + 1, j, h => by
    rw [alW, alW, h j (by omega) (by omega), alW_congr m (j + 1) (fun k h1 h2 => h k (by omega) (by omega))]
theorem n_rem2 {m : Nat} (h : m < 2 ^ 31) : nI m - nI m / 2 * 2 = nI (m % 2) := pk_rem (d := 2) h (by omega) (by omega)
theorem rw_loop {s : ST} {n i z : Nat} (hF : InvF s n) (hi : i < 10) (h1 : sI s (32 * lc i + 1) = nI z) (hl : z ≤ lm i) : ∀ (m f j : Nat), j + m = z → m < f → (alW n (sV s (lc i + 1)) m j → jloop (f_X5_refuseWeeks_b29 (some 0) (some (lc i))) f (nI j) (HP s) = some (.inr ((), HP s))) ∧ (¬ alW n (sV s (lc i + 1)) m j → jloop (f_X5_refuseWeeks_b29 (some 0) (some (lc i))) f (nI j) (HP s) = some (.inl (-3, HP (fnd5 s 3)))) := by
  have h6 := hF.le
  have hlm := lm_pos i
  have h64 := pow64 h6
  have hpp := Nat.two_pow_pos n
  intro m
  induction m with
  | zero =>
    intro f j hj hf
    obtain ⟨f, rfl⟩ : ∃ f', f = f' + 1 := ⟨f - 1, by omega⟩
    refine ⟨fun _ => ?_, fun h => absurd trivial h⟩
    rw [jloop]
    simp only [f_X5_refuseWeeks_b29, ln_z s hi, Option.bind_some, h1, if_pos (nI_le (show z ≤ j by omega) (show j < 2 ^ 31 by omega))]
  | succ m ih =>
    intro f j hj hf
    obtain ⟨f, rfl⟩ : ∃ f', f = f' + 1 := ⟨f - 1, by omega⟩
    obtain ⟨i1, i2⟩ := ih f (j + 1) (by omega) (by omega)
    have e0 : (sV s (lc i + 1) j < 0) = ((sV s (lc i + 1) j).toInt < 0) := propext (by rw [Int32.lt_iff_toInt_lt]; rfl)
    have e1 : (sV s (lc i + 1) j ≤ nI (2 ^ n - 1)) = ((sV s (lc i + 1) j).toInt ≤ ((2 ^ n - 1 : Nat) : Int)) := propext (by rw [Int32.le_iff_toInt_le, nI_toInt (by omega)])
    rw [alW]
    rw [jloop]
    simp only [f_X5_refuseWeeks_b29, f_X5_refuseWeeks_b29_j60, ln_z s hi, Option.bind_some, h1, if_neg (nI_ge (show j < z by omega) (show z < 2 ^ 31 by omega)), ln_q s hi, if_true, p2_get s hi h1 hl (show j < z by omega), gR_0_8, fk_q, p1_everyone hF, e0, e1, qO_0, p5_find (x := 3) s 3 rfl (by omega) (by omega), nI_1]
    by_cases c0 : (sV s (lc i + 1) j).toInt < 0
    · simp only [if_pos c0]
      exact ⟨fun h => absurd h.1.1 (by omega), fun _ => trivial⟩
    · simp only [if_neg c0]
      by_cases c1 : (sV s (lc i + 1) j).toInt ≤ ((2 ^ n - 1 : Nat) : Int)
      · simp only [if_pos c1]
        exact ⟨fun h => i1 h.2, fun h => i2 (fun z => h ⟨⟨by omega, c1⟩, z⟩)⟩
      · simp only [if_neg c1]
        exact ⟨fun h => absurd h.1.2 c1, fun _ => trivial⟩
theorem rw_state {s : ST} {i : Nat} (hF : InvF s 0) : f_X5_refuseWeeks (some 0) (some (lc i)) (HP s) = some (-4, HP s) := by
  simp only [f_X5_refuseWeeks, f_X5_refuseRow, qO_0, if_true, gR_0_8, Option.bind_some, fk_n, hF.2.2.1, if_pos (show nI 0 = 0 from rfl), if_neg (show ¬ (-4 : Int32) = 0 by decide)]
theorem rw_miss {s : ST} {i n : Nat} (hF : InvF s n) (hn : n ≠ 0) (hi : i < 10) (h1 : sI s (32 * lc i + 1) = -1) : f_X5_refuseWeeks (some 0) (some (lc i)) (HP s) = some (-3, HP (fnd5 s 1)) := by
  have h6 := hF.le
  simp only [f_X5_refuseWeeks, f_X5_refuseRow, qO_0, if_true, gR_0_8, Option.bind_some, fk_n, hF.2.2.1, n_eq0 h6, hn, if_false, ln_q s hi, p2_missT s hi h1, n10, p5_find (x := 1) s 1 rfl (by omega) (by omega), n30]
theorem n21 : (nI 1 = 0) = False := eq_false (by decide)
theorem rw_odd {s : ST} {i n z : Nat} (hF : InvF s n) (hn : n ≠ 0) (hi : i < 10) (h1 : sI s (32 * lc i + 1) = nI z) (hz : z ≤ 60) (ho : z % 2 = 1) : f_X5_refuseWeeks (some 0) (some (lc i)) (HP s) = some (-3, HP (fnd5 s 5)) := by
  have h6 := hF.le
  simp only [f_X5_refuseWeeks, f_X5_refuseRow, qO_0, if_true, gR_0_8, Option.bind_some, fk_n, hF.2.2.1, n_eq0 h6, hn, if_false, ln_q s hi, p2_missF s hi h1 (show z < 2 ^ 31 by omega), ln_z s hi, h1, n_rem2 (show z < 2 ^ 31 by omega), ho, n21, p5_find (x := 5) s 5 rfl (by omega) (by omega)]
theorem rw_bad {s : ST} {i n z : Nat} (hF : InvF s n) (hn : n ≠ 0) (hi : i < 10) (h1 : sI s (32 * lc i + 1) = nI z) (hz : z ≤ lm i) (ho : z % 2 = 0) (hb : ¬ alW n (sV s (lc i + 1)) z 0) : f_X5_refuseWeeks (some 0) (some (lc i)) (HP s) = some (-3, HP (fnd5 s 3)) := by
  have h6 := hF.le
  have hlm := lm_pos i
  have l : jloop (f_X5_refuseWeeks_b29 (some 0) (some (lc i))) jfuel 0 (HP s) = _ := (rw_loop hF hi h1 hz z jfuel 0 (by omega) (by unfold jfuel; omega)).2 hb
  simp -implicitDefEqProofs only [f_X5_refuseWeeks, f_X5_refuseRow, qO_0, if_true, gR_0_8, Option.bind_some, fk_n, hF.2.2.1, n_eq0 h6, hn, if_false, ln_q s hi, p2_missF s hi h1 (show z < 2 ^ 31 by omega), ln_z s hi, h1, n_rem2 (show z < 2 ^ 31 by omega), ho, show nI 0 = 0 from rfl, l]
theorem rw_ok {s : ST} {i n z : Nat} (hF : InvF s n) (hn : n ≠ 0) (hi : i < 10) (h1 : sI s (32 * lc i + 1) = nI z) (hz : z ≤ lm i) (ho : z % 2 = 0) (hb : alW n (sV s (lc i + 1)) z 0) : f_X5_refuseWeeks (some 0) (some (lc i)) (HP s) = some (0, HP s) := by
  have h6 := hF.le
  have hlm := lm_pos i
  have l : jloop (f_X5_refuseWeeks_b29 (some 0) (some (lc i))) jfuel 0 (HP s) = _ := (rw_loop hF hi h1 hz z jfuel 0 (by omega) (by unfold jfuel; omega)).1 hb
  simp -implicitDefEqProofs only [f_X5_refuseWeeks, f_X5_refuseRow, qO_0, if_true, gR_0_8, Option.bind_some, fk_n, hF.2.2.1, n_eq0 h6, hn, if_false, ln_q s hi, p2_missF s hi h1 (show z < 2 ^ 31 by omega), ln_z s hi, h1, n_rem2 (show z < 2 ^ 31 by omega), ho, show nI 0 = 0 from rfl, l]
/-! VICTIMS of a set by a MAP -/
def voF (T : Nat → Nat) (set : Nat) (p a : Nat) : Nat := if set.testBit p = true then a ||| 2 ^ T p else a
def vo (n : Nat) (T : Nat → Nat) (set : Nat) : Nat := fold (voF T set) n 0 0
def Ful (n : Nat) (T : Nat → Nat) : Prop := ∀ p, p < n → T p < n
theorem voF_lt {n : Nat} (h6 : n ≤ 6) {T : Nat → Nat} (hT : Ful n T) {set p a : Nat} (hp : p < n) (ha : a < 64) : voF T set p a < 64 := by
  have := hT p hp
  unfold voF
  split
  · exact or_lt ha (by omega)
  · exact ha
theorem vo_lt {n : Nat} (h6 : n ≤ 6) {T : Nat → Nat} (hT : Ful n T) (set : Nat) : vo n T set < 64 :=
  fold_P (fun a => a < 64) n 0 0 (fun k b _ hk hb => voF_lt h6 hT (by omega) hb) (by omega)
theorem p0_vof {s : ST} {n : Nat} (h6 : n ≤ 6) (hn : sI s 324 = nI n) {T : Nat → Nat} (hT : Ful n T) {set : Nat} (hs : set < 64) : f_X0_victimsOf (some 10) (nI (cod n T n)) (nI set) (HP s) = some (nI (vo n T set), HP s) := by
  have l := jfoldH (body := f_X0_victimsOf_b5 (some 10) (nI (cod n T n)) (nI set)) (n := n) (fun (a : Nat) j => (nI a, nI j)) (fun a => nI a) (fun _ => HP s) (voF T set) (fun _ a => a < 64) (fun j a hj ha => voF_lt h6 hT hj ha) (fun a _ => by
      simp only [f_X0_victimsOf_b5, gI_10_4, Option.bind_some, hn, if_pos (nI_le (Nat.le_refl n) (show n < 2 ^ 31 by omega))]) (fun j a hj ha => by
      have hj6 := hT j hj
      simp only [f_X0_victimsOf_b5, gI_10_4, Option.bind_some, hn, if_neg (nI_ge hj (show n < 2 ^ 31 by omega)), dig_at h6 T hj, show cd n (T j) = T j by unfold cd; rw [if_pos hj6], or_dec a ha (T j) (by omega), bit_dec set hs j (by omega), nI_1, voF]
      by_cases c : set.testBit j = true
      · rw [if_pos c, if_pos c]
      · rw [if_neg c, if_neg c]) n jfuel 0 0 (by omega) (by unfold jfuel; omega) (by omega)
  have l1 : jloop (f_X0_victimsOf_b5 (some 10) (nI (cod n T n)) (nI set)) jfuel (0, 0) (HP s) = some (.inr (nI (vo n T set), HP s)) := l.1
  simp only [f_X0_victimsOf, l1, Option.bind_some]
theorem p6_vof {s : ST} {n : Nat} (hF : InvF s n) {T : Nat → Nat} (hT : Ful n T) {set : Nat} (hs : set < 64) : f_X6_victimsOf (some 60) (nI (cod n T n)) (nI set) (HP s) = some (nI (vo n T set), HP s) := by
  have h6 := hF.le
  have l := jfoldH (body := f_X6_victimsOf_b5 (some 60) (nI (cod n T n)) (nI set)) (n := n) (fun (a : Nat) j => (nI a, nI j)) (fun a => nI a) (fun _ => HP s) (voF T set) (fun _ a => a < 64) (fun j a hj ha => voF_lt h6 hT hj ha) (fun a _ => by
      simp only [f_X6_victimsOf_b5, gI_60_1, Option.bind_some, hF.2.1, if_pos (nI_le (Nat.le_refl n) (show n < 2 ^ 31 by omega))]) (fun j a hj ha => by
      have hj6 := hT j hj
      simp only [f_X6_victimsOf_b5, gI_60_1, Option.bind_some, hF.2.1, if_neg (nI_ge hj (show n < 2 ^ 31 by omega)), p6_has, p6_of h6 T hj, show cd n (T j) = T j by unfold cd; rw [if_pos hj6], or_dec a ha (T j) (by omega), bit_dec set hs j (by omega), nI_1, voF, Int32.or_zero]
      cases c : set.testBit j with
      | true => simp only [if_true, n10, if_false]
      | false => simp only [if_true, if_false, Bool.false_eq_true]) n jfuel 0 0 (by omega) (by unfold jfuel; omega) (by omega)
  have l1 : jloop (f_X6_victimsOf_b5 (some 60) (nI (cod n T n)) (nI set)) jfuel (0, 0) (HP s) = some (.inr (nI (vo n T set), HP s)) := l.1
  simp only [f_X6_victimsOf, l1, Option.bind_some]
def AllF (n : Nat) (L : List (Nat → Nat)) : Prop := ∀ T, T ∈ L → Ful n T
theorem mpl_F {s : ST} {n : Nat} {x : Int32} (hF : InvF s n) : AllF n (mpl s n (2 ^ n - 1) x) := by
  have h6 := hF.le
  have hV64 : 2 ^ n - 1 < 64 := Nat.lt_of_lt_of_le (pow_pred n) (pow64 h6)
  intro T hT p hp
  unfold mpl at hT
  rw [trl_enl h6 (fun p _ => Bx_lt hF x p) n 0 _ T0 (by omega) hV64, List.mem_filter] at hT
  have h := hT.2
  unfold okM at h
  rw [Bool.and_eq_true, decide_eq_true_eq] at h
  exact lo_full h6 T n 0 _ hV64 h.1 (ev_dec n (by omega)).2.1 p (by omega) (by omega)
theorem AllF.f {n : Nat} {L : List (Nat → Nat)} (h : AllF n L) (P : (Nat → Nat) → Bool) : AllF n (L.filter P) := fun T hT => h T (List.mem_filter.mp hT).1
/-! those that fit stay -/
theorem app_mid {A : Type} {pre r L : List A} {x : A} (h : pre ++ x :: r = L) : L[pre.length]? = some x := by
  rw [← h, List.getElem?_append_right (Nat.le_refl _), Nat.sub_self]
  rfl
theorem get_snoc {A : Type} {l : List A} {x y : A} {i : Nat} (h : (l ++ [x])[i]? = some y) : (i < l.length ∧ l[i]? = some y) ∨ (i = l.length ∧ x = y) := by
  by_cases hi : i < l.length
  · rw [List.getElem?_append_left hi] at h
    exact Or.inl ⟨hi, h⟩
  · rw [List.getElem?_append_right (by omega)] at h
    have e : i - l.length = 0 := by
      have := (List.getElem?_eq_some_iff.mp h).1
      simp at this
      omega
    rw [e] at h
    exact Or.inr ⟨by omega, by simpa using h⟩
theorem p0_retain {s : ST} {n a b : Nat} {L : List (Nat → Nat)} (h6 : n ≤ 6) (hA : HA s n L) (hL : L.length ≤ 320) (hFu : AllF n L) (ha : a < 64) (hb : b < 64) : ∃ s', f_X0_retain (some 10) (nI a) (nI b) (HP s) = some ((), HP s') ∧ DrA s s' ∧ HA s' n (L.filter (fun T => decide (vo n T a = b))) := by
  have loop : ∀ (r pre : List (Nat → Nat)) (s : ST) (f : Nat), pre ++ r = L → r.length < f → sI s 323 = nI L.length → sI s 324 = nI n → (∀ k T, (pre.filter (fun T => decide (vo n T a = b)))[k]? = some T → sV s 11 k = nI (cod n T n)) → (∀ k T, pre.length ≤ k → L[k]? = some T → sV s 11 k = nI (cod n T n)) → ∃ s', jloop (f_X0_retain_b5 (some 10) (nI a) (nI b)) f (nI (pre.filter (fun T => decide (vo n T a = b))).length, nI pre.length) (HP s) = some (.inr (nI (L.filter (fun T => decide (vo n T a = b))).length, HP s')) ∧ DrA s s' ∧ ∀ k T, (L.filter (fun T => decide (vo n T a = b)))[k]? = some T → sV s' 11 k = nI (cod n T n) := by
    intro r
    induction r with
    | nil =>
      intro pre s f hE hf h1 h2 h3 h4
      obtain ⟨f, rfl⟩ : ∃ f', f = f' + 1 := ⟨f - 1, by simp at hf; omega⟩
      have e : pre = L := by simpa using hE
      subst e
      refine ⟨s, ?_, DrA.rf s, h3⟩
      rw [jloop]
      simp only [f_X0_retain_b5, gI_10_3, Option.bind_some, h1, if_pos (nI_le (Nat.le_refl pre.length) (show pre.length < 2 ^ 31 by omega))]
    | cons T r ih =>
      intro pre s f hE hf h1 h2 h3 h4
      obtain ⟨f, rfl⟩ : ∃ f', f = f' + 1 := ⟨f - 1, by simp at hf; omega⟩
      have hlt : pre.length < L.length := by rw [← hE]; simp
      have hst : (pre.filter (fun T => decide (vo n T a = b))).length ≤ pre.length := List.length_filter_le _ _
      have ev : sV s 11 pre.length = nI (cod n T n) := h4 _ T (Nat.le_refl _) (app_mid hE)
      have hTf : Ful n T := hFu T (by rw [← hE]; simp)
      have en : (nI (vo n T a) = nI b) = (vo n T a = b) := propext (nI_eq (by have := vo_lt h6 hTf a; omega) (by omega))
      have el : (pre ++ [T]).length = pre.length + 1 := by simp
      rw [jloop]
      simp only [f_X0_retain_b5, gI_10_3, Option.bind_some, h1, if_neg (nI_ge hlt (show L.length < 2 ^ 31 by omega)), if_neg (show ¬ (320 : Int32) ≤ nI pre.length from nI_ge (b := 320) (by omega) (by omega)), gR_10_0, g11 _ (show pre.length < 320 by omega), ev, qO_10, if_true, p0_vof h6 h2 hTf ha, en, s11 _ (show (pre.filter (fun T => decide (vo n T a = b))).length < 320 by omega), nI_1]
      by_cases c : vo n T a = b
      · have ef : (pre ++ [T]).filter (fun T => decide (vo n T a = b)) = pre.filter (fun T => decide (vo n T a = b)) ++ [T] := by
          rw [List.filter_append, List.filter_cons, if_pos (decide_eq_true c), List.filter_nil]
        obtain ⟨s', w1, w2, w3⟩ := ih (pre ++ [T]) (uV s 11 (pre.filter (fun T => decide (vo n T a = b))).length (nI (cod n T n))) f (by rw [List.append_assoc]; exact hE) (by simp at hf; omega) h1 h2 (fun k T' h => by
          rw [ef] at h
          rw [sV_uV, if_pos rfl]
          rcases get_snoc h with ⟨q1, q2⟩ | ⟨q1, q2⟩
          · rw [if_neg (by omega)]; exact h3 k T' q2
          · rw [if_pos q1, q2]) (fun k T' hk h => by
          rw [sV_uV, if_pos rfl, if_neg (by omega)]
          exact h4 k T' (by omega) h)
        rw [ef, el, List.length_append] at w1
        have hD : DrA s (uV s 11 (pre.filter (fun T => decide (vo n T a = b))).length (nI (cod n T n))) := ⟨rfl, rfl, fun j hj => sV_uVne hj, fun _ _ => rfl⟩
        refine ⟨s', ?_, hD.trans w2, w3⟩
        simp only [c, if_true]
        exact w1
      · have ef : (pre ++ [T]).filter (fun T => decide (vo n T a = b)) = pre.filter (fun T => decide (vo n T a = b)) := by
          rw [List.filter_append, List.filter_cons, if_neg (by simp [c]), List.filter_nil, List.append_nil]
        obtain ⟨s', w1, w2, w3⟩ := ih (pre ++ [T]) s f (by rw [List.append_assoc]; exact hE) (by simp at hf; omega) h1 h2 (fun k T' h => by rw [ef] at h; exact h3 k T' h) (fun k T' hk h => h4 k T' (by omega) h)
        rw [ef, el] at w1
        refine ⟨s', ?_, w2, w3⟩
        simp only [c, if_false]
        exact w1
  obtain ⟨s', w1, w2, w3⟩ := loop L [] s jfuel rfl (by unfold jfuel; omega) hA.1 hA.2.1 (fun k T h => by simp at h) (fun k T _ h => hA.2.2 k T h)
  have w1 : jloop (f_X0_retain_b5 (some 10) (nI a) (nI b)) jfuel (0, 0) (HP s) = _ := w1
  refine ⟨uI s' 323 (nI (L.filter (fun T => decide (vo n T a = b))).length), ?_, ⟨w2.1, w2.2.1, w2.2.2.1, fun k hk => by rw [sI_uI, if_neg hk]; exact w2.2.2.2 k hk⟩, ⟨by rw [sI_uI, if_pos rfl], by rw [sI_uI, if_neg (by omega), w2.2.2.2 324 (by omega)]; exact hA.2.1, w3⟩⟩
  simp only [f_X0_retain, f_X0_retain_j60, w1, Option.bind_some, sF_10_3]
/-- fits the first j weeks -/
def fitP (n : Nat) (w : Nat → Nat) (T : Nat → Nat) : Nat → Bool
  | 0 => true
  | j + 1 => fitP n w T j && decide (vo n T (w (2 * j)) = w (2 * j + 1))
def fitF (n : Nat) (w : Nat → Nat) (T : Nat → Nat) : Nat → Nat → Bool
  | 0, _ => true
  | r + 1, j => decide (vo n T (w (2 * j)) = w (2 * j + 1)) && fitF n w T r (j + 1)
theorem fitP_F {n : Nat} {w : Nat → Nat} {T : Nat → Nat} : ∀ r j, fitP n w T (j + r) = (fitP n w T j && fitF n w T r j)
  | 0, j => by rw [fitF, Bool.and_true]; rfl
  | r + 1, j => by rw [fitF, show j + (r + 1) = (j + 1) + r by omega, fitP_F r (j + 1), fitP, Bool.and_assoc]
theorem HA_D {s s' : ST} {n : Nat} {L : List (Nat → Nat)} (hA : HA s n L) (h11 : sV s' 11 = sV s 11) (h1 : sI s' 323 = sI s 323) (h2 : sI s' 324 = sI s 324) : HA s' n L := ⟨h1.trans hA.1, h2.trans hA.2.1, fun i T h => by rw [h11]; exact hA.2.2 i T h⟩
theorem p5_seekFits {s : ST} {n i h : Nat} (hF : InvF s n) (hi : i < 6) (z1 : sI s (32 * lc i + 1) = nI (2 * h)) (hl : 2 * h ≤ 40) (w : Nat → Nat) (hw : ∀ k, k < 2 * h → w k < 64 ∧ sV s (lc i + 1) k = nI (w k)) : ∃ s', f_X5_seekFits (some 0) (some (lc i)) (HP s) = some ((), HP s') ∧ SameS s s' ∧ HA s' n ((mpl s n (2 ^ n - 1) 1).filter (fun T => fitP n w T h)) := by
  have h6 := hF.le
  have hi10 : i < 10 := by omega
  obtain ⟨sA, a1, a2, a3⟩ := p0_seek (x := 1) hF (pow_pred n)
  have h265 := mpl_265 (x := 1) hF
  have hFu := mpl_F (x := 1) hF
  generalize mpl s n (2 ^ n - 1) 1 = L at a3 h265 hFu ⊢
  have loop : ∀ (r j f : Nat) (s' : ST), j + r = h → r < f → SameS s s' → HA s' n (L.filter (fun T => fitP n w T j)) → ∃ s'', jloop (f_X5_seekFits_b21 (some 0) (some (lc i))) f (nI (2 * j)) (HP s') = some (.inr ((), HP s'')) ∧ SameS s s'' ∧ HA s'' n (L.filter (fun T => fitP n w T h)) := by
    intro r
    induction r with
    | zero =>
      intro j f s' hj hf hS hA
      obtain ⟨f, rfl⟩ : ∃ f', f = f' + 1 := ⟨f - 1, by omega⟩
      have e : j = h := by omega
      subst e
      have z1' : sI s' (32 * lc i + 1) = nI (2 * j) := by rw [hS.2.2.2 _ (by unfold ScI lc; omega)]; exact z1
      refine ⟨s', ?_, hS, hA⟩
      rw [jloop]
      simp only [f_X5_seekFits_b21, ln_z s' hi10, Option.bind_some, z1', nI_1, if_pos (nI_le (show 2 * j ≤ 2 * j + 1 by omega) (show 2 * j + 1 < 2 ^ 31 by omega))]
    | succ r ih =>
      intro j f s' hj hf hS hA
      obtain ⟨f, rfl⟩ : ∃ f', f = f' + 1 := ⟨f - 1, by omega⟩
      have z1' : sI s' (32 * lc i + 1) = nI (2 * h) := by rw [hS.2.2.2 _ (by unfold ScI lc; omega)]; exact z1
      have hv : ∀ k, k < 2 * h → sV s' (lc i + 1) k = nI (w k) := fun k hk => by rw [S_V hS (by unfold ScA lc; omega)]; exact (hw k hk).2
      have hlen : (L.filter (fun T => fitP n w T j)).length ≤ 265 := Nat.le_trans (List.length_filter_le _ _) h265
      have hlm : 2 * h ≤ lm i := by rw [lm_r hi]; exact hl
      obtain ⟨s2, w1, w2, w3⟩ := p0_retain (a := w (2 * j)) (b := w (2 * j + 1)) h6 hA (by omega) (hFu.f _) (hw _ (by omega)).1 (hw _ (by omega)).1
      rw [List.filter_filter] at w3
      have ef : L.filter (fun T => decide (vo n T (w (2 * j)) = w (2 * j + 1)) && fitP n w T j) = L.filter (fun T => fitP n w T (j + 1)) := List.filter_congr (fun T _ => by rw [fitP, Bool.and_comm])
      rw [ef] at w3
      obtain ⟨s3, y1, y2, y3⟩ := ih (j + 1) f s2 (by omega) (by omega) (hS.trans w2.S) w3
      refine ⟨s3, ?_, y2, y3⟩
      have e2 : nI (2 * j) + 2 = nI (2 * (j + 1)) := nI_add (2 * j) 2
      rw [jloop]
      simp only [f_X5_seekFits_b21, ln_z s' hi10, Option.bind_some, z1', nI_1, if_neg (nI_ge (show 2 * j + 1 < 2 * h by omega) (show 2 * h < 2 ^ 31 by omega)), gR_0_5, ln_q s' hi10, if_true, p2_get s' hi10 z1' hlm (show 2 * j < 2 * h by omega), p2_get s' hi10 z1' hlm (show 2 * j + 1 < 2 * h by omega), hv _ (show 2 * j < 2 * h by omega), hv _ (show 2 * j + 1 < 2 * h by omega), qO_10, w1, e2]
      exact y1
  obtain ⟨s', w1, w2, w3⟩ := loop h 0 jfuel sA (by omega) (by unfold jfuel; omega) a2 (by
    rw [show L.filter (fun T => fitP n w T 0) = L from List.filter_eq_self.mpr (fun T _ => rfl)]
    exact a3)
  have w1 : jloop (f_X5_seekFits_b21 (some 0) (some (lc i))) jfuel 0 (HP sA) = _ := w1
  refine ⟨s', ?_, w2, w3⟩
  simp -implicitDefEqProofs only [f_X5_seekFits, gR_0_5, gR_0_8, Option.bind_some, fk_q, if_true, p1_everyone hF, qO_10, a1, w1]
