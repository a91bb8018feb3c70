/-! ===== the reference goes through all ===== -/
def Fr74 (s s' : ST) : Prop := sW s' = sW s ∧ sL s' = sL s ∧ (∀ k, k ≠ 74 → sV s' k = sV s k) ∧ sI s' = sI s
theorem Fr74.S {a b : ST} (h : Fr74 a b) : SameS a b := ⟨h.1, h.2.1, fun k hk => h.2.2.1 k (fun e => hk (by unfold ScA; omega)), fun k _ => by rw [h.2.2.2]⟩
def Hd (s : ST) (n : Nat) (T : Nat → Nat) : Prop := ∀ p, p < n → T p ≤ n ∧ sV s 74 p = nI (T p)
theorem next_loop {n : Nat} (h6 : n ≤ 6) : ∀ (k f : Nat) (T : Nat → Nat) (s : ST), sI s 1921 = nI n → k ≤ n → k < f → Hd s n T → ∃ s', (jloop (f_X6_nextTried_b7 (some 60)) f (nI k - 1) (HP s)).bind (fun q13 => match q13 with | .inl r => none | .inr z15 => f_X6_nextTried_j37 (some 60) z15.1 z15.2) = some ((if (nxt n k T).1 then 1 else 0), HP s') ∧ Fr74 s s' ∧ Hd s' n (nxt n k T).2 := by
  intro k
  induction k with
  | zero =>
    intro f T s hn hk hf hT
    obtain ⟨f, rfl⟩ : ∃ f', f = f' + 1 := ⟨f - 1, by omega⟩
    refine ⟨s, ?_, ⟨rfl, rfl, fun _ _ => rfl, rfl⟩, hT⟩
    rw [jloop, show nI 0 - 1 = (-1 : Int32) from rfl]
    simp only [f_X6_nextTried_b7, if_pos (show (-1 : Int32) < 0 by decide), Option.bind_some, f_X6_nextTried_j37, if_neg (show ¬ (0 : Int32) ≤ -1 by decide), nxt, Bool.false_eq_true, if_false]
  | succ k ih =>
    intro f T s hn hk hf hT
    obtain ⟨f, rfl⟩ : ∃ f', f = f' + 1 := ⟨f - 1, by omega⟩
    obtain ⟨t1, t2⟩ := hT k (by omega)
    rw [jloop, nI_pred, nxt]
    have en : (nI (T k) = nI n) = (T k = n) := propext (nI_eq (by omega) (by omega))
    by_cases c : T k = n
    · rw [if_pos c]
      obtain ⟨s', w1, w2, w3⟩ := ih f (upT T k 0) (uV s 74 k 0) hn (by omega) (by omega) (fun p hp => by
        rw [sV_uV, if_pos rfl]
        unfold upT
        by_cases e : p = k
        · rw [if_pos e, if_pos e]; exact ⟨by omega, rfl⟩
        · rw [if_neg e, if_neg e]; exact hT p hp)
      refine ⟨s', ?_, ⟨w2.1, w2.2.1, fun j hj => by rw [w2.2.2.1 j hj, sV_uVne hj], w2.2.2.2⟩, w3⟩
      have e1 : nI k + (-1) = nI k - 1 := (Int32.sub_eq_add_neg (nI k) 1).symm
      simp only [f_X6_nextTried_b7, if_neg (nI_pos (show k < 2 ^ 31 by omega)), gR_60_24, Option.bind_some, g74 _ (show k < 6 by omega), gI_60_1, hn, t2, en, c, if_true, s74 _ (show k < 6 by omega), e1]
      exact w1
    · rw [if_neg c]
      refine ⟨uV s 74 k (nI (T k + 1)), ?_, ⟨rfl, rfl, fun j hj => sV_uVne hj, rfl⟩, fun p hp => ?_⟩
      · simp only [f_X6_nextTried_b7, if_neg (nI_pos (show k < 2 ^ 31 by omega)), gR_60_24, Option.bind_some, g74 _ (show k < 6 by omega), gI_60_1, hn, t2, en, c, if_false, f_X6_nextTried_j37, if_pos (nI_pos' (show k < 2 ^ 31 by omega)), s74 _ (show k < 6 by omega), nI_1, if_true]
      · rw [sV_uV, if_pos rfl]
        show upT T k (T k + 1) p ≤ n ∧ _ = nI (upT T k (T k + 1) p)
        unfold upT
        by_cases e : p = k
        · rw [if_pos e, if_pos e]; exact ⟨by omega, rfl⟩
        · rw [if_neg e, if_neg e]; exact hT p hp
theorem p6_next {s : ST} {n : Nat} {T : Nat → Nat} (hF : InvF s n) (hT : Hd s n T) : ∃ s', f_X6_nextTried (some 60) (HP s) = some ((if (nxt n n T).1 then 1 else 0), HP s') ∧ Fr74 s s' ∧ Hd s' n (nxt n n T).2 := by
  have h6 := hF.le
  obtain ⟨s', w1, w2, w3⟩ := next_loop h6 n jfuel T s hF.2.1 (Nat.le_refl n) (by unfold jfuel; omega) hT
  refine ⟨s', ?_, w2, w3⟩
  simp only [f_X6_nextTried, gI_60_1, Option.bind_some, hF.2.1]
  exact w1
theorem cr_lt (T : Nat → Nat) : ∀ p, cod 7 T p < 8 ^ p
  | 0 => Nat.one_pos
  | p + 1 => by
    have h1 := cr_lt T p
    have h2 : cd 7 (T p) ≤ 7 := by unfold cd; split <;> omega
    have h3 : cd 7 (T p) * 8 ^ p ≤ 7 * 8 ^ p := Nat.mul_le_mul_right _ h2
    rw [cod, Nat.pow_succ]
    omega
theorem cod_7 {n : Nat} (h6 : n ≤ 6) {T : Nat → Nat} : ∀ p, (∀ q, q < p → T q < n) → cod 7 T p = cod n T p
  | 0, _ => rfl
  | p + 1, h => by
    rw [cod, cod, cod_7 h6 p (fun q hq => h q (by omega))]
    have := h p (by omega)
    unfold cd
    rw [if_pos (by omega), if_pos this]
theorem lo_full {n : Nat} (h6 : n ≤ 6) (T : Nat → Nat) : ∀ (m p l : Nat), l < 64 → lo n T m p l = some 0 → bcn l = m → ∀ q, p ≤ q → q < p + m → T q < n
  | 0, p, l, _, _, _, q, h1, h2 => by omega
  | m + 1, p, l, hl, h, hb, q, h1, h2 => by
    rw [lo] at h
    by_cases c1 : n ≤ T p
    · rw [if_pos c1] at h
      have := lo_bcn h6 T m (p + 1) l hl h
      omega
    · rw [if_neg c1] at h
      by_cases c2 : T p = p
      · rw [if_pos c2] at h; cases h
      · rw [if_neg c2] at h
        by_cases c3 : l.testBit (T p) = true
        · rw [if_pos c3] at h
          have := bcn_dec l hl (T p) (by omega) c3
          by_cases e : q = p
          · rw [e]; omega
          · exact lo_full h6 T m (p + 1) _ (xor_lt hl (by omega)) h (by omega) q (by omega) (by omega)
        · rw [if_neg c3] at h; cases h
set_option maxRecDepth 100000 in
theorem bit_dec7 : ∀ r, r < 64 → ∀ p, p < 7 → (((nI r >>> (nI p &&& 31)) &&& 1 = 1) ↔ r.testBit p = true) := by decide +kernel
set_option maxRecDepth 100000 in
theorem ev_dec : ∀ n, n < 7 → ((1 : Int32) <<< (nI n &&& 31)) - 1 = nI (2 ^ n - 1) ∧ bcn (2 ^ n - 1) = n ∧ (1 : Int32) <<< (nI n &&& 31) = nI (2 ^ n) := by decide +kernel
/-- what the reference has laid down -/
def HR (s : ST) (n : Nat) (L : List (Nat → Nat)) : Prop := sI s 1946 = nI L.length ∧ ∀ i T, L[i]? = some T → sV s 75 i = nI (cod n T n)
def yx (x : Int32) : Int32 := if x = 0 then 1 else 0
theorem lay_in {s : ST} {n : Nat} {x : Int32} {T : Nat → Nat} (hF : InvF s n) (hT : Hd s n T) : ∀ (m f j : Nat) (b : Bool), j + m = n → m < f → jloop (f_X6_layMaps_b72 (some 60) (yx x)) f ((if b then 1 else 0), nI (cod 7 T j), nI j) (HP s) = some (.inr (((if b && okB (Bx s n x) T m j then 1 else 0), nI (cod 7 T n)), HP s)) := by
  have h6 := hF.le
  intro m
  induction m with
  | zero =>
    intro f j b hj hf
    obtain ⟨f, rfl⟩ : ∃ f', f = f' + 1 := ⟨f - 1, by omega⟩
    have e : j = n := by omega
    subst e
    rw [jloop]
    simp only [f_X6_layMaps_b72, gI_60_1, Option.bind_some, hF.2.1, if_pos (nI_le (Nat.le_refl j) (show j < 2 ^ 31 by omega)), okB, Bool.and_true]
  | succ m ih =>
    intro f j b hj hf
    obtain ⟨f, rfl⟩ : ∃ f', f = f' + 1 := ⟨f - 1, by omega⟩
    obtain ⟨t1, t2⟩ := hT j (by omega)
    have iT := ih f (j + 1) true (by omega) (by omega)
    have iF := ih f (j + 1) false (by omega) (by omega)
    simp only [if_true, Bool.true_and] at iT
    simp only [Bool.false_eq_true, if_false, Bool.false_and] at iF
    have eo : nI (cod 7 T j) ||| (nI (T j) <<< ((3 * nI j) &&& 31)) = nI (cod 7 T (j + 1)) := by
      rw [orI (cr_lt T j) (by omega) (by omega), cod, show cd 7 (T j) = T j by unfold cd; rw [if_pos (by omega)]]
    obtain ⟨k1, k2, k3⟩ := hF.lov (show j < n by omega)
    have hlv : lvN s j < 64 := Nat.lt_of_lt_of_le k1 (pow64 h6)
    have eb := bit_dec7 (lvN s j) hlv (T j) (by omega)
    rw [jloop, okB]
    simp only [f_X6_layMaps_b72, f_X6_layMaps_b72_j126, gI_60_1, Option.bind_some, hF.2.1, if_neg (nI_ge (show j < n by omega) (show n < 2 ^ 31 by omega)), gR_60_24, g74 _ (show j < 6 by omega), t2, eo, gR_60_5, g65 _ (show j < 6 by omega), k2, p6_has, eb, nI_1]
    cases b with
    | false =>
      simp only [Bool.false_eq_true, if_false, if_true, Bool.false_and]
      exact iF
    | true =>
      simp only [if_true, n10, if_false, Bool.true_and]
      by_cases cx : x = 0
      · have ey : ¬ yx x = 0 := by unfold yx; rw [if_pos cx]; decide
        have eB : Bx s n x j = lvN s j := by unfold Bx; rw [if_pos cx, if_pos (by omega)]
        simp only [ey, if_false, eB]
        cases ct : (lvN s j).testBit (T j) with
        | true =>
          simp only [if_true, n10, if_false, Bool.not_true, Bool.false_and, Bool.false_eq_true]
          exact iF
        | false =>
          simp only [if_true, if_false, Bool.not_false, Bool.true_and, Bool.false_eq_true]
          exact iT
      · have ey : yx x = 0 := by unfold yx; rw [if_neg cx]
        have eB : Bx s n x j = 0 := by unfold Bx; rw [if_neg cx]
        simp only [ey, if_true, eB, Nat.zero_testBit, Bool.not_false, Bool.true_and]
        rw [ey] at iT
        exact iT
theorem g75 (s : ST) {i : Nat} (hi : i < 265) : gA (HP s) (some 75) (nI i) = some (sV s 75 i) := HP_gAn s (show i < hLen 75 from hi) (by omega)
theorem s75 (s : ST) {i : Nat} (hi : i < 265) (v : Int32) : sA (HP s) (some 75) (nI i) v = some (HP (uV s 75 i v)) := HP_sAn s v (show i < hLen 75 from hi) (by omega)
def GL (ok : (Nat → Nat) → Bool) (T : Nat → Nat) (L : List (Nat → Nat)) : List (Nat → Nat) := if ok T then L ++ [T] else L
theorem GL_fold (ok : (Nat → Nat) → Bool) : ∀ (l L : List (Nat → Nat)), l.foldl (fun a T => GL ok T a) L = L ++ l.filter ok
  | [], L => by simp
  | T :: l, L => by
    rw [List.foldl_cons, GL_fold ok l]
    unfold GL
    cases h : ok T with
    | true => simp [h]
    | false => simp [h]
theorem all_lt {n : Nat} (h6 : n ≤ 6) : (n + 1) ^ n ≤ 117649 := by
  have h1 : (n + 1) ^ n ≤ 7 ^ n := Nat.pow_le_pow_left (by omega) n
  have h2 : 7 ^ n ≤ 7 ^ 6 := Nat.pow_le_pow_right (by omega) h6
  omega
theorem tried0 {s : ST} {n : Nat} (hF : InvF s n) {body : Int32 → AH → Option ((Unit × AH) ⊕ ((Unit × AH) ⊕ (Int32 × AH)))} (hb : ∀ x ah, body x ah = (gI ah (some 60) 6 1).bind fun v3 => if v3 ≤ x then (some (.inr (.inl ((), ah)))) else ((gR ah (some 60) 6 24).bind fun v5 => (sA ah v5 x 0).bind fun a7 => some (.inr (.inr (x + 1, a7))))) : jloop body jfuel 0 (HP s) = some (.inr ((), HP (setR s 74 0 (fun _ => 0) n))) := by
  have h6 := hF.le
  have l : jloop body jfuel (nI 0) (HP (setR s 74 0 (fun _ => 0) 0)) = some (.inr ((), HP (setR s 74 0 (fun _ => 0) n))) := by
    refine jseq (n := n) (fun j => nI j) (fun j => HP (setR s 74 0 (fun _ => 0) j)) ?_ (fun j hj => ?_) n jfuel 0 (by omega) (by unfold jfuel; omega)
    · have hF' : InvF (setR s 74 0 (fun _ => 0) n) n := InvF_S (SameS.uA (by unfold ScA; omega)) hF
      simp only [hb, gI_60_1, Option.bind_some, hF'.2.1, if_pos (nI_le (Nat.le_refl n) (show n < 2 ^ 31 by omega))]
    · have hF' : InvF (setR s 74 0 (fun _ => 0) j) n := InvF_S (SameS.uA (by unfold ScA; omega)) hF
      have e1 : uV (setR s 74 0 (fun _ => 0) j) 74 j 0 = setR s 74 0 (fun _ => 0) (j + 1) := setR_1z s 74 (fun _ => 0) j
      simp only [hb, gI_60_1, Option.bind_some, hF'.2.1, if_neg (nI_ge hj (show n < 2 ^ 31 by omega)), gR_60_24, s74 _ (show j < 6 by omega), nI_1, e1]
  rw [setR_0] at l
  exact l
theorem p6_lay {s : ST} {n : Nat} (x : Int32) (hF : InvF s n) (hn : n ≠ 0) : ∃ s', f_X6_layMaps (some 60) (yx x) (HP s) = some ((), HP s') ∧ SameS s s' ∧ HR s' n (mpl s n (2 ^ n - 1) x) := by
  have h6 := hF.le
  have hV : 2 ^ n - 1 < 2 ^ n := by have := Nat.two_pow_pos n; omega
  have hV64 : 2 ^ n - 1 < 64 := Nat.lt_of_lt_of_le hV (pow64 h6)
  obtain ⟨ev1, ev2, -⟩ := ev_dec n (by omega)
  have hB : ∀ p, p < n → Bx s n x p < 2 ^ n := fun p _ => Bx_lt hF x p
  have hm : mpl s n (2 ^ n - 1) x = (enl n n T0).filter (okM n (Bx s n x) n 0 (2 ^ n - 1)) := trl_enl h6 hB n 0 _ T0 (by omega) hV64
  have h265 : ((enl n n T0).filter (okM n (Bx s n x) n 0 (2 ^ n - 1))).length ≤ 265 := by
    rw [← hm]
    exact Nat.le_trans (trl_less h6 hB hV) (trl_265 n (by omega))
  have hS1 : SameS s (uI s 1946 0) := SameS.uI (by unfold ScI; omega)
  have hF1 := InvF_S hS1 hF
  have l1 := tried0 hF1 (body := f_X6_layMaps_b7 (some 60) (yx x)) (fun _ _ => rfl)
  have hS2 : SameS (uI s 1946 0) (setR (uI s 1946 0) 74 0 (fun _ => 0) n) := SameS.uA (by unfold ScA; omega)
  have hF2 := InvF_S hS2 hF1
  obtain ⟨⟨r, c1⟩, ⟨r2, c2⟩, c3⟩ := enl_ch (n := n) n T0 (Nat.le_refl n) (fun _ _ _ => rfl)
  have hlen := enl_len (n := n) n T0
  have hall := all_lt h6
  obtain ⟨s3, T3, w1, w2⟩ := odo (n := n) (body := f_X6_layMaps_b41 (some 60) (yx x)) (fun _ on => on) (fun _ => ()) (GL (okM n (Bx s n x) n 0 (2 ^ n - 1))) (fun L T s' => SameS s s' ∧ Hd s' n T ∧ HR s' n L) [] (enl n n T0) (fun a s' => by
      simp only [f_X6_layMaps_b41, if_true]) (fun pre T post s' hE hP => by
      rw [GL_fold, List.nil_append] at hP ⊢
      obtain ⟨p1, p2, p3⟩ := hP
      have hF' := InvF_S p1 hF
      obtain ⟨y, y1, y2⟩ := p6_leftOf (V := 2 ^ n - 1) hF' p2 hV64
      have eBx : Bx s' n x = Bx s n x := by
        funext q
        unfold Bx lvN
        rw [S_V p1 (by unfold ScA; omega)]
      have li := fun b => lay_in (x := x) hF' p2 n jfuel 0 b (by omega) (by unfold jfuel; omega)
      have liT : jloop (f_X6_layMaps_b72 (some 60) (yx x)) jfuel (1, 0, 0) (HP s') = _ := li true
      have liF : jloop (f_X6_layMaps_b72 (some 60) (yx x)) jfuel (0, 0, 0) (HP s') = _ := li false
      rw [eBx] at liT liF
      simp only [Bool.true_and] at liT
      simp only [Bool.false_and, Bool.false_eq_true, if_false] at liF
      obtain ⟨s4, z1, z2, z3⟩ := p6_next hF' p2
      by_cases cok : okM n (Bx s n x) n 0 (2 ^ n - 1) T = true
      · have cok' := cok
        unfold okM at cok'
        rw [Bool.and_eq_true, decide_eq_true_eq] at cok'
        have hfull := lo_full h6 T n 0 _ hV64 cok'.1 ev2
        have hlt : (pre.filter (okM n (Bx s n x) n 0 (2 ^ n - 1))).length < 265 := by
          rw [← hE, List.filter_append, List.length_append, List.filter_cons, if_pos cok, List.length_cons] at h265
          omega
        generalize hL : pre.filter (okM n (Bx s n x) n 0 (2 ^ n - 1)) = L at *
        have eg : GL (okM n (Bx s n x) n 0 (2 ^ n - 1)) T L = L ++ [T] := if_pos cok
        rw [eg]
        have hS5 : SameS s' (uI (uV s' 75 L.length (nI (cod n T n))) 1946 (nI (L.length + 1))) := (SameS.uV (by unfold ScA; omega)).trans (SameS.uI (by unfold ScI; omega))
        have hF5 := InvF_S hS5 hF'
        obtain ⟨s6, q1, q2, q3⟩ := p6_next (T := T) hF5 (fun p hp => by
          obtain ⟨g1, g2⟩ := p2 p hp
          exact ⟨g1, by rw [sV_uI, sV_uVne (by omega)]; exact g2⟩)
        refine ⟨s6, ?_, (p1.trans hS5).trans q2.S, q3, ?_⟩
        · rw [cok'.2] at liT
          simp only [if_true] at liT
          simp only [f_X6_layMaps_b41, f_X6_layMaps_b41_j65, f_X6_layMaps_b41_j163, n10, if_false, gI_60_1, Option.bind_some, hF'.2.1, ev1, qO_60, if_true, y1, if_pos (y2.mpr cok'.1), liT, gR_60_25, gI_60_26, p3.1, cod_7 h6 n (fun q hq => hfull q (by omega) (by omega)), s75 _ hlt, sI_uV, nI_1, sF_60_26, q1]
        · refine ⟨by rw [q2.2.2.2, sI_uI, if_pos rfl, List.length_append]; rfl, fun i T' h => ?_⟩
          rw [q2.2.2.1 75 (by omega), sV_uI, sV_uV, if_pos rfl]
          by_cases hi : i < L.length
          · rw [List.getElem?_append_left hi] at h
            rw [if_neg (by omega)]
            exact p3.2 i T' h
          · rw [List.getElem?_append_right (by omega)] at h
            have e : i - L.length = 0 := by
              have := (List.getElem?_eq_some_iff.mp h).1
              simp at this
              omega
            rw [e] at h
            have e2 : T = T' := by simpa using h
            rw [if_pos (by omega), e2]
      · have eg : GL (okM n (Bx s n x) n 0 (2 ^ n - 1)) T (pre.filter (okM n (Bx s n x) n 0 (2 ^ n - 1))) = pre.filter (okM n (Bx s n x) n 0 (2 ^ n - 1)) := if_neg cok
        rw [eg]
        refine ⟨s4, ?_, p1.trans z2.S, z3, ⟨by rw [z2.2.2.2]; exact p3.1, fun i T' h => by rw [z2.2.2.1 75 (by omega)]; exact p3.2 i T' h⟩⟩
        by_cases cy : y = 0
        · have ob : okB (Bx s n x) T n 0 = false := by
            unfold okM at cok
            rw [decide_eq_true (y2.mp cy), Bool.true_and] at cok
            cases h : okB (Bx s n x) T n 0 with
            | true => exact absurd h cok
            | false => rfl
          rw [ob] at liT
          simp only [Bool.false_eq_true, if_false] at liT
          simp only [f_X6_layMaps_b41, f_X6_layMaps_b41_j65, f_X6_layMaps_b41_j163, n10, if_false, gI_60_1, Option.bind_some, hF'.2.1, ev1, qO_60, if_true, y1, if_pos cy, liT, z1]
        · simp only [f_X6_layMaps_b41, f_X6_layMaps_b41_j65, f_X6_layMaps_b41_j163, n10, if_false, gI_60_1, Option.bind_some, hF'.2.1, ev1, qO_60, if_true, y1, if_neg cy, liF, z1]) r [] T0 (setR (uI s 1946 0) 74 0 (fun _ => 0) n) jfuel (by rw [c1]; rfl) (by rw [← c1]; exact c3) (fun _ => Or.inr trivial) ⟨r2, by rw [← c1]; exact c2⟩ ⟨hS1.trans hS2, fun p hp => ⟨Nat.zero_le n, sV_setRz hp⟩, rfl, fun i T h => by simp at h⟩ (by
        rw [c1, List.length_cons] at hlen
        unfold jfuel
        omega)
  rw [GL_fold, List.nil_append, ← hm] at w2
  refine ⟨s3, ?_, w2.1, w2.2.2⟩
  have w1 : jloop (f_X6_layMaps_b41 (some 60) (yx x)) jfuel 1 (HP (setR (uI s 1946 0) 74 0 (fun _ => 0) n)) = _ := w1
  have hn0 : ¬ nI n ≤ 0 := nI_nle (by omega) (by omega)
  simp only [f_X6_layMaps, sF_60_26, Option.bind_some, l1, gI_60_1, hF2.2.1, if_neg hn0, w1]
