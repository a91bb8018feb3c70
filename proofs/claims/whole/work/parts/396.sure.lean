/-! ===== fits, sure, ask ===== -/
theorem weeks_cases {s : ST} (hI : Inv s) {n i : Nat} (hF : InvF s n) (hi : i < 6) :
    (∃ v s1 s2, ¬ v = (0 : Int32) ∧ f_X5_refuseWeeks (some 0) (some (lc i)) (HP s) = some (v, HP s1) ∧ InvF s1 n ∧ f_X6_layFits (some 60) (nI i) (HP s1) = some (v, HP s2) ∧ Inv s2) ∨
    ∃ L : List (Nat → Nat), f_X5_refuseWeeks (some 0) (some (lc i)) (HP s) = some (0, HP s) ∧ L.length ≤ 265 ∧ AllF n L ∧ n ≠ 0 ∧ (∃ sA, f_X5_seekFits (some 0) (some (lc i)) (HP s) = some ((), HP sA) ∧ SameS s sA ∧ HA sA n L) ∧ ∀ s1, InvF s1 n → sV s1 66 = sV s 66 → sV s1 67 = sV s 67 → sV s1 65 = sV s 65 → ∃ sB, f_X6_layFits (some 60) (nI i) (HP s1) = some (0, HP sB) ∧ SameS s1 sB ∧ HR sB n L := by
  have h6 := hF.le
  have hi10 : i < 10 := by omega
  by_cases hn : n = 0
  · subst hn
    exact Or.inl ⟨-4, s, s, by decide, rw_state hF, hF, lf_state hF, hI⟩
  rcases hI.2.1.1 i hi with ⟨z1, z2⟩ | ⟨m, hm, z1, z2, z3⟩
  · have z1 : sI s (32 * lc i + 1) = -1 := z1
    exact Or.inl ⟨-3, fnd5 s 1, fnd6 (fnd5 s 1) 1, by decide, rw_miss hF hn hi10 z1, InvF_5 1 hF, lf_miss (InvF_5 1 hF) hn hi (by rw [sV5 s 1 (by omega)]; exact z2), inv_find hI 1⟩
  have z1 : sI s (32 * lc i + 1) = nI m := z1
  have hlm : m ≤ lm i := by rw [lm_r hi]; exact hm
  have z3 : ∀ k, k < m → sV s (lc i + 1) k = sV s 67 (40 * i + k) := z3
  by_cases ho : m % 2 = 1
  · exact Or.inl ⟨-3, fnd5 s 5, fnd6 (fnd5 s 5) 5, by decide, rw_odd hF hn hi10 z1 (by omega) ho, InvF_5 5 hF, lf_odd (InvF_5 5 hF) hn hi (by rw [sV5 s 5 (by omega)]; exact z2) hm ho, inv_find hI 5⟩
  have ho : m % 2 = 0 := by omega
  have ea := alW_congr (n := n) (W := sV s (lc i + 1)) (W' := fun k => sV s 67 (40 * i + k)) m 0 (fun k _ hk => z3 k (by omega))
  by_cases hb : alW n (sV s (lc i + 1)) m 0
  · right
    obtain ⟨h, rfl⟩ : ∃ h, m = 2 * h := ⟨m / 2, by omega⟩
    have hb' := ea.mp hb
    have hw : ∀ k, k < 2 * h → (fun k => (sV s 67 (40 * i + k)).toNatClampNeg) k < 64 ∧ sV s 67 (40 * i + k) = nI ((fun k => (sV s 67 (40 * i + k)).toNatClampNeg) k) := fun k hk => by
      obtain ⟨q1, q2⟩ := okW_n h6 (alW_at _ _ hb' k (by omega) (by omega))
      exact ⟨Nat.lt_of_lt_of_le q1 (pow64 h6), q2⟩
    refine ⟨(mpl s n (2 ^ n - 1) 1).filter (fun T => fitP n (fun k => (sV s 67 (40 * i + k)).toNatClampNeg) T h), rw_ok hF hn hi10 z1 hlm ho hb, Nat.le_trans (List.length_filter_le _ _) (mpl_265 hF), (mpl_F hF).f _, hn, p5_seekFits hF hi z1 hm _ (fun k hk => ⟨(hw k hk).1, by rw [z3 k hk]; exact (hw k hk).2⟩), fun s1 hF1 e66 e67 e65 => ?_⟩
    have := lf_ok hF1 hn hi (by rw [e66]; exact z2) hm (by rw [e67]; exact hb') (fun k => (sV s 67 (40 * i + k)).toNatClampNeg) (fun k hk => by rw [e67]; exact hw k hk)
    rw [mpl_65 e65] at this
    exact this
  · exact Or.inl ⟨-3, fnd5 s 3, fnd6 (fnd5 s 3) 3, by decide, rw_bad hF hn hi10 z1 hlm ho hb, InvF_5 3 hF, lf_bad (InvF_5 3 hF) hn hi (by rw [sV5 s 3 (by omega)]; exact z2) hm ho (by rw [sV5 s 3 (by omega)]; exact fun z => hb (ea.mpr z)), inv_find hI 3⟩
theorem ag_fits {s : ST} (hI : Inv s) (a0 : Int32) : ∃ (v : Int32) (s1 s2 : ST), f_X5_fits (some 0) a0 (HP s) = some (v, HP s1) ∧ f_X6_fits (some 60) a0 (HP s1) = some (v, HP s2) ∧ Inv s2 := by
  obtain ⟨n, hF, hT, hK⟩ := hI.1
  have h6 := hF.le
  rcases ix6 a0 with h0 | ⟨i, hi, rfl⟩
  · refine ⟨-1, s, s, ?_, ?_, hI⟩
    · simp only [f_X5_fits, gR_0_0, Option.bind_some, p5_rowNo s h0, if_true]
    · simp only [f_X6_fits, isRow_no h0, Option.bind_some, if_true]
  rcases weeks_cases hI hF hi with ⟨v, s1, s2, w0, w1, w2, w3, w4⟩ | ⟨L, w1, w2, w3, w4, ⟨sA, a1, a2, a3⟩, w5⟩
  · refine ⟨v, s1, s2, ?_, ?_, w4⟩
    · simp -implicitDefEqProofs only [f_X5_fits, gR_0_0, Option.bind_some, p5_rowAt s hi rfl, reduceCtorEq, if_false, qO_0, if_true, w1, w0]
    · simp -implicitDefEqProofs only [f_X6_fits, isRow_yes hi, Option.bind_some, n10, if_false, qO_60, if_true, w3, w0]
  · have e1 : Nat.gcd L.length 1 = 1 := Nat.gcd_one_right _
    have t1 := p5_tell sA (a := L.length) (b := 1) (by omega) (by omega) (by omega)
    rw [e1, Nat.div_one] at t1
    have t1 : f_X5_tell (some 0) (lN L.length) 1 (HP sA) = some (1, HP (uL (uL sA 0 (lN L.length)) 1 (lN 1))) := t1
    have sv : ∀ k, ¬ ScA k → sV (uL (uL sA 0 (lN L.length)) 1 (lN 1)) k = sV s k := fun k hk => by rw [sV_uL, sV_uL]; exact S_V a2 hk
    obtain ⟨sB, b1, b2, b3⟩ := w5 (uL (uL sA 0 (lN L.length)) 1 (lN 1)) (InvF_L (InvF_L (InvF_S a2 hF))) (sv 66 (by unfold ScA; omega)) (sv 67 (by unfold ScA; omega)) (sv 65 (by unfold ScA; omega))
    refine ⟨1, uL (uL sA 0 (lN L.length)) 1 (lN 1), uL (uL sB 2 (lN L.length)) 3 (lN 1), ?_, ?_, inv_told hI _ _ a2 b2⟩
    · simp -implicitDefEqProofs only [f_X5_fits, gR_0_0, Option.bind_some, p5_rowAt s hi rfl, reduceCtorEq, if_false, qO_0, if_true, w1, a1, gR_0_5, gI_10_3, a3.1, nI_l (show L.length < 2 ^ 31 by omega), t1]
    · have e1 : (1 : Int64) = lN 1 := rfl
      simp -implicitDefEqProofs only [f_X6_fits, isRow_yes hi, Option.bind_some, n10, if_false, qO_60, if_true, b1, gI_60_26, b3.1, f_X6_tellMany, nI_l (show L.length < 2 ^ 31 by omega), sF_60_12, sF_60_13, e1]
/-- all of these have the VICTIM v -/
def eqv (L : List (Nat → Nat)) (p v : Nat) : Nat → Nat → Bool
  | 0, _ => true
  | m + 1, j => decide (L.getD j T0 p = v) && eqv L p v m (j + 1)
theorem cp_eq (L : List (Nat → Nat)) (p v : Nat) : ∀ (m j a : Nat), fold (cpF L p v) m j a = a + m ↔ eqv L p v m j = true
  | 0, j, a => by simp [fold, eqv]
  | m + 1, j, a => by
    rw [fold, eqv, Bool.and_eq_true, decide_eq_true_eq]
    by_cases c : L.getD j T0 p = v
    · rw [show cpF L p v j a = a + 1 from if_pos c, show a + (m + 1) = (a + 1) + m by omega, cp_eq L p v m (j + 1) (a + 1)]
      simp [c]
    · rw [show cpF L p v j a = a from if_neg c]
      have := fold_le (cpF_le L p v) m (j + 1) a
      constructor
      · intro h; omega
      · intro h; exact absurd h.1 c
theorem sure_loop {s : ST} {n p v : Nat} {L : List (Nat → Nat)} (h6 : n ≤ 6) (hR : HR s n L) (hL : L.length ≤ 265) (hp : p < n) (hv : v < n) : ∀ (m f j : Nat) (b : Bool), j + m = L.length → m < f → jloop (f_X6_sure_b57 (some 60) (nI p)) f ((if b then nI v else -9), nI j) (HP s) = some (.inr ((if b && eqv L p v m j then nI v else -9), HP s)) := by
  intro m
  induction m with
  | zero =>
    intro f j b hj hf
    obtain ⟨f, rfl⟩ : ∃ f', f = f' + 1 := ⟨f - 1, by omega⟩
    rw [jloop]
    simp only [f_X6_sure_b57, gI_60_26, Option.bind_some, hR.1, if_pos (nI_le (show L.length ≤ j by omega) (show j < 2 ^ 31 by omega)), eqv, Bool.and_true]
  | succ m ih =>
    intro f j b hj hf
    obtain ⟨f, rfl⟩ : ∃ f', f = f' + 1 := ⟨f - 1, by omega⟩
    have iT := ih f (j + 1) true (by omega) (by omega)
    have iF := ih f (j + 1) false (by omega) (by omega)
    simp only [if_true, Bool.true_and] at iT
    simp only [Bool.false_eq_true, if_false, Bool.false_and] at iF
    have hcd : cd n (L.getD j T0 p) < 8 := cd_lt h6
    rw [jloop, eqv]
    simp only [f_X6_sure_b57, gI_60_26, Option.bind_some, hR.1, if_neg (nI_ge (show j < L.length by omega) (show L.length < 2 ^ 31 by omega)), gR_60_25, g75 _ (show j < 265 by omega), hR.at (show j < L.length by omega), p6_of h6 _ hp, nI_1]
    cases b with
    | false =>
      simp only [Bool.false_eq_true, if_false, nI_n9 (show cd n (L.getD j T0 p) < 2 ^ 31 by omega), Bool.false_and]
      exact iF
    | true =>
      simp only [if_true, cd_eq h6 hv, Bool.true_and]
      by_cases c : L.getD j T0 p = v
      · simp only [c, if_true, decide_true, Bool.true_and]
        exact iT
      · simp only [c, if_false, decide_false, Bool.false_and, Bool.false_eq_true]
        exact iF
theorem HA.cong {s : ST} {n : Nat} {L : List (Nat → Nat)} (h : HA s n L) : sI s 323 = nI L.length := h.1
theorem ag_sure {s : ST} (hI : Inv s) (a0 a1 : Int32) : ∃ (v : Int32) (s1 s2 : ST), f_X5_sure (some 0) a0 a1 (HP s) = some (v, HP s1) ∧ f_X6_sure (some 60) a0 a1 (HP s1) = some (v, HP s2) ∧ Inv s2 := by
  obtain ⟨n, hF, hT, hK⟩ := hI.1
  have h6 := hF.le
  rcases ix_n a0 (n := n) (by omega) with hp | ⟨p, hp, rfl⟩
  · refine ⟨-1, s, s, ?_, ?_, hI⟩
    · rcases ix6 a1 with h0 | ⟨i, hi, rfl⟩
      · simp only [f_X5_sure, gR_0_0, Option.bind_some, p5_rowNo s h0, if_true]
      · simp -implicitDefEqProofs only [f_X5_sure, gR_0_0, Option.bind_some, p5_rowAt s hi rfl, reduceCtorEq, if_false, gR_0_8, fk_q, if_true, p1_hasF hF hp]
    · simp only [f_X6_sure, qO_60, if_true, p6_isPF hF hp, Option.bind_some]
  rcases ix6 a1 with h0 | ⟨i, hi, rfl⟩
  · refine ⟨-1, s, s, ?_, ?_, hI⟩
    · simp only [f_X5_sure, gR_0_0, Option.bind_some, p5_rowNo s h0, if_true]
    · simp -implicitDefEqProofs only [f_X6_sure, qO_60, if_true, p6_isPT hF hp, Option.bind_some, n10, if_false, isRow_no h0]
  rcases weeks_cases hI hF hi with ⟨v, s1, s2, w0, w1, w2, w3, w4⟩ | ⟨L, w1, w2, w3, w4, ⟨sA, a1, a2, a3⟩, w5⟩
  · refine ⟨v, s1, s2, ?_, ?_, w4⟩
    · simp -implicitDefEqProofs only [f_X5_sure, f_X5_refuseFits, gR_0_0, Option.bind_some, p5_rowAt s hi rfl, reduceCtorEq, if_false, gR_0_8, fk_q, if_true, p1_hasT hF hp, n10, qO_0, w1, w0]
    · simp -implicitDefEqProofs only [f_X6_sure, qO_60, if_true, p6_isPT w2 hp, Option.bind_some, n10, if_false, isRow_yes hi, w3, w0]
  · by_cases hl : L.length = 0
    · have a4 : sI sA 323 = 0 := by rw [a3.1, hl]; rfl
      have hFA := InvF_5 4 (InvF_S a2 hF)
      have sv : ∀ k, k ≠ 15 → ¬ ScA k → sV (fnd5 sA 4) k = sV s k := fun k h1 hk => by rw [sV5 sA 4 h1]; exact S_V a2 hk
      obtain ⟨sB, b1, b2, b3⟩ := w5 (fnd5 sA 4) hFA (sv 66 (by omega) (by unfold ScA; omega)) (sv 67 (by omega) (by unfold ScA; omega)) (sv 65 (by omega) (by unfold ScA; omega))
      have b4 : sI sB 1946 = 0 := by rw [b3.1, hl]; rfl
      refine ⟨-3, fnd5 sA 4, fnd6 sB 4, ?_, ?_, Inv_S (cS_f6 ((cS_f5 a2 4).trans b2) 4) (inv_find hI 4)⟩
      · simp -implicitDefEqProofs only [f_X5_sure, f_X5_refuseFits, gR_0_0, Option.bind_some, p5_rowAt s hi rfl, reduceCtorEq, if_false, gR_0_8, fk_q, if_true, p1_hasT hF hp, n10, qO_0, w1, a1, gR_0_5, gI_10_3, a4, p5_find (x := 4) sA 4 rfl (by omega) (by omega), n30]
      · simp -implicitDefEqProofs only [f_X6_sure, qO_60, if_true, p6_isPT hFA hp, Option.bind_some, n10, if_false, isRow_yes hi, b1, gI_60_26, b4, p6_find (x := 4) _ 4 rfl (by omega)]
    · have en : ¬ nI L.length = 0 := nI_ne0 (by omega) (by omega)
      have hFA := InvF_S a2 hF
      obtain ⟨sB, b1, b2, b3⟩ := w5 sA hFA (S_V a2 (by unfold ScA; omega)) (S_V a2 (by unfold ScA; omega)) (S_V a2 (by unfold ScA; omega))
      have h0 : 0 < L.length := by omega
      have hT0 : L.getD 0 T0 ∈ L := by
        rw [List.getD_eq_getElem?_getD, List.getElem?_eq_getElem h0]
        exact List.getElem_mem h0
      have hv : L.getD 0 T0 p < n := w3 _ hT0 p hp
      generalize hvv : L.getD 0 T0 p = v at hv
      have ev : vI n v = nI v := if_pos hv
      have ec : cd n v = v := if_pos hv
      have hcnt := fold_le (cpF_le L p v) L.length 0 0
      have hce := cp_eq L p v L.length 0 0
      rw [Nat.zero_add] at hce
      have e1 : eqv L p v L.length 0 = eqv L p v (L.length - 1) 1 := by
        obtain ⟨k, hk⟩ : ∃ k, L.length = k + 1 := ⟨L.length - 1, by omega⟩
        rw [hk, eqv, decide_eq_true hvv, Bool.true_and]
        rfl
      have lr := sure_loop h6 b3 w2 hp hv (L.length - 1) jfuel 1 true (by omega) (by unfold jfuel; omega)
      have lr : jloop (f_X6_sure_b57 (some 60) (nI p)) jfuel (nI v, 1) (HP sB) = _ := lr
      rw [Bool.true_and, ← e1] at lr
      have g0 : gA (HP sB) (some 75) 0 = some (nI (cod n (L.getD 0 T0) n)) := by
        have := g75 sB (i := 0) (by omega)
        rw [b3.at h0] at this
        exact this
      have pv : f_X0_victimIn (some 10) 0 (nI p) (HP sA) = some (nI v, HP sA) := by
        have := p0_victimIn h6 a3 (by omega) h0 hp
        rw [hvv, ev] at this
        exact this
      have ef : (nI (fold (cpF L p v) L.length 0 0) = nI L.length) = (eqv L p v L.length 0 = true) := propext ((nI_eq (by omega) (by omega)).trans hce)
      refine ⟨if eqv L p v L.length 0 = true then nI v else -9, sA, sB, ?_, ?_, Inv_S (a2.trans b2) hI⟩
      · simp -implicitDefEqProofs only [f_X5_sure, f_X5_refuseFits, gR_0_0, Option.bind_some, p5_rowAt s hi rfl, reduceCtorEq, if_false, gR_0_8, fk_q, if_true, p1_hasT hF hp, n10, qO_0, w1, a1, gR_0_5, gI_10_3, a3.1, en, qO_10, pv, p0_countPair h6 a3 (show L.length ≤ 320 by omega) hp hv, ef]
        split <;> rfl
      · simp -implicitDefEqProofs only [f_X6_sure, qO_60, if_true, p6_isPT hFA hp, Option.bind_some, n10, if_false, isRow_yes hi, b1, gI_60_26, b3.1, en, gR_60_25, g0, p6_of h6 _ hp, hvv, ec, lr]
/-! ask -/
theorem setR_setz {s : ST} {k : Nat} {f : Nat → Int32} {m q : Nat} (h : q < m) (v : Int32) : uV (setR s k 0 f m) k q v = setR s k 0 (fun p => if p = q then v else f p) m := by
  have := setR_set (s := s) (k := k) (b := 0) (f := f) h v
  rwa [Nat.zero_add] at this
def maF (n : Nat) (L : List (Nat → Nat)) (set : Nat) (j : Nat) (a : (Nat → Nat) × Nat) : (Nat → Nat) × Nat := (upT a.1 (vo n (L.getD j T0) set) (a.1 (vo n (L.getD j T0) set) + 1), if a.2 < a.1 (vo n (L.getD j T0) set) + 1 then a.1 (vo n (L.getD j T0) set) + 1 else a.2)
/-- the most that a week with this set can't tell apart -/
def mxL (n : Nat) (L : List (Nat → Nat)) (set : Nat) : Nat := (fold (maF n L set) L.length 0 (fun _ => 0, 0)).2
theorem maF_ok {n : Nat} {L : List (Nat → Nat)} {set j : Nat} {a : (Nat → Nat) × Nat} (h : (∀ k, a.1 k ≤ j) ∧ a.2 ≤ j) : (∀ k, (maF n L set j a).1 k ≤ j + 1) ∧ (maF n L set j a).2 ≤ j + 1 := by
  have h1 := h.1 (vo n (L.getD j T0) set)
  refine ⟨fun k => ?_, ?_⟩
  · show upT a.1 _ _ k ≤ j + 1
    unfold upT
    split
    · omega
    · have := h.1 k; omega
  · show (if a.2 < _ then _ else _) ≤ j + 1
    have := h.2
    split <;> omega
theorem g13 (s : ST) {i : Nat} (hi : i < 64) : gA (HP s) (some 13) (nI i) = some (sV s 13 i) := HP_gAn s (show i < hLen 13 from hi) (by omega)
theorem s13 (s : ST) {i : Nat} (hi : i < 64) (v : Int32) : sA (HP s) (some 13) (nI i) v = some (HP (uV s 13 i v)) := HP_sAn s v (show i < hLen 13 from hi) (by omega)
theorem g76 (s : ST) {i : Nat} (hi : i < 64) : gA (HP s) (some 76) (nI i) = some (sV s 76 i) := HP_gAn s (show i < hLen 76 from hi) (by omega)
theorem s76 (s : ST) {i : Nat} (hi : i < 64) (v : Int32) : sA (HP s) (some 76) (nI i) v = some (HP (uV s 76 i v)) := HP_sAn s v (show i < hLen 76 from hi) (by omega)
theorem fill13 (s : ST) : f_J7_fill_53178 (some 13) 0 (HP s) = some ((), HP (setR s 13 0 (fun _ => 0) 64)) := by
  have l : jloop (f_J7_fill_53178_b5 (some 13) 0 (nI 64)) jfuel (nI 0) (HP (setR s 13 0 (fun _ => 0) 0)) = some (.inr ((), HP (setR s 13 0 (fun _ => 0) 64))) := by
    refine jseq (n := 64) (fun j => nI j) (fun j => HP (setR s 13 0 (fun _ => 0) j)) ?_ (fun j hj => ?_) 64 jfuel 0 (by omega) (by unfold jfuel; omega)
    · simp only [f_J7_fill_53178_b5, if_pos (nI_le (Nat.le_refl 64) (show 64 < 2 ^ 31 by omega))]
    · have e1 : uV (setR s 13 0 (fun _ => 0) j) 13 j 0 = setR s 13 0 (fun _ => 0) (j + 1) := setR_1z s 13 (fun _ => 0) j
      simp only [f_J7_fill_53178_b5, if_neg (nI_ge hj (show 64 < 2 ^ 31 by omega)), s13 _ hj, Option.bind_some, nI_1, e1]
  rw [setR_0] at l
  have l : jloop (f_J7_fill_53178_b5 (some 13) 0 (nI 64)) jfuel 0 (HP s) = _ := l
  have el : lA (HP s) (some 13) = some (nI 64) := HP_lAn s (k := 13) (by decide)
  simp only [f_J7_fill_53178, el, Option.bind_some, l]
theorem clear76 (s : ST) (x : Int32) : jloop (f_X6_mostLeft_b2 (some 60) x) jfuel 0 (HP s) = some (.inr ((), HP (setR s 76 0 (fun _ => 0) 64))) := by
  have l : jloop (f_X6_mostLeft_b2 (some 60) x) jfuel (nI 0) (HP (setR s 76 0 (fun _ => 0) 0)) = some (.inr ((), HP (setR s 76 0 (fun _ => 0) 64))) := by
    refine jseq (n := 64) (fun j => nI j) (fun j => HP (setR s 76 0 (fun _ => 0) j)) ?_ (fun j hj => ?_) 64 jfuel 0 (by omega) (by unfold jfuel; omega)
    · simp only [f_X6_mostLeft_b2, if_pos (show (64 : Int32) ≤ nI 64 by decide)]
    · have e1 : uV (setR s 76 0 (fun _ => 0) j) 76 j 0 = setR s 76 0 (fun _ => 0) (j + 1) := setR_1z s 76 (fun _ => 0) j
      simp only [f_X6_mostLeft_b2, if_neg (show ¬ (64 : Int32) ≤ nI j from nI_ge (b := 64) hj (by omega)), gR_60_27, s76 _ hj, Option.bind_some, nI_1, e1]
  rw [setR_0] at l
  exact l
theorem AllF.at {n i : Nat} {L : List (Nat → Nat)} (h : AllF n L) (hi : i < L.length) : Ful n (L.getD i T0) := by
  apply h
  rw [List.getD_eq_getElem?_getD, List.getElem?_eq_getElem hi]
  exact List.getElem_mem hi
theorem up_set {s : ST} {k v : Nat} {c : Nat → Nat} (hv : v < 64) (x : Nat) : uV (setR s k 0 (fun p => nI (c p)) 64) k v (nI x) = setR s k 0 (fun p => nI (upT c v x p)) 64 := by
  rw [setR_setz hv]
  congr 1
  funext p
  unfold upT
  split <;> rfl
theorem p0_most {s : ST} {n set : Nat} {L : List (Nat → Nat)} (h6 : n ≤ 6) (hA : HA s n L) (hL : L.length ≤ 265) (hFu : AllF n L) (hs : set < 64) : ∃ s', f_X0_mostAlike (some 10) (nI set) (HP s) = some (nI (mxL n L set), HP s') ∧ SameS s s' ∧ sV s' 11 = sV s 11 ∧ sI s' = sI s := by
  have l := jfoldH (body := f_X0_mostAlike_b12 (some 10) (nI set)) (n := L.length) (fun (a : (Nat → Nat) × Nat) j => (nI a.2, nI j)) (fun a => nI a.2) (fun a => HP (setR s 13 0 (fun k => nI (a.1 k)) 64)) (maF n L set) (fun j a => (∀ k, a.1 k ≤ j) ∧ a.2 ≤ j) (fun j a hj h => maF_ok h) (fun a _ => by
      have h1 : sI (setR s 13 0 (fun k => nI (a.1 k)) 64) 323 = nI L.length := hA.1
      simp only [f_X0_mostAlike_b12, gI_10_3, Option.bind_some, h1, if_pos (nI_le (Nat.le_refl L.length) (show L.length < 2 ^ 31 by omega))]) (fun j a hj h => by
      have h1 : sI (setR s 13 0 (fun k => nI (a.1 k)) 64) 323 = nI L.length := hA.1
      have h2 : sI (setR s 13 0 (fun k => nI (a.1 k)) 64) 324 = nI n := hA.2.1
      have e11 : sV (setR s 13 0 (fun k => nI (a.1 k)) 64) 11 j = nI (cod n (L.getD j T0) n) := by rw [sV_setRne (by omega)]; exact hA.at hj
      have hTf := hFu.at hj
      have hv := vo_lt h6 hTf set
      have hc := h.1 (vo n (L.getD j T0) set)
      have hc2 := h.2
      have e13 : sV (setR s 13 0 (fun k => nI (a.1 k)) 64) 13 (vo n (L.getD j T0) set) = nI (a.1 (vo n (L.getD j T0) set)) := sV_setRz hv
      have e13' : sV (setR s 13 0 (fun k => nI (upT a.1 (vo n (L.getD j T0) set) (a.1 (vo n (L.getD j T0) set) + 1) k)) 64) 13 (vo n (L.getD j T0) set) = nI (a.1 (vo n (L.getD j T0) set) + 1) := by rw [sV_setRz hv, upT_at]
      have elt : (nI a.2 < nI (a.1 (vo n (L.getD j T0) set) + 1)) = (a.2 < a.1 (vo n (L.getD j T0) set) + 1) := propext (nI_ltI (by omega) (by omega))
      simp only [f_X0_mostAlike_b12, gI_10_3, Option.bind_some, h1, if_neg (nI_ge hj (show L.length < 2 ^ 31 by omega)), if_neg (show ¬ (320 : Int32) ≤ nI j from nI_ge (b := 320) (by omega) (by omega)), gR_10_0, g11 _ (show j < 320 by omega), e11, qO_10, if_true, p0_vof h6 h2 hTf hs, if_neg (nI_pos (show vo n (L.getD j T0) set < 2 ^ 31 by omega)), if_neg (show ¬ (64 : Int32) ≤ nI (vo n (L.getD j T0) set) from nI_ge (b := 64) hv (by omega)), gR_10_2, g13 _ hv, e13, s13 _ hv, nI_1, up_set hv, e13', elt, maF]
      congr 4
      split <;> rfl) L.length jfuel 0 (fun _ => 0, 0) (by omega) (by unfold jfuel; omega) ⟨fun _ => Nat.le_refl 0, Nat.le_refl 0⟩
  have l1 : jloop (f_X0_mostAlike_b12 (some 10) (nI set)) jfuel (0, 0) (HP (setR s 13 0 (fun _ => 0) 64)) = _ := l.1
  refine ⟨setR s 13 0 (fun k => nI ((fold (maF n L set) L.length 0 (fun _ => 0, 0)).1 k)) 64, ?_, SameS.uA (by unfold ScA; omega), sV_setRne (by omega), rfl⟩
  simp -implicitDefEqProofs only [f_X0_mostAlike, gR_10_2, Option.bind_some, fill13, l1, mxL]
theorem p6_most {s : ST} {n set : Nat} {L : List (Nat → Nat)} (hF : InvF s n) (hR : HR s n L) (hL : L.length ≤ 265) (hFu : AllF n L) (hs : set < 64) : ∃ s', f_X6_mostLeft (some 60) (nI set) (HP s) = some (nI (mxL n L set), HP s') ∧ SameS s s' ∧ sV s' 75 = sV s 75 ∧ sI s' = sI s := by
  have h6 := hF.le
  have l := jfoldH (body := f_X6_mostLeft_b25 (some 60) (nI set)) (n := L.length) (fun (a : (Nat → Nat) × Nat) j => (nI a.2, nI j)) (fun a => nI a.2) (fun a => HP (setR s 76 0 (fun k => nI (a.1 k)) 64)) (maF n L set) (fun j a => (∀ k, a.1 k ≤ j) ∧ a.2 ≤ j) (fun j a hj h => maF_ok h) (fun a _ => by
      have h1 : sI (setR s 76 0 (fun k => nI (a.1 k)) 64) 1946 = nI L.length := hR.1
      simp only [f_X6_mostLeft_b25, gI_60_26, Option.bind_some, h1, if_pos (nI_le (Nat.le_refl L.length) (show L.length < 2 ^ 31 by omega))]) (fun j a hj h => by
      have h1 : sI (setR s 76 0 (fun k => nI (a.1 k)) 64) 1946 = nI L.length := hR.1
      have hF' : InvF (setR s 76 0 (fun k => nI (a.1 k)) 64) n := InvF_S (SameS.uA (by unfold ScA; omega)) hF
      have e75 : sV (setR s 76 0 (fun k => nI (a.1 k)) 64) 75 j = nI (cod n (L.getD j T0) n) := by rw [sV_setRne (by omega)]; exact hR.at hj
      have hTf := hFu.at hj
      have hv := vo_lt h6 hTf set
      have hc := h.1 (vo n (L.getD j T0) set)
      have hc2 := h.2
      have e13 : sV (setR s 76 0 (fun k => nI (a.1 k)) 64) 76 (vo n (L.getD j T0) set) = nI (a.1 (vo n (L.getD j T0) set)) := sV_setRz hv
      have e13' : sV (setR s 76 0 (fun k => nI (upT a.1 (vo n (L.getD j T0) set) (a.1 (vo n (L.getD j T0) set) + 1) k)) 64) 76 (vo n (L.getD j T0) set) = nI (a.1 (vo n (L.getD j T0) set) + 1) := by rw [sV_setRz hv, upT_at]
      have ele : (nI (a.1 (vo n (L.getD j T0) set) + 1) ≤ nI a.2) = (a.1 (vo n (L.getD j T0) set) + 1 ≤ a.2) := propext (nI_leI (by omega) (by omega))
      simp only [f_X6_mostLeft_b25, gI_60_26, Option.bind_some, h1, if_neg (nI_ge hj (show L.length < 2 ^ 31 by omega)), gR_60_25, g75 _ (show j < 265 by omega), e75, qO_60, if_true, p6_vof hF' hTf hs, gR_60_27, g76 _ hv, e13, s76 _ hv, nI_1, up_set hv, e13', ele, maF]
      by_cases c : a.1 (vo n (L.getD j T0) set) + 1 ≤ a.2
      · rw [if_pos c, if_neg (by omega)]
      · rw [if_neg c, if_pos (by omega)]) L.length jfuel 0 (fun _ => 0, 0) (by omega) (by unfold jfuel; omega) ⟨fun _ => Nat.le_refl 0, Nat.le_refl 0⟩
  have l1 : jloop (f_X6_mostLeft_b25 (some 60) (nI set)) jfuel (0, 0) (HP (setR s 76 0 (fun _ => 0) 64)) = _ := l.1
  refine ⟨setR s 76 0 (fun k => nI ((fold (maF n L set) L.length 0 (fun _ => 0, 0)).1 k)) 64, ?_, SameS.uA (by unfold ScA; omega), sV_setRne (by omega), rfl⟩
  simp -implicitDefEqProofs only [f_X6_mostLeft, clear76, Option.bind_some, l1, mxL]
theorem mxL_le (n : Nat) (L : List (Nat → Nat)) (set : Nat) : mxL n L set ≤ L.length := by
  have h : ∀ (m j : Nat) (a : (Nat → Nat) × Nat), (∀ k, a.1 k ≤ j) ∧ a.2 ≤ j → (fold (maF n L set) m j a).2 ≤ j + m := by
    intro m
    induction m with
    | zero => intro j a h; exact h.2
    | succ m ih =>
      intro j a h
      rw [fold]
      have := ih (j + 1) _ (maF_ok (n := n) (L := L) (set := set) h)
      omega
  have := h L.length 0 (fun _ => 0, 0) ⟨fun _ => Nat.le_refl 0, Nat.le_refl 0⟩
  unfold mxL
  omega
theorem mxL_0 (n : Nat) (L : List (Nat → Nat)) : mxL n L 0 = L.length := by
  have hv : ∀ T, vo n T 0 = 0 := fun T => fold_id n 0 0 (fun k b _ _ => by unfold voF; rw [Nat.zero_testBit]; rfl)
  have h : ∀ (m j : Nat) (c : Nat → Nat) (k : Nat), c 0 = k → (fold (maF n L 0) m j (c, k)).2 = k + m := by
    intro m
    induction m with
    | zero => intro j c k _; rfl
    | succ m ih =>
      intro j c k hk
      rw [fold]
      unfold maF
      rw [hv]
      show (fold (maF n L 0) m (j + 1) (upT c 0 (c 0 + 1), if k < c 0 + 1 then c 0 + 1 else k)).2 = k + (m + 1)
      rw [hk, if_pos (by omega), ih (j + 1) _ (k + 1) (upT_at _ _ _)]
      omega
  unfold mxL
  rw [h L.length 0 _ 0 rfl, Nat.zero_add]
def akF (n : Nat) (L : List (Nat → Nat)) (set : Nat) (a : Nat × Nat) : Nat × Nat := if a.2 ≤ mxL n L set then a else (set, mxL n L set)
theorem ask5 {s : ST} {n : Nat} {L : List (Nat → Nat)} (hF : InvF s n) (hL : L.length ≤ 265) (hFu : AllF n L) : ∀ (r set f : Nat) (a : Nat × Nat) (s' : ST), set + r = 2 ^ n → r < f → SameS s s' → HA s' n L → a.2 ≤ 265 → ∃ s'', jloop (f_X5_ask_b43 (some 0)) f (nI a.1, nI a.2, nI set) (HP s') = some (.inr ((nI (fold (akF n L) r set a).1, nI (fold (akF n L) r set a).2), HP s'')) ∧ SameS s s'' := by
  have h6 := hF.le
  have h64 := pow64 h6
  intro r
  induction r with
  | zero =>
    intro set f a s' hr hf hS hA ha
    obtain ⟨f, rfl⟩ : ∃ f', f = f' + 1 := ⟨f - 1, by omega⟩
    refine ⟨s', ?_, hS⟩
    have hF' := InvF_S hS hF
    have eW : sW s' = sW s := hS.1
    rw [jloop]
    simp only [f_X5_ask_b43, gR_0_8, Option.bind_some, fk_q, if_true, p1_everyone hF', if_pos (nI_lt (show 2 ^ n - 1 < set by have := Nat.two_pow_pos n; omega) (show set < 2 ^ 31 by omega)), fold]
  | succ r ih =>
    intro set f a s' hr hf hS hA ha
    obtain ⟨f, rfl⟩ : ∃ f', f = f' + 1 := ⟨f - 1, by omega⟩
    have hF' := InvF_S hS hF
    obtain ⟨s2, w1, w2, w3, w4⟩ := p0_most (set := set) h6 hA hL hFu (by omega)
    have hm := mxL_le n L set
    obtain ⟨s3, y1, y2⟩ := ih (set + 1) f (akF n L set a) s2 (by omega) (by omega) (hS.trans w2) (HA_D hA w3 (by rw [w4]) (by rw [w4])) (by
      unfold akF
      split
      · exact ha
      · show mxL n L set ≤ 265
        omega)
    refine ⟨s3, ?_, y2⟩
    have ele : (nI a.2 ≤ nI (mxL n L set)) = (a.2 ≤ mxL n L set) := propext (nI_leI (by omega) (by omega))
    rw [jloop, fold]
    simp only [f_X5_ask_b43, gR_0_8, Option.bind_some, fk_q, if_true, p1_everyone hF', if_neg (nI_nlt (show set ≤ 2 ^ n - 1 by omega) (show 2 ^ n - 1 < 2 ^ 31 by omega)), gR_0_5, qO_10, w1, ele, nI_1]
    by_cases c : a.2 ≤ mxL n L set
    · rw [show akF n L set a = a from if_pos c] at y1 ⊢
      rw [if_pos c]
      exact y1
    · rw [show akF n L set a = (set, mxL n L set) from if_neg c] at y1 ⊢
      rw [if_neg c]
      exact y1
theorem ask6 {s : ST} {n : Nat} {L : List (Nat → Nat)} (hF : InvF s n) (hL : L.length ≤ 265) (hFu : AllF n L) : ∀ (r set f : Nat) (a : Nat × Nat) (s' : ST), set + r = 2 ^ n → r < f → SameS s s' → HR s' n L → a.2 ≤ 265 → ∃ s'', jloop (f_X6_ask_b45 (some 60)) f (nI a.1, nI a.2, nI set) (HP s') = some (.inr ((nI (fold (akF n L) r set a).1, nI (fold (akF n L) r set a).2), HP s'')) ∧ SameS s s'' := by
  have h6 := hF.le
  have h64 := pow64 h6
  have ev3 := (ev_dec n (by omega)).2.2
  intro r
  induction r with
  | zero =>
    intro set f a s' hr hf hS hR ha
    obtain ⟨f, rfl⟩ : ∃ f', f = f' + 1 := ⟨f - 1, by omega⟩
    refine ⟨s', ?_, hS⟩
    have hF' := InvF_S hS hF
    rw [jloop]
    simp only [f_X6_ask_b45, gI_60_1, Option.bind_some, hF'.2.1, ev3, if_pos (nI_le (show 2 ^ n ≤ set by omega) (show set < 2 ^ 31 by omega)), fold]
  | succ r ih =>
    intro set f a s' hr hf hS hR ha
    obtain ⟨f, rfl⟩ : ∃ f', f = f' + 1 := ⟨f - 1, by omega⟩
    have hF' := InvF_S hS hF
    obtain ⟨s2, w1, w2, w3, w4⟩ := p6_most (set := set) hF' hR hL hFu (by omega)
    have hm := mxL_le n L set
    obtain ⟨s3, y1, y2⟩ := ih (set + 1) f (akF n L set a) s2 (by omega) (by omega) (hS.trans w2) ⟨by rw [w4]; exact hR.1, fun i T h => by rw [w3]; exact hR.2 i T h⟩ (by
      unfold akF
      split
      · exact ha
      · show mxL n L set ≤ 265
        omega)
    refine ⟨s3, ?_, y2⟩
    have ele : (nI a.2 ≤ nI (mxL n L set)) = (a.2 ≤ mxL n L set) := propext (nI_leI (by omega) (by omega))
    rw [jloop, fold]
    simp only [f_X6_ask_b45, f_X6_ask_b45_j77, gI_60_1, Option.bind_some, hF'.2.1, ev3, if_neg (nI_ge (show set < 2 ^ n by omega) (show 2 ^ n < 2 ^ 31 by omega)), qO_60, if_true, w1, ele, nI_1]
    by_cases c : a.2 ≤ mxL n L set
    · rw [show akF n L set a = a from if_pos c] at y1 ⊢
      rw [if_pos c, if_pos c]
      exact y1
    · rw [show akF n L set a = (set, mxL n L set) from if_neg c] at y1 ⊢
      rw [if_neg c, if_neg c]
      exact y1
theorem ag_ask {s : ST} (hI : Inv s) (a0 : Int32) : ∃ (v : Int32) (s1 s2 : ST), f_X5_ask (some 0) a0 (HP s) = some (v, HP s1) ∧ f_X6_ask (some 60) a0 (HP s1) = some (v, HP s2) ∧ Inv s2 := by
  obtain ⟨n, hF, hT, hK⟩ := hI.1
  have h6 := hF.le
  rcases ix6 a0 with h0 | ⟨i, hi, rfl⟩
  · refine ⟨-1, s, s, ?_, ?_, hI⟩
    · simp only [f_X5_ask, gR_0_0, Option.bind_some, p5_rowNo s h0, if_true]
    · simp only [f_X6_ask, isRow_no h0, Option.bind_some, if_true]
  rcases weeks_cases hI hF hi with ⟨v, s1, s2, w0, w1, w2, w3, w4⟩ | ⟨L, w1, w2, w3, w4, ⟨sA, a1, a2, a3⟩, w5⟩
  · refine ⟨v, s1, s2, ?_, ?_, w4⟩
    · simp -implicitDefEqProofs only [f_X5_ask, f_X5_refuseFits, gR_0_0, Option.bind_some, p5_rowAt s hi rfl, reduceCtorEq, if_false, if_true, qO_0, w1, w0]
    · simp -implicitDefEqProofs only [f_X6_ask, qO_60, if_true, Option.bind_some, n10, if_false, isRow_yes hi, w3, w0]
  · by_cases hl : L.length = 0
    · have a4 : sI sA 323 = 0 := by rw [a3.1, hl]; rfl
      have hFA := InvF_5 4 (InvF_S a2 hF)
      have sv : ∀ k, k ≠ 15 → ¬ ScA k → sV (fnd5 sA 4) k = sV s k := fun k h1 hk => by rw [sV5 sA 4 h1]; exact S_V a2 hk
      obtain ⟨sB, b1, b2, b3⟩ := w5 (fnd5 sA 4) hFA (sv 66 (by omega) (by unfold ScA; omega)) (sv 67 (by omega) (by unfold ScA; omega)) (sv 65 (by omega) (by unfold ScA; omega))
      have b4 : sI sB 1946 = 0 := by rw [b3.1, hl]; rfl
      refine ⟨-3, fnd5 sA 4, fnd6 sB 4, ?_, ?_, Inv_S (cS_f6 ((cS_f5 a2 4).trans b2) 4) (inv_find hI 4)⟩
      · simp -implicitDefEqProofs only [f_X5_ask, f_X5_refuseFits, gR_0_0, Option.bind_some, p5_rowAt s hi rfl, reduceCtorEq, if_false, if_true, qO_0, w1, a1, gR_0_5, gI_10_3, a4, p5_find (x := 4) sA 4 rfl (by omega) (by omega), n30]
      · simp -implicitDefEqProofs only [f_X6_ask, qO_60, if_true, Option.bind_some, n10, if_false, isRow_yes hi, b1, gI_60_26, b4, p6_find (x := 4) _ 4 rfl (by omega)]
    · have en : ¬ nI L.length = 0 := nI_ne0 (by omega) (by omega)
      have hFA := InvF_S a2 hF
      have hpp := Nat.two_pow_pos n
      have h64 := pow64 h6
      obtain ⟨sC, c1, c2, c3, c4⟩ := p0_most (set := 0) h6 a3 w2 w3 (by omega)
      rw [mxL_0] at c1
      have c1 : f_X0_mostAlike (some 10) 0 (HP sA) = some (nI L.length, HP sC) := c1
      obtain ⟨sD, d1, d2⟩ := ask5 hF w2 w3 (2 ^ n - 1) 1 jfuel (0, L.length) sC (by omega) (by unfold jfuel; omega) (a2.trans c2) (HA_D a3 c3 (by rw [c4]) (by rw [c4])) w2
      have d1 : jloop (f_X5_ask_b43 (some 0)) jfuel (0, nI L.length, 1) (HP sC) = _ := d1
      generalize hv : fold (akF n L) (2 ^ n - 1) 1 (0, L.length) = v at d1
      have hF1 : InvF (uI sD 11 (nI v.2)) n := InvF_same (SameT.uI (by unfold IdT; omega)) (InvF_S d2 hF)
      have sv : ∀ k, ¬ ScA k → sV (uI sD 11 (nI v.2)) k = sV s k := fun k hk => by rw [sV_uI]; exact S_V d2 hk
      obtain ⟨sB, b1, b2, b3⟩ := w5 (uI sD 11 (nI v.2)) hF1 (sv 66 (by unfold ScA; omega)) (sv 67 (by unfold ScA; omega)) (sv 65 (by unfold ScA; omega))
      obtain ⟨sE, e1, e2⟩ := ask6 (s := uI sD 11 (nI v.2)) hF1 w2 w3 (2 ^ n - 1) 1 jfuel (0, L.length) sB (by omega) (by unfold jfuel; omega) b2 b3 w2
      have e1 : jloop (f_X6_ask_b45 (some 60)) jfuel (0, nI L.length, 1) (HP sB) = _ := e1
      rw [hv] at e1
      refine ⟨nI v.1, uI sD 11 (nI v.2), uI sE 1931 (nI v.2), ?_, ?_, Inv_S (cS_I ((cS_I d2 11 (nI v.2)).trans e2) 1931 (nI v.2)) (inv_tell hI (nI v.2))⟩
      · simp -implicitDefEqProofs only [f_X5_ask, f_X5_refuseFits, gR_0_0, Option.bind_some, p5_rowAt s hi rfl, reduceCtorEq, if_false, if_true, qO_0, w1, a1, gR_0_5, gI_10_3, a3.1, en, qO_10, c1, d1, sF_0_11]
      · simp -implicitDefEqProofs only [f_X6_ask, qO_60, if_true, Option.bind_some, n10, if_false, isRow_yes hi, b1, gI_60_26, b3.1, en, e1, sF_60_11]
