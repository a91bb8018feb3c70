/-! ===== weeks: DEEDS, FINES, REACHED by number ===== -/
/-- m places of the array k from b on are f -/
def setR (s : ST) (k b : Nat) (f : Nat → Int32) (m : Nat) : ST := uA s k (fun i => if b ≤ i ∧ i < b + m then f (i - b) else sV s k i)
theorem sV_setR (s : ST) (k b : Nat) (f : Nat → Int32) (m j i : Nat) : sV (setR s k b f m) j i = if j = k then (if b ≤ i ∧ i < b + m then f (i - b) else sV s k i) else sV s j i := by
  unfold setR
  rw [sV_uA]
  split <;> rfl
theorem sV_setRne {s : ST} {k b : Nat} {f : Nat → Int32} {m j : Nat} (h : j ≠ k) : sV (setR s k b f m) j = sV s j := by
  unfold setR
  rw [sV_uA, if_neg h]
theorem sV_setRin {s : ST} {k b : Nat} {f : Nat → Int32} {m p : Nat} (h : p < m) : sV (setR s k b f m) k (b + p) = f p := by
  rw [sV_setR, if_pos rfl, if_pos (by omega), show b + p - b = p by omega]
theorem sV_setRout {s : ST} {k b : Nat} {f : Nat → Int32} {m i : Nat} (h : i < b ∨ b + m ≤ i) : sV (setR s k b f m) k i = sV s k i := by
  rw [sV_setR, if_pos rfl, if_neg (by omega)]
theorem sI_setR (s : ST) (k b : Nat) (f : Nat → Int32) (m : Nat) : sI (setR s k b f m) = sI s := rfl
theorem setR_0 (s : ST) (k b : Nat) (f : Nat → Int32) : setR s k b f 0 = s := ST_ext (fun _ => rfl) rfl (fun j i => by
  rw [sV_setR]
  split
  · rename_i e
    rw [if_neg (by omega), e]
  · rfl) rfl
theorem setR_1 (s : ST) (k b : Nat) (f : Nat → Int32) (m : Nat) : uV (setR s k b f m) k (b + m) (f m) = setR s k b f (m + 1) := ST_ext (fun _ => rfl) rfl (fun j i => by
  simp only [sV_uV, sV_setR]
  by_cases e : j = k
  · subst e
    simp only [if_true]
    by_cases ei : i = b + m
    · subst ei
      rw [if_pos rfl, if_pos (by omega), show b + m - b = m by omega]
    · rw [if_neg ei]
      by_cases hc : b ≤ i ∧ i < b + m
      · rw [if_pos hc, if_pos (by omega)]
      · rw [if_neg hc, if_neg (by omega)]
  · simp only [e, if_false]) rfl
theorem setR_id {s : ST} {k b : Nat} {f : Nat → Int32} {m : Nat} (h : f m = sV s k (b + m)) : setR s k b f m = setR s k b f (m + 1) := ST_ext (fun _ => rfl) rfl (fun j i => by
  simp only [sV_setR]
  by_cases e : j = k
  · subst e
    simp only [if_true]
    by_cases ei : i = b + m
    · subst ei
      rw [if_neg (by omega), if_pos (by omega), show b + m - b = m by omega, h]
    · by_cases hc : b ≤ i ∧ i < b + m
      · rw [if_pos hc, if_pos (by omega)]
      · rw [if_neg hc, if_neg (by omega)]
  · simp only [e, if_false]) rfl
theorem setR_set {s : ST} {k b : Nat} {f : Nat → Int32} {m q : Nat} (h : q < m) (v : Int32) : uV (setR s k b f m) k (b + q) v = setR s k b (fun p => if p = q then v else f p) m := ST_ext (fun _ => rfl) rfl (fun j i => by
  simp only [sV_uV, sV_setR]
  by_cases e : j = k
  · subst e
    simp only [if_true]
    by_cases ei : i = b + q
    · subst ei
      rw [if_pos rfl, if_pos (by omega), if_pos (by omega)]
    · rw [if_neg ei]
      by_cases hc : b ≤ i ∧ i < b + m
      · rw [if_pos hc, if_pos hc, if_neg (by omega)]
      · rw [if_neg hc, if_neg hc]
  · simp only [e, if_false]) rfl
theorem setR_uV {s : ST} {k b : Nat} {f : Nat → Int32} {m i : Nat} (h : i < b ∨ b + m ≤ i) (v w : Int32) : uV (setR (uV s k i v) k b f m) k i w = setR (uV s k i w) k b f m := ST_ext (fun _ => rfl) rfl (fun j x => by
  simp only [sV_uV, sV_setR]
  by_cases e : j = k
  · subst e
    simp only [if_true]
    by_cases ei : x = i
    · subst ei
      rw [if_pos rfl, if_neg (by omega), if_pos rfl]
    · rw [if_neg ei, if_neg ei, if_neg ei]
  · simp only [e, if_false]) rfl
theorem fold_s {A : Type} (F : Nat → A → A) (m : Nat) (a : A) : fold F (m + 1) 0 a = F m (fold F m 0 a) := by
  rw [fold_add, Nat.zero_add]
  rfl
/-- whether the AIM is REACHED by these DEEDS -/
def rcd (s : ST) (D : Nat → Nat) (q : Nat) : Bool := decide (sV s 63 q ≤ nI (D q))
def owD (s : ST) (V : Nat → Int32) (D : Nat → Nat) (p : Nat) : Bool := decide (V p ≠ -9) && decide (kN s p ≠ 2) && decide (¬ (sV s 65 p >>> (V p &&& 31)) &&& 1 = 1) && !rcd s D (V p).toNatClampNeg
def d1 (s : ST) (D : Nat → Nat) (c : Nat → Int32) (p : Nat) : Nat := if c p = 1 then (if rcd s D p then D p else D p + 1) else D p
def thF (s : ST) (V : Nat → Int32) (D : Nat → Nat) (c : Nat → Int32) (j : Nat) (E : Nat → Nat) : Nat → Nat := if c j = 2 ∧ V j ≠ -9 ∧ rcd s D (V j).toNatClampNeg = false then (fun q => if q = (V j).toNatClampNeg then E q - str s j q else E q) else E
def d2 (s : ST) (n : Nat) (V : Nat → Int32) (D : Nat → Nat) (c : Nat → Int32) : Nat → Nat := fold (thF s V D c) n 0 (d1 s D c)
def f1 (s : ST) (V : Nat → Int32) (D : Nat → Nat) (F : Nat → Int32) (c : Nat → Int32) (p : Nat) : Int32 := if c p = 2 then F p else if owD s V D p then F p + 1 else F p
/-- how many were REACHED -/
def cwF (s : ST) (D E : Nat → Nat) (p : Nat) (a : Int32) : Int32 := if !rcd s D p && rcd s E p then a + 1 else a
def cntW (s : ST) (n : Nat) (D E : Nat → Nat) : Int32 := fold (cwF s D E) n 0 0
theorem wN {s s' : ST} (h : SameN s s') : rcd s' = rcd s ∧ owD s' = owD s ∧ d1 s' = d1 s ∧ thF s' = thF s ∧ d2 s' = d2 s ∧ f1 s' = f1 s ∧ str s' = str s ∧ cntW s' = cntW s := by
  have e62 : sV s' 62 = sV s 62 := h.2.2.1 62 (by unfold TwA; omega)
  have e63 : sV s' 63 = sV s 63 := h.2.2.1 63 (by unfold TwA; omega)
  have e64 : sV s' 64 = sV s 64 := h.2.2.1 64 (by unfold TwA; omega)
  have e65 : sV s' 65 = sV s 65 := h.2.2.1 65 (by unfold TwA; omega)
  have k1 : kN s' = kN s := by funext p; unfold kN; rw [e62]
  have k2 : zN s' = zN s := by funext p; unfold zN; rw [e64]
  have k3 : pw s' = pw s := by funext p; unfold pw; rw [k1, k2]
  have n7 : str s' = str s := by funext p q; unfold str; rw [e65, k1, k3]
  have n1 : rcd s' = rcd s := by funext D q; unfold rcd; rw [e63]
  have n2 : owD s' = owD s := by funext V D p; unfold owD; rw [n1, e65, k1]
  have n3 : d1 s' = d1 s := by funext D c p; unfold d1; rw [n1]
  have n4 : thF s' = thF s := by funext V D c j E; unfold thF; rw [n1, n7]
  have n5 : d2 s' = d2 s := by funext n V D c; unfold d2; rw [n4, n3]
  have n6 : f1 s' = f1 s := by funext V D F c p; unfold f1; rw [n2]
  have n8 : cntW s' = cntW s := by
    have : cwF s' = cwF s := by funext D E p a; unfold cwF; rw [n1]
    funext n D E; unfold cntW; rw [this]
  exact ⟨n1, n2, n3, n4, n5, n6, n7, n8⟩
theorem InvF.aim {s : ST} {n p : Nat} (hF : InvF s n) (hp : p < n) : ∃ a : Nat, 1 ≤ a ∧ a ≤ 9 ∧ sV s 63 p = nI a := by
  obtain ⟨-, ⟨a, h1, h2, -, h3⟩, -⟩ := hF.2.2.2.2 p hp
  exact ⟨a, h1, h2, h3⟩
theorem d1_le {s : ST} {n p : Nat} {D : Nat → Nat} {c : Nat → Int32} (hF : InvF s n) (hp : p < n) (hD : D p ≤ 9) : d1 s D c p ≤ 9 := by
  obtain ⟨a, h1, h2, h3⟩ := hF.aim hp
  unfold d1
  split
  · split
    · exact hD
    · rename_i h
      unfold rcd at h
      rw [decide_eq_true_eq, h3, nI_leI (by omega) (by omega)] at h
      omega
  · exact hD
theorem d2_le {s : ST} {n : Nat} {V : Nat → Int32} {D : Nat → Nat} {c : Nat → Int32} (hF : InvF s n) (hD : ∀ p, p < n → D p ≤ 9) : ∀ p, p < n → d2 s n V D c p ≤ 9 :=
  fold_P (fun E : Nat → Nat => ∀ p, p < n → E p ≤ 9) n 0 _ (fun k E _ _ hE p hp => by
    unfold thF
    have := hE p hp
    split
    · show (if p = _ then E p - str s k p else E p) ≤ 9
      split <;> omega
    · exact this) (fun p hp => d1_le hF hp (hD p hp))
theorem d2_rcd {s : ST} {n : Nat} {V : Nat → Int32} {D : Nat → Nat} {c : Nat → Int32} {p : Nat} (h : rcd s D p = true) : d2 s n V D c p = D p :=
  fold_P (fun E : Nat → Nat => E p = D p) n 0 _ (fun k E _ _ hE => by
    show thF s V D c k E p = D p
    unfold thF
    split
    · rename_i h2
      show (if p = _ then E p - str s k p else E p) = D p
      rw [if_neg (fun e => by rw [← e, h] at h2; exact absurd h2.2.2 (by simp))]
      exact hE
    · exact hE) (by
    show d1 s D c p = D p
    unfold d1
    rw [if_pos h]
    split <;> rfl)
theorem rcd_d2 {s : ST} {n : Nat} {V : Nat → Int32} {D : Nat → Nat} {c : Nat → Int32} {p : Nat} (h : rcd s D p = true) : rcd s (d2 s n V D c) p = true := by
  unfold rcd
  rw [d2_rcd h]
  exact h
theorem pset_pow (P : Nat → Bool) (n : Nat) : pset P n < 2 ^ n := Nat.lt_pow_two_of_testBit _ (fun i hi => by
  rw [pset_tb]
  simp [Nat.not_lt.mpr hi])
theorem p5_inR {P : Nat → Bool} {n j : Nat} (h6 : n ≤ 6) (hj : j < n) (ah : AH) : f_X5_isIn (nI (pset P n)) (nI j) ah = some (if P j then 1 else 0, ah) := by
  rw [p5_isIn (by omega)]
  have e := bit_dec (pset P n) (pset_lt P h6) j (by omega)
  rw [pset_tb] at e
  simp only [hj, decide_true, Bool.true_and] at e
  simp only [e]
theorem p6_hasR {P : Nat → Bool} {n j : Nat} (h6 : n ≤ 6) (hj : j < n) (ah : AH) : f_X6_has (nI (pset P n)) (nI j) ah = some (if P j then 1 else 0, ah) := by
  rw [p6_has]
  have e := bit_dec (pset P n) (pset_lt P h6) j (by omega)
  rw [pset_tb] at e
  simp only [hj, decide_true, Bool.true_and] at e
  simp only [e]
theorem sub0 {a b : Nat} (ha : a ≤ 100) (hb : b ≤ 100) : (if 0 ≤ nI a - nI b then nI a - nI b else 0) = nI (a - b) := by
  by_cases h : b ≤ a
  · rw [pk_sub h, if_pos (nI_pos' (by omega))]
  · have e := pk_sneg (a := a) (b := b) (by omega) (by omega)
    rw [if_neg (i32_nlt.mp e), show a - b = 0 by omega]
    rfl
/-! the class's week -/
def CS (s : ST) (n t : Nat) (V : Nat → Int32) (D : Nat → Nat) (F : Nat → Int32) : Prop := t ≤ 40 ∧ sI s 163 = nI t ∧ ∀ p, p < n → sV s 6 (6 * t + p) = V p ∧ Vok n p (V p) ∧ sV s 7 (6 * t + p) = nI (D p) ∧ D p ≤ 9 ∧ sV s 8 (6 * t + p) = F p
theorem p5_hasR {s : ST} {n t p : Nat} {V : Nat → Int32} {D : Nat → Nat} {F : Nat → Int32} (hF : InvF s n) (hC : CS s n t V D F) (hp : p < n) : f_X5_hasReached (some 0) (nI p) (HP s) = some (if rcd s D p then 1 else 0, HP s) := by
  have h6 := hF.le
  obtain ⟨ht, hs, hc⟩ := hC
  obtain ⟨-, -, e, -, -⟩ := hc p hp
  simp only [f_X5_hasReached, gR_0_3, Option.bind_some, qO_5, if_true, p4_deedsOf ht hs (show p < 6 by omega), gR_0_8, fk_q, p1_aimOf hF hp, hF.a hp, e, rcd, decide_eq_true_eq]
  by_cases h : sV s 63 p ≤ nI (D p)
  · rw [if_pos h, if_neg (fun q => (i32_nlt.mp q) h)]
  · rw [if_neg h, if_pos (i32_nlt.mpr h)]
theorem p5_rsetD {s : ST} {n t : Nat} {V : Nat → Int32} {D : Nat → Nat} {F : Nat → Int32} (hF : InvF s n) (hC : CS s n t V D F) : f_X5_reachedSet (some 0) (HP s) = some (nI (pset (rcd s D) n), HP s) := by
  have h6 := hF.le
  have l := jfoldH (body := f_X5_reachedSet_b4 (some 0)) (n := n) (fun (a : Nat) j => (nI a, nI j)) (fun a => nI a) (fun _ => HP s) (fun p a => if rcd s D p = true then a ||| 2 ^ p else a) (fun _ a => a < 64) (fun j a hj ha => by
      show (if rcd s D j = true then a ||| 2 ^ j else a) < 64
      split
      · exact or_lt ha (by omega)
      · exact ha) (fun a _ => by
      simp only [f_X5_reachedSet_b4, gR_0_8, Option.bind_some, fk_n, hF.2.2.1, if_pos (nI_le (Nat.le_refl n) (show n < 2 ^ 31 by omega))]) (fun j a hj ha => by
      simp only [f_X5_reachedSet_b4, gR_0_8, Option.bind_some, fk_n, hF.2.2.1, if_neg (nI_ge hj (show n < 2 ^ 31 by omega)), qO_0, if_true, p5_hasR hF hC hj, nI_1, or_dec a ha j (by omega)]
      cases h : rcd s D j with
      | true => simp only [if_true, n10, if_false]
      | false => simp only [if_true, if_false, Bool.false_eq_true]) n jfuel 0 0 (by omega) (by unfold jfuel; omega) (by omega)
  have l1 : jloop (f_X5_reachedSet_b4 (some 0)) jfuel (0, 0) (HP s) = some (.inr (nI (pset (rcd s D) n), HP s)) := l.1
  simp only [f_X5_reachedSet, l1, Option.bind_some]
theorem p5_owesD {s : ST} {n t p : Nat} {V : Nat → Int32} {D : Nat → Nat} {F : Nat → Int32} (hF : InvF s n) (hC : CS s n t V D F) (hp : p < n) : f_X5_owesDuty (some 0) (nI p) (HP s) = some (if owD s V D p then 1 else 0, HP s) := by
  have h6 := hF.le
  have hC0 := hC
  obtain ⟨ht, hs, hc⟩ := hC
  obtain ⟨ev, hv, -, -, -⟩ := hc p hp
  have e2 := p1_isOf hF hp (hF.k hp).2.1 (hF.k hp).1 (show (2 : Int32) = nI 2 from rfl) (by omega)
  rw [kIs2] at e2
  unfold owD
  rcases hv with h | ⟨q, hq, -, h⟩
  · simp only [f_X5_owesDuty, gR_0_3, Option.bind_some, qO_5, if_true, p4_victimOf ht hs (show p < 6 by omega), ev, h]
    simp
  · simp only [f_X5_owesDuty, gR_0_3, Option.bind_some, qO_5, if_true, p4_victimOf ht hs (show p < 6 by omega), ev, h, if_neg (nI_n9 (show q < 2 ^ 31 by omega)), gR_0_8, fk_q, e2, p1_lovedBy hF hp, hF.lv hp, p5_isIn (show q < 6 by omega), qO_0, p5_hasR hF hC0 hq, nI_clamp (show q < 2 ^ 31 by omega), decide_eq_true_eq]
    by_cases c1 : kN s p = 2
    · simp [c1, nI_n9 (show q < 2 ^ 31 by omega)]
    · by_cases c2 : (sV s 65 p >>> (nI q &&& 31)) &&& 1 = 1
      · simp [c1, c2]
      · cases c3 : rcd s D q with
        | true => simp [c1, c2]
        | false => simp [c1, c2, nI_n9 (show q < 2 ^ 31 by omega)]
theorem g14 (s : ST) {p : Nat} (hp : p < 6) : gA (HP s) (some 14) (nI p) = some (sV s 14 p) := HP_gAn s (show p < hLen 14 from hp) (by omega)
theorem s14 (s : ST) {p : Nat} (hp : p < 6) (v : Int32) : sA (HP s) (some 14) (nI p) v = some (HP (uV s 14 p v)) := HP_sAn s v (show p < hLen 14 from hp) (by omega)
theorem g73 (s : ST) {p : Nat} (hp : p < 6) : gA (HP s) (some 73) (nI p) = some (sV s 73 p) := HP_gAn s (show p < hLen 73 from hp) (by omega)
theorem s73 (s : ST) {p : Nat} (hp : p < 6) (v : Int32) : sA (HP s) (some 73) (nI p) v = some (HP (uV s 73 p v)) := HP_sAn s v (show p < hLen 73 from hp) (by omega)
theorem p4_setDeeds {s : ST} {t p : Nat} (ht : t ≤ 40) (hs : sI s 163 = nI t) (hp : p < 6) (v : Int32) : f_X4_setDeeds (some 5) (nI p) v (HP s) = some ((), HP (uV s 7 (6 * t + p) v)) := by
  simp only [f_X4_setDeeds, gR_5_1, Option.bind_some, qO_5, if_true, p4_slot ht hs hp, HP_sAn s v (show 6 * t + p < hLen 7 by show 6 * t + p < 246; omega) (show 6 * t + p < 2 ^ 31 by omega)]
theorem p4_fine {s : ST} {t p : Nat} (ht : t ≤ 40) (hs : sI s 163 = nI t) (hp : p < 6) : f_X4_fine (some 5) (nI p) (HP s) = some ((), HP (uV s 8 (6 * t + p) (sV s 8 (6 * t + p) + 1))) := by
  simp only [f_X4_fine, gR_5_2, Option.bind_some, qO_5, if_true, p4_slot ht hs hp, HP_gAn s (show 6 * t + p < hLen 8 by show 6 * t + p < 246; omega) (show 6 * t + p < 2 ^ 31 by omega), HP_sAn s _ (show 6 * t + p < hLen 8 by show 6 * t + p < 246; omega) (show 6 * t + p < 2 ^ 31 by omega)]
theorem n6le {j n : Nat} (hj : j < n) (h6 : n ≤ 6) : ¬ (6 : Int32) ≤ nI j := nI_ge (b := 6) (by omega) (by omega)
theorem p5_fineIdle {b : ST} {n t : Nat} {V : Nat → Int32} {D : Nat → Nat} {F c : Nat → Int32} (hF : InvF b n) (hC : CS b n t V D F) (hc : ∀ p, p < n → sV b 14 p = c p) : f_X5_fineIdle (some 0) (HP b) = some ((), HP (setR b 8 (6 * t) (f1 b V D F c) n)) := by
  have h6 := hF.le
  have l : jloop (f_X5_fineIdle_b2 (some 0)) jfuel (nI 0) (HP (setR b 8 (6 * t) (f1 b V D F c) 0)) = some (.inr ((), HP (setR b 8 (6 * t) (f1 b V D F c) n))) := by
    refine jseq (n := n) (fun j => nI j) (fun j => HP (setR b 8 (6 * t) (f1 b V D F c) j)) ?_ (fun j hj => ?_) n jfuel 0 (by omega) (by unfold jfuel; omega)
    · have hF' : InvF (setR b 8 (6 * t) (f1 b V D F c) n) n := InvF_N (SameN.uA (by unfold TwA; omega)) hF
      simp only [f_X5_fineIdle_b2, gR_0_8, Option.bind_some, fk_n, hF'.2.2.1, if_pos (nI_le (Nat.le_refl n) (show n < 2 ^ 31 by omega))]
    · have hN : SameN b (setR b 8 (6 * t) (f1 b V D F c) j) := SameN.uA (by unfold TwA; omega)
      have hF' := InvF_N hN hF
      have hC' : CS (setR b 8 (6 * t) (f1 b V D F c) j) n t V D (fun p => if p < j then f1 b V D F c p else F p) := ⟨hC.1, hC.2.1, fun p hp => by
        obtain ⟨q1, q2, q3, q4, q5⟩ := hC.2.2 p hp
        refine ⟨by rw [sV_setRne (by omega)]; exact q1, q2, by rw [sV_setRne (by omega)]; exact q3, q4, ?_⟩
        by_cases h : p < j
        · rw [sV_setRin h]; exact (if_pos h).symm
        · rw [sV_setRout (by omega)]; exact q5.trans (if_neg h).symm⟩
      obtain ⟨-, n2, -⟩ := wN hN
      have ec : sV (setR b 8 (6 * t) (f1 b V D F c) j) 14 j = c j := by rw [sV_setRne (by omega)]; exact hc j hj
      have ef : sV (setR b 8 (6 * t) (f1 b V D F c) j) 8 (6 * t + j) = F j := by rw [sV_setRout (by omega)]; exact (hC.2.2 j hj).2.2.2.2
      have ef0 : sV b 8 (6 * t + j) = F j := (hC.2.2 j hj).2.2.2.2
      simp only [f_X5_fineIdle_b2, gR_0_8, Option.bind_some, fk_n, hF'.2.2.1, if_neg (nI_ge hj (show n < 2 ^ 31 by omega)), if_neg (n6le hj h6), gR_0_6, g14 _ (show j < 6 by omega), ec, qO_0, if_true, p5_owesD hF' hC' hj, n2, nI_1, gR_0_3, qO_5, p4_fine hC'.1 hC'.2.1 (show j < 6 by omega), ef]
      by_cases c1 : c j = 2
      · rw [if_pos c1, ← setR_id (m := j) (by unfold f1; rw [if_pos c1, ef0])]
      · rw [if_neg c1]
        cases c2 : owD b V D j with
        | true =>
          simp only [if_true, n10, if_false]
          rw [← setR_1, show f1 b V D F c j = F j + 1 by unfold f1; rw [if_neg c1, c2]; rfl]
        | false =>
          simp only [if_true, Bool.false_eq_true, if_false]
          rw [← setR_id (m := j) (by unfold f1; rw [if_neg c1, c2, ef0]; rfl)]
  rw [setR_0] at l
  have l : jloop (f_X5_fineIdle_b2 (some 0)) jfuel 0 (HP b) = _ := l
  simp only [f_X5_fineIdle, l, Option.bind_some]
theorem p5_deeds1 {b : ST} {n t : Nat} {V : Nat → Int32} {D : Nat → Nat} {F c : Nat → Int32} (hF : InvF b n) (hC : CS b n t V D F) (hc : ∀ p, p < n → sV b 14 p = c p) : jloop (f_X5_passWeek_b23 (some 0) (nI (pset (rcd b D) n))) jfuel 0 (HP b) = some (.inr ((), HP (setR b 7 (6 * t) (fun p => nI (d1 b D c p)) n))) := by
  have h6 := hF.le
  have l : jloop (f_X5_passWeek_b23 (some 0) (nI (pset (rcd b D) n))) jfuel (nI 0) (HP (setR b 7 (6 * t) (fun p => nI (d1 b D c p)) 0)) = some (.inr ((), HP (setR b 7 (6 * t) (fun p => nI (d1 b D c p)) n))) := by
    refine jseq (n := n) (fun j => nI j) (fun j => HP (setR b 7 (6 * t) (fun p => nI (d1 b D c p)) j)) ?_ (fun j hj => ?_) n jfuel 0 (by omega) (by unfold jfuel; omega)
    · have hF' : InvF (setR b 7 (6 * t) (fun p => nI (d1 b D c p)) n) n := InvF_N (SameN.uA (by unfold TwA; omega)) hF
      simp only [f_X5_passWeek_b23, gR_0_8, Option.bind_some, fk_n, hF'.2.2.1, if_pos (nI_le (Nat.le_refl n) (show n < 2 ^ 31 by omega))]
    · have hN : SameN b (setR b 7 (6 * t) (fun p => nI (d1 b D c p)) j) := SameN.uA (by unfold TwA; omega)
      have hF' := InvF_N hN hF
      have hs' : sI (setR b 7 (6 * t) (fun p => nI (d1 b D c p)) j) 163 = nI t := hC.2.1
      have ec : sV (setR b 7 (6 * t) (fun p => nI (d1 b D c p)) j) 14 j = c j := by rw [sV_setRne (by omega)]; exact hc j hj
      have ed0 : sV b 7 (6 * t + j) = nI (D j) := (hC.2.2 j hj).2.2.1
      have ed : sV (setR b 7 (6 * t) (fun p => nI (d1 b D c p)) j) 7 (6 * t + j) = nI (D j) := by rw [sV_setRout (by omega)]; exact ed0
      simp only [f_X5_passWeek_b23, gR_0_8, Option.bind_some, fk_n, hF'.2.2.1, if_neg (nI_ge hj (show n < 2 ^ 31 by omega)), if_neg (n6le hj h6), gR_0_6, g14 _ (show j < 6 by omega), ec, p5_inR h6 hj, gR_0_3, qO_5, if_true, p4_deedsOf hC.1 hs' (show j < 6 by omega), ed, p4_setDeeds hC.1 hs' (show j < 6 by omega), nI_1]
      by_cases c1 : c j = 1
      · rw [if_pos c1]
        cases c2 : rcd b D j with
        | true =>
          simp only [if_true, n10, if_false]
          rw [← setR_id (m := j) (by unfold d1; rw [if_pos c1, c2, ed0]; rfl)]
        | false =>
          simp only [if_true, Bool.false_eq_true, if_false]
          rw [← setR_1, show d1 b D c j = D j + 1 by unfold d1; rw [if_pos c1, c2]; rfl]
      · rw [if_neg c1, ← setR_id (m := j) (by unfold d1; rw [if_neg c1, ed0])]
  rw [setR_0] at l
  exact l
theorem p5_deeds2 {b : ST} {n t : Nat} {V : Nat → Int32} {D : Nat → Nat} {F c : Nat → Int32} (hF : InvF b n) (hC : CS b n t V D F) (hc : ∀ p, p < n → sV b 14 p = c p) : jloop (f_X5_passWeek_b84 (some 0) (nI (pset (rcd b D) n))) jfuel 0 (HP (setR b 7 (6 * t) (fun p => nI (d1 b D c p)) n)) = some (.inr ((), HP (setR b 7 (6 * t) (fun p => nI (d2 b n V D c p)) n))) := by
  have h6 := hF.le
  have l := jfoldH (body := f_X5_passWeek_b84 (some 0) (nI (pset (rcd b D) n))) (n := n) (fun (_ : Nat → Nat) j => nI j) (fun _ => ()) (fun E => HP (setR b 7 (6 * t) (fun p => nI (E p)) n)) (thF b V D c) (fun _ E => ∀ p, p < n → E p ≤ 9) (fun j E hj hE p hp => by
      have := hE p hp
      unfold thF
      split
      · show (if p = _ then E p - str b j p else E p) ≤ 9
        split <;> omega
      · exact this) (fun E _ => by
      have hF' : InvF (setR b 7 (6 * t) (fun p => nI (E p)) n) n := InvF_N (SameN.uA (by unfold TwA; omega)) hF
      simp only [f_X5_passWeek_b84, gR_0_8, Option.bind_some, fk_n, hF'.2.2.1, if_pos (nI_le (Nat.le_refl n) (show n < 2 ^ 31 by omega))]) (fun j E hj hE => by
      have hN : SameN b (setR b 7 (6 * t) (fun p => nI (E p)) n) := SameN.uA (by unfold TwA; omega)
      have hF' := InvF_N hN hF
      have hs' : sI (setR b 7 (6 * t) (fun p => nI (E p)) n) 163 = nI t := hC.2.1
      obtain ⟨-, -, -, -, -, -, n7, -⟩ := wN hN
      have ec : sV (setR b 7 (6 * t) (fun p => nI (E p)) n) 14 j = c j := by rw [sV_setRne (by omega)]; exact hc j hj
      have ev : sV (setR b 7 (6 * t) (fun p => nI (E p)) n) 6 (6 * t + j) = V j := by rw [sV_setRne (by omega)]; exact (hC.2.2 j hj).1
      simp only [f_X5_passWeek_b84, gR_0_8, Option.bind_some, fk_n, hF'.2.2.1, if_neg (nI_ge hj (show n < 2 ^ 31 by omega)), if_neg (n6le hj h6), gR_0_3, qO_5, if_true, p4_victimOf hC.1 hs' (show j < 6 by omega), ev, gR_0_6, g14 _ (show j < 6 by omega), ec, nI_1]
      unfold thF
      by_cases c1 : c j = 2
      · rw [if_pos c1]
        rcases (hC.2.2 j hj).2.1 with h | ⟨q, hq, -, h⟩
        · rw [if_pos h, if_neg (fun z => z.2.1 h)]
        · have n9 := nI_n9 (show q < 2 ^ 31 by omega)
          have eq : sV (setR b 7 (6 * t) (fun p => nI (E p)) n) 7 (6 * t + q) = nI (E q) := sV_setRin hq
          simp only [h, if_neg n9, p5_inR h6 hq, Option.bind_some, nI_clamp (show q < 2 ^ 31 by omega)]
          cases c2 : rcd b D q with
          | true =>
            simp only [if_true, n10, if_false, Bool.true_eq_false, and_false]
          | false =>
            have hE' := hE q hq
            have hst := str_le (s := b) q hF hj
            simp only [if_true, Bool.false_eq_true, if_false, p4_deedsOf hC.1 hs' (show q < 6 by omega), Option.bind_some, eq, fk_q, p1_str hF' hj hq, n7, max0, sub0 (show E q ≤ 100 by omega) (show str b j q ≤ 100 by omega), gR_0_3, gR_0_8, qO_5, p4_setDeeds hC.1 hs' (show q < 6 by omega), c1, ne_eq, n9, not_false_eq_true, and_true]
            rw [setR_set hq]
            congr 6
            funext p
            by_cases e : p = q
            · rw [if_pos e, if_pos e, e]
            · rw [if_neg e, if_neg e]
      · rw [if_neg c1, if_neg (fun z => c1 z.1)]) n jfuel 0 (d1 b D c) (by omega) (by unfold jfuel; omega) (fun p hp => d1_le hF hp (hC.2.2 p hp).2.2.2.1)
  exact l.1
set_option maxRecDepth 100000 in
theorem andn_dec : ∀ a, a < 64 → ∀ b, b < 64 → nI a &&& (nI b ^^^ (-1)) = nI (a &&& (63 ^^^ b)) := by decide +kernel
set_option maxRecDepth 100000 in
theorem bit01 : ∀ r, r < 64 → ∀ p, p < 6 → (nI r >>> (nI p &&& 31)) &&& 1 = if r.testBit p then 1 else 0 := by decide +kernel
theorem tb63 {i : Nat} (h : i < 6) : (63 : Nat).testBit i = true := by
  match i, h with
  | 0, _ | 1, _ | 2, _ | 3, _ | 4, _ | 5, _ => rfl
  | i + 6, h => exact absurd h (by omega)
theorem cnt_bits {s : ST} {n : Nat} {D E : Nat → Nat} (h6 : n ≤ 6) : f_J6_bitCount_0f7a4 (nI (pset (rcd s E) n) &&& (nI (pset (rcd s D) n) ^^^ (-1))) = fun ah => some (cntW s n D E, ah) := by
  funext ah
  have hl : pset (rcd s E) n &&& (63 ^^^ pset (rcd s D) n) < 64 := Nat.lt_of_le_of_lt Nat.and_le_left (pset_lt _ h6)
  rw [andn_dec _ (pset_lt _ h6) _ (pset_lt _ h6), p_bitCount hl]
  have e : pc (nI (pset (rcd s E) n &&& (63 ^^^ pset (rcd s D) n))) = cntW s n D E := by
    unfold pc cntW
    refine fold_cut h6 0 (fun k a hk => ?_) (fun k a h1 h2 => ?_)
    · unfold pcF cwF
      rw [bit01 _ hl k (by omega), Nat.testBit_and, Nat.testBit_xor, pset_tb, pset_tb, tb63 (by omega)]
      simp only [hk, decide_true, Bool.true_and]
      cases rcd s D k <;> cases rcd s E k <;> simp
    · unfold pcF
      rw [bit01 _ hl k (by omega), Nat.testBit_and, pset_tb]
      simp [Nat.not_lt.mpr h1]
  rw [e]
def wk5 (s : ST) (n t : Nat) (V : Nat → Int32) (D : Nat → Nat) (F c : Nat → Int32) : ST := setR (setR (bgn s t) 8 (6 * (t + 1)) (f1 s V D F c) n) 7 (6 * (t + 1)) (fun p => nI (d2 s n V D c p)) n
theorem p5_pass {s : ST} {n t : Nat} {V : Nat → Int32} {D : Nat → Nat} {F c : Nat → Int32} (hF : InvF s n) (ht : t < 40) (hC : CS s n t V D F) (hc : ∀ p, p < n → sV s 14 p = c p) : f_X5_passWeek (some 0) (HP s) = some (cntW s n D (d2 s n V D c), HP (wk5 s n t V D F c)) := by
  have h6 := hF.le
  have hNb := bgn_N s t
  have hFb := InvF_N hNb hF
  obtain ⟨b1, b2, b3, b4, b5, b6, b7, b8⟩ := wN hNb
  have hCb : CS (bgn s t) n (t + 1) V D F := ⟨by omega, bgn_163 s t, fun p hp => by
    obtain ⟨q1, q2, q3, q4, q5⟩ := hC.2.2 p hp
    have z : ∀ a, 6 ≤ a → a ≤ 8 → sV (bgn s t) a (6 * (t + 1) + p) = sV s a (6 * t + p) := fun a x1 x2 => by rw [bgn_V s t x1 x2, if_pos (by omega), show 6 * t + (6 * (t + 1) + p - (6 * t + 6)) = 6 * t + p by omega]
    exact ⟨by rw [z 6 (by omega) (by omega)]; exact q1, q2, by rw [z 7 (by omega) (by omega)]; exact q3, q4, by rw [z 8 (by omega) (by omega)]; exact q5⟩⟩
  have hcb : ∀ p, p < n → sV (bgn s t) 14 p = c p := fun p hp => by rw [bgn_Vne s t (by omega)]; exact hc p hp
  have l1 := p5_fineIdle hFb hCb hcb
  rw [b6] at l1
  have hN1 : SameN (bgn s t) (setR (bgn s t) 8 (6 * (t + 1)) (f1 s V D F c) n) := SameN.uA (by unfold TwA; omega)
  have hF1 := InvF_N hN1 hFb
  obtain ⟨m1, m2, m3, m4, m5, m6, m7, m8⟩ := wN (hNb.trans hN1)
  have hC1 : CS (setR (bgn s t) 8 (6 * (t + 1)) (f1 s V D F c) n) n (t + 1) V D (f1 s V D F c) := ⟨by omega, hCb.2.1, fun p hp => by
    obtain ⟨q1, q2, q3, q4, q5⟩ := hCb.2.2 p hp
    exact ⟨by rw [sV_setRne (by omega)]; exact q1, q2, by rw [sV_setRne (by omega)]; exact q3, q4, sV_setRin hp⟩⟩
  have hc1 : ∀ p, p < n → sV (setR (bgn s t) 8 (6 * (t + 1)) (f1 s V D F c) n) 14 p = c p := fun p hp => by rw [sV_setRne (by omega)]; exact hcb p hp
  have l2 := p5_deeds1 hF1 hC1 hc1
  have l3 := p5_deeds2 hF1 hC1 hc1
  rw [m1] at l2 l3
  rw [m3] at l2 l3
  rw [m5] at l3
  have hN2 : SameN s (wk5 s n t V D F c) := (hNb.trans hN1).trans (SameN.uA (by unfold TwA; omega))
  have hF2 := InvF_N hN2 hF
  obtain ⟨k1, -⟩ := wN hN2
  have hC2 : CS (wk5 s n t V D F c) n (t + 1) V (d2 s n V D c) (f1 s V D F c) := ⟨by omega, hCb.2.1, fun p hp => by
    obtain ⟨q1, q2, q3, q4, q5⟩ := hC1.2.2 p hp
    exact ⟨by unfold wk5; rw [sV_setRne (by omega)]; exact q1, q2, sV_setRin hp, d2_le hF (fun p hp => (hC.2.2 p hp).2.2.2.1) p hp, by unfold wk5; rw [sV_setRne (by omega)]; exact q5⟩⟩
  have l4 := p5_rsetD hF2 hC2
  rw [k1] at l4
  have l0 := p5_rsetD hFb hCb
  rw [b1] at l0
  unfold wk5 at l4 ⊢
  simp only [f_X5_passWeek, f_X5_passWeek_j174, gR_0_3, Option.bind_some, qO_5, if_true, p4_begin ht hC.2.1, n10, if_false, qO_0, l0, l1, l2, l3, l4, cnt_bits h6]
