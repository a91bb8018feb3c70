/-! ===== rows copied; what a TURN leaves ===== -/
theorem cpL_aL {a b sp dp n : Nat} (f g : Nat → Int32) (h1 : sp + n ≤ a) : cpL (aL a f) (aL b g) sp dp n = aL b (fun j => if dp ≤ j ∧ j < dp + n then f (sp + (j - dp)) else g j) := by
  apply List.ext_getElem?
  intro i
  unfold cpL
  rw [List.getElem?_mapIdx]
  by_cases h : i < b
  · rw [aL_get h, aL_get h]
    simp only [Option.map_some]
    by_cases hc : dp ≤ i ∧ i < dp + n
    · rw [if_pos hc, if_pos hc, List.getD_eq_getElem?_getD, aL_get (by omega)]
      rfl
    · rw [if_neg hc, if_neg hc]
  · rw [aL_none h, aL_none h]
    rfl
def cpS (s : ST) (k sp k' dp n : Nat) : ST := uA s k' (fun j => if dp ≤ j ∧ j < dp + n then sV s k (sp + (j - dp)) else sV s k' j)
theorem HP_cA (s : ST) {k k' sp dp n : Nat} (h : 0 < hLen k) (h' : 0 < hLen k') (h1 : sp + n ≤ hLen k) (h2 : dp + n ≤ hLen k') (hb : sp < 2 ^ 31 ∧ dp < 2 ^ 31 ∧ n < 2 ^ 31) : cA (HP s) (some k) (nI sp) (some k') (nI dp) (nI n) = some (HP (cpS s k sp k' dp n)) := by
  simp only [cA, HP_arr s h, HP_arr s h', aL_len, nI_clamp hb.1, nI_clamp hb.2.1, nI_clamp hb.2.2]
  rw [if_pos ⟨⟨nI_pos hb.1, nI_pos hb.2.1, nI_pos hb.2.2⟩, h1, h2⟩, cpL_aL _ _ h1, HP_setA s h']
  rfl
theorem sV_cpS (s : ST) (k sp k' dp n j i : Nat) : sV (cpS s k sp k' dp n) j i = if j = k' then (if dp ≤ i ∧ i < dp + n then sV s k (sp + (i - dp)) else sV s k' i) else sV s j i := by
  unfold cpS
  rw [sV_uA]
  split <;> rfl
theorem sV_cpSne {s : ST} {k sp k' dp n j : Nat} (h : j ≠ k') : sV (cpS s k sp k' dp n) j = sV s j := by
  unfold cpS
  rw [sV_uA, if_neg h]
theorem sI_cpS (s : ST) (k sp k' dp n : Nat) : sI (cpS s k sp k' dp n) = sI s := rfl
theorem sL_cpS (s : ST) (k sp k' dp n : Nat) : sL (cpS s k sp k' dp n) = sL s := rfl
theorem sW_cpS (s : ST) (k sp k' dp n : Nat) : sW (cpS s k sp k' dp n) = sW s := rfl
theorem ST_ext {s s' : ST} (h1 : ∀ k, sI s k = sI s' k) (h2 : sL s = sL s') (h3 : ∀ k i, sV s k i = sV s' k i) (h4 : sW s = sW s') : s = s' := by
  obtain ⟨a, b, c, d⟩ := s
  obtain ⟨a', b', c', d'⟩ := s'
  have e1 : a = a' := funext h1
  have e3 : c = c' := funext fun k => funext fun i => h3 k i
  have e2 : b = b' := h2
  have e4 : d = d' := h4
  rw [e1, e2, e3, e4]
theorem cpS_0 (s : ST) (k sp k' dp : Nat) : cpS s k sp k' dp 0 = s := ST_ext (fun _ => rfl) rfl (fun j i => by
  rw [sV_cpS]
  split
  · rename_i e
    rw [if_neg (by omega), e]
  · rfl) rfl
/-- one more of a row that is copied within itself, place by place -/
theorem cpS_1 (s : ST) {k a b m : Nat} (h : a + m < b ∨ b + m ≤ a) : uV (cpS s k a k b m) k (b + m) (sV (cpS s k a k b m) k (a + m)) = cpS s k a k b (m + 1) := ST_ext (fun _ => rfl) rfl (fun j i => by
  simp only [sV_uV, sV_cpS]
  by_cases e : j = k
  · subst e
    simp only [if_true]
    by_cases ei : i = b + m
    · subst ei
      rw [if_pos rfl, if_neg (by omega), if_pos (by omega), show a + (b + m - b) = a + m by omega]
    · rw [if_neg ei]
      by_cases hc : b ≤ i ∧ i < b + m
      · rw [if_pos hc, if_pos (by omega)]
      · rw [if_neg hc, if_neg (by omega)]
  · simp only [e, if_false]) rfl
/-- a loop whose state at each step is known -/
theorem jseq {S X T : Type} {body : S → AH → Option ((T × AH) ⊕ ((X × AH) ⊕ (S × AH)))} {n : Nat} {x : X} (st : Nat → S) (hp : Nat → AH) (hx : body (st n) (hp n) = some (.inr (.inl (x, hp n)))) (hs : ∀ j, j < n → body (st j) (hp j) = some (.inr (.inr (st (j + 1), hp (j + 1))))) : ∀ (m f j : Nat), j + m = n → m < f → jloop body f (st j) (hp j) = some (.inr (x, hp n)) := by
  intro m
  induction m with
  | zero =>
    intro f j hj hf
    obtain ⟨f, rfl⟩ : ∃ f', f = f' + 1 := ⟨f - 1, by omega⟩
    have e : j = n := by omega
    subst e
    rw [jloop, hx]
  | succ m ih =>
    intro f j hj hf
    obtain ⟨f, rfl⟩ : ∃ f', f = f' + 1 := ⟨f - 1, by omega⟩
    rw [jloop, hs j (by omega)]
    exact ih f (j + 1) (by omega) (by omega)
/-! frames -/
def TwA (k : Nat) : Prop := 6 ≤ k ∧ k ≤ 8 ∨ 10 ≤ k ∧ k ≤ 14 ∨ 48 ≤ k ∧ k < 60 ∨ k = 61 ∨ 71 ≤ k ∧ k < 77
def TwI (k : Nat) : Prop := 160 ≤ k ∧ k < 168 ∨ 320 ≤ k ∧ k < 352 ∨ 1536 ≤ k ∧ k < 1920 ∨ 1936 ≤ k
/-- all but towns and what is set down for a while is as it was -/
def SameN (s s' : ST) : Prop := sW s' = sW s ∧ sL s' = sL s ∧ (∀ k, ¬ TwA k → sV s' k = sV s k) ∧ ∀ k, ¬ TwI k → sI s' k = sI s k
theorem SameN.rf (s : ST) : SameN s s := ⟨rfl, rfl, fun _ _ => rfl, fun _ _ => rfl⟩
theorem SameN.trans {a b c : ST} (h : SameN a b) (k : SameN b c) : SameN a c := ⟨k.1.trans h.1, k.2.1.trans h.2.1, fun i hi => (k.2.2.1 i hi).trans (h.2.2.1 i hi), fun i hi => (k.2.2.2 i hi).trans (h.2.2.2 i hi)⟩
theorem SameN.uA {s : ST} {k : Nat} {f : Nat → Int32} (h : TwA k) : SameN s (uA s k f) := ⟨rfl, rfl, fun j hj => by rw [sV_uA, if_neg (fun e : j = k => hj (e ▸ h))], fun _ _ => rfl⟩
theorem SameN.uV {s : ST} {k i : Nat} {v : Int32} (h : TwA k) : SameN s (uV s k i v) := ⟨rfl, rfl, fun j hj => sV_uVne (fun e => hj (e ▸ h)), fun _ _ => rfl⟩
theorem SameN.uI {s : ST} {k : Nat} {v : Int32} (h : TwI k) : SameN s (uI s k v) := ⟨rfl, rfl, fun _ _ => rfl, fun j hj => by rw [sI_uI, if_neg (fun e : j = k => hj (e ▸ h))]⟩
theorem SameN.cp {s : ST} {k sp k' dp n : Nat} (h : TwA k') : SameN s (cpS s k sp k' dp n) := SameN.uA h
theorem InvF_N {s s' : ST} {n : Nat} (hs : SameN s s') (h : InvF s n) : InvF s' n := by
  have hF : fA (sW s) = 16 ∨ fA (sW s) = 22 := by cases sW s <;> decide
  unfold InvF at h ⊢
  rw [hs.1]
  generalize fA (sW s) = F at h hF ⊢
  have e1 : sV s' (F + 1) = sV s (F + 1) := hs.2.2.1 _ (by unfold TwA; omega)
  have e2 : sV s' (F + 2) = sV s (F + 2) := hs.2.2.1 _ (by unfold TwA; omega)
  have e3 : sV s' (F + 3) = sV s (F + 3) := hs.2.2.1 _ (by unfold TwA; omega)
  have e4 : sV s' (F + 4) = sV s (F + 4) := hs.2.2.1 _ (by unfold TwA; omega)
  have f1 : sV s' 62 = sV s 62 := hs.2.2.1 _ (by unfold TwA; omega)
  have f2 : sV s' 63 = sV s 63 := hs.2.2.1 _ (by unfold TwA; omega)
  have f3 : sV s' 64 = sV s 64 := hs.2.2.1 _ (by unfold TwA; omega)
  have f4 : sV s' 65 = sV s 65 := hs.2.2.1 _ (by unfold TwA; omega)
  have g1 : sI s' 1921 = sI s 1921 := hs.2.2.2 _ (by unfold TwI; omega)
  have g2 : sI s' 1926 = sI s 1926 := hs.2.2.2 _ (by unfold TwI; omega)
  have g3 : sI s' (32 * F + 5) = sI s (32 * F + 5) := hs.2.2.2 _ (by unfold TwI; omega)
  have g4 : sI s' (32 * F + 6) = sI s (32 * F + 6) := hs.2.2.2 _ (by unfold TwI; omega)
  rw [e1, e2, e3, e4, f1, f2, f3, f4, g1, g2, g3, g4]
  exact h
theorem InvR_N {s s' : ST} (hs : SameN s s') (h : InvR s) : InvR s' := InvR_same ⟨fun k hk => hs.2.2.1 k (by unfold TwA; omega), fun k hk => hs.2.2.2 k (by unfold TwI; omega)⟩ h
theorem InvM_N {s s' : ST} (hs : SameN s s') (h : InvM s) : InvM s' := InvM_same (SameM_of (fun k hk => hs.2.2.2 k (by unfold TwI; omega)) hs.2.1 (hs.2.2.1 15 (by unfold TwA; omega)) (hs.2.2.1 70 (by unfold TwA; omega))) h
theorem s63_N {s s' : ST} (hs : SameN s s') : sV s' 63 = sV s 63 := hs.2.2.1 63 (by unfold TwA; omega)
/-- a sheet as it was elsewhere -/
theorem InvS_of {s s' : ST} {n cv cd cf u b cv' cd' cf' u' b' : Nat} (h6 : n ≤ 6) (h : InvS s n cv cd cf u b) (h1 : ∀ p, p < 6 → sV s' cv' (6 * u' + p) = sV s cv (6 * u + p)) (h2 : ∀ p, p < 6 → sV s' cd' (6 * u' + p) = sV s cd (6 * u + p)) (h3 : ∀ p, p < 6 → sV s' cf' (6 * u' + p) = sV s cf (6 * u + p)) (h4 : ∀ k, k < 19 → sV s' 61 (b' + k) = sV s 61 (b + k)) (h5 : sV s' 63 = sV s 63) : InvS s' n cv' cd' cf' u' b' := by
  obtain ⟨a1, a2, a3, a4, a5, r, r1, r2, r3⟩ := h
  have g6 : ∀ p, p < 6 → sV s' 61 (b' + 6 + p) = sV s 61 (b + 6 + p) := fun p hp => by have := h4 (6 + p) (by omega); rwa [← Nat.add_assoc, ← Nat.add_assoc] at this
  have g12 : ∀ p, p < 6 → sV s' 61 (b' + 12 + p) = sV s 61 (b + 12 + p) := fun p hp => by have := h4 (12 + p) (by omega); rwa [← Nat.add_assoc, ← Nat.add_assoc] at this
  refine ⟨fun p hp => ?_, fun p q1 q2 => ?_, fun p q hp hq => ?_, fun p hp => ?_, fun p hp => ?_, r, r1, ?_, fun p hp => ?_⟩
  · rw [h1 p (by omega), h4 p (by omega)]
    exact a1 p hp
  · rw [h1 p q2]
    exact a2 p q1 q2
  · rw [h4 p (by omega), h4 q (by omega)]
    exact a3 p q hp hq
  · rw [h2 p (by omega), g6 p (by omega)]
    exact a4 p hp
  · rw [h3 p (by omega), g12 p (by omega)]
    exact a5 p hp
  · rw [h4 18 (by omega)]
    exact r2
  · rw [h5, g6 p (by omega)]
    exact r3 p hp
/-- a town as it was elsewhere -/
theorem InvT_of {s s' : ST} {n k b k' b' : Nat} (h6 : n ≤ 6) (h : InvT s n k b) (h0 : sI s' (32 * k' + 3) = sI s (32 * k + 3)) (h1 : ∀ j, j < 246 → sV s' (k' + 1) j = sV s (k + 1) j) (h2 : ∀ j, j < 246 → sV s' (k' + 2) j = sV s (k + 2) j) (h3 : ∀ j, j < 246 → sV s' (k' + 3) j = sV s (k + 3) j) (h4 : ∀ j, j < 780 → sV s' 61 (b' + j) = sV s 61 (b + j)) (h5 : sV s' 63 = sV s 63) : InvT s' n k' b' := by
  obtain ⟨t, ht, e1, e2, hS, hP⟩ := h
  refine ⟨t, ht, h0.trans e1, (h4 0 (by omega)).trans e2, ?_, fun u hu => ?_⟩
  · exact InvS_of h6 hS (fun p hp => h1 _ (by omega)) (fun p hp => h2 _ (by omega)) (fun p hp => h3 _ (by omega)) (fun j hj => by have := h4 (1 + j) (by omega); rwa [← Nat.add_assoc, ← Nat.add_assoc] at this) h5
  · exact InvS_of h6 (hP u hu) (fun p hp => h1 _ (by omega)) (fun p hp => h2 _ (by omega)) (fun p hp => h3 _ (by omega)) (fun j hj => by have := h4 (20 + 19 * u + j) (by omega); rwa [show b' + (20 + 19 * u + j) = b' + 20 + 19 * u + j by omega, show b + (20 + 19 * u + j) = b + 20 + 19 * u + j by omega] at this) h5
theorem InvK_of {s s' : ST} {n : Nat} (h6 : n ≤ 6) (h : InvK s n) (h1 : ∀ k, 48 ≤ k → k < 60 → sV s' k = sV s k) (h2 : ∀ k, 1536 ≤ k → k < 1920 → sI s' k = sI s k) (h4 : ∀ j, 780 ≤ j → sV s' 61 j = sV s 61 j) (h5 : sV s' 63 = sV s 63) : InvK s' n := by
  intro k hk
  rw [h2 _ (by omega) (by omega), h4 _ (by omega)]
  rcases h k hk with h | ⟨h, hT⟩
  · exact Or.inl h
  · refine Or.inr ⟨h, InvT_of h6 hT (h2 _ (by omega) (by omega)) (fun j _ => ?_) (fun j _ => ?_) (fun j _ => ?_) (fun j _ => h4 _ (by omega)) h5⟩
    · rw [h1 _ (by omega) (by omega)]
    · rw [h1 _ (by omega) (by omega)]
    · rw [h1 _ (by omega) (by omega)]
/-- behind a TURN: the sheets ahead are as they were, the one that was now is the last of them -/
theorem inv_turn {s s' : ST} {n t : Nat} (hF : InvF s n) (ht : t < 40) (hS : InvS s n 6 7 8 t 1) (hP : ∀ u, u < t → InvS s n 6 7 8 u (20 + 19 * u)) (hK : InvK s n) (hR : InvR s) (hM : InvM s) (hN : SameN s s') (h163 : sI s' 163 = nI (t + 1)) (h0 : sV s' 61 0 = nI (t + 1)) (hc : ∀ a, 6 ≤ a → a ≤ 8 → ∀ j, j < 6 * (t + 1) → sV s' a j = sV s a j) (hp : ∀ k, k < 19 → sV s' 61 (20 + 19 * t + k) = sV s 61 (1 + k)) (hq : ∀ j, 20 ≤ j → (j < 20 + 19 * t ∨ 780 ≤ j) → sV s' 61 j = sV s 61 j) (hsh : ∀ k, 48 ≤ k → k < 60 → sV s' k = sV s k) (hshI : ∀ k, 1536 ≤ k → k < 1920 → sI s' k = sI s k) (hnow : InvS s' n 6 7 8 (t + 1) 1) : Inv s' := by
  have h6 := hF.le
  have e63 := s63_N hN
  refine ⟨⟨n, InvF_N hN hF, ⟨t + 1, by omega, h163, h0, hnow, fun u hu => ?_⟩, InvK_of h6 hK hsh hshI (fun j hj => hq j (by omega) (Or.inr hj)) e63⟩, InvR_N hN hR, InvM_N hN hM⟩
  show InvS s' n 6 7 8 u (0 + 20 + 19 * u)
  rw [show 0 + 20 + 19 * u = 20 + 19 * u by omega]
  by_cases e : u = t
  · subst e
    exact InvS_of h6 hS (fun p hp => hc 6 (by omega) (by omega) _ (by omega)) (fun p hp => hc 7 (by omega) (by omega) _ (by omega)) (fun p hp => hc 8 (by omega) (by omega) _ (by omega)) (fun k hk => hp k hk) e63
  · exact InvS_of h6 (hP u (by omega)) (fun p hp => hc 6 (by omega) (by omega) _ (by omega)) (fun p hp => hc 7 (by omega) (by omega) _ (by omega)) (fun p hp => hc 8 (by omega) (by omega) _ (by omega)) (fun k hk => hq _ (by omega) (Or.inl (by omega))) e63
/-! the class begins a TURN, the reference keeps what was -/
def bgn (s : ST) (t : Nat) : ST := uI (cpS (cpS (cpS s 6 (6 * t) 6 (6 * t + 6) 6) 7 (6 * t) 7 (6 * t + 6) 6) 8 (6 * t) 8 (6 * t + 6) 6) 163 (nI (t + 1))
theorem et6 (t : Nat) : nI t * 6 = nI (6 * t) := by
  rw [Nat.mul_comm, ← pk_mul]
  rfl
theorem et66 (t : Nat) : nI (6 * t) + 6 = nI (6 * t + 6) := nI_add (6 * t) 6
theorem p4_begin {s : ST} {t : Nat} (ht : t < 40) (hs : sI s 163 = nI t) : f_X4_beginTurn (some 5) (HP s) = some (1, HP (bgn s t)) := by
  have c6 : ∀ s' : ST, cA (HP s') (some 6) (nI (6 * t)) (some 6) (nI (6 * t + 6)) 6 = some (HP (cpS s' 6 (6 * t) 6 (6 * t + 6) 6)) := fun s' => HP_cA s' (k := 6) (k' := 6) (n := 6) (by decide) (by decide) (by show 6 * t + 6 ≤ 246; omega) (by show 6 * t + 6 + 6 ≤ 246; omega) (by omega)
  have c7 : ∀ s' : ST, cA (HP s') (some 7) (nI (6 * t)) (some 7) (nI (6 * t + 6)) 6 = some (HP (cpS s' 7 (6 * t) 7 (6 * t + 6) 6)) := fun s' => HP_cA s' (k := 7) (k' := 7) (n := 6) (by decide) (by decide) (by show 6 * t + 6 ≤ 246; omega) (by show 6 * t + 6 + 6 ≤ 246; omega) (by omega)
  have c8 : ∀ s' : ST, cA (HP s') (some 8) (nI (6 * t)) (some 8) (nI (6 * t + 6)) 6 = some (HP (cpS s' 8 (6 * t) 8 (6 * t + 6) 6)) := fun s' => HP_cA s' (k := 8) (k' := 8) (n := 6) (by decide) (by decide) (by show 6 * t + 6 ≤ 246; omega) (by show 6 * t + 6 + 6 ≤ 246; omega) (by omega)
  simp only [f_X4_beginTurn, gI_5_3, Option.bind_some, hs, if_neg (nI_pos (show t < 2 ^ 31 by omega)), if_pos (show nI t < 40 from nI_lt (b := 40) ht (by omega)), gR_5_0, gR_5_1, gR_5_2, et6, et66, c6, c7, c8, sI_cpS, sF_5_3, nI_1, bgn]
theorem p4_begin40 {s : ST} (hs : sI s 163 = nI 40) : f_X4_beginTurn (some 5) (HP s) = some (0, HP s) := by
  simp only [f_X4_beginTurn, gI_5_3, Option.bind_some, hs, if_neg (show ¬ nI 40 < 0 by decide), if_neg (show ¬ nI 40 < 40 by decide)]
def pst (s : ST) (t : Nat) : ST := uV (cpS s 61 1 61 (20 + 19 * t) 19) 61 0 (nI (t + 1))
theorem s61 (s : ST) {k : Nat} (hk : k < 3120) (v : Int32) : sA (HP s) (some 61) (nI k) v = some (HP (uV s 61 k v)) := HP_sAn s v (show k < hLen 61 from hk) (by omega)
theorem e20 (t k : Nat) : (20 + (19 * nI t)) + nI k = nI (20 + 19 * t + k) := by
  have h1 : (19 : Int32) * nI t = nI (19 * t) := by rw [← pk_mul]; rfl
  have h2 : (20 : Int32) + nI (19 * t) = nI (20 + 19 * t) := nI_add 20 (19 * t)
  rw [h1, h2]
  exact nI_add (20 + 19 * t) k
theorem p6_past {s : ST} {t : Nat} (ht : t < 40) (h0 : sV s 61 0 = nI t) : f_X6_keepPast (some 60) (HP s) = some ((), HP (pst s t)) := by
  have g0 : ∀ s' : ST, gA (HP s') (some 61) 0 = some (sV s' 61 0) := fun s' => g61 s' (k := 0) (by omega)
  have e0 : ∀ m, sV (cpS s 61 1 61 (20 + 19 * t) m) 61 0 = nI t := fun m => by rw [sV_cpS, if_pos rfl, if_neg (by omega), h0]
  have l : jloop (f_X6_keepPast_b2 (some 60)) jfuel (nI 0) (HP (cpS s 61 1 61 (20 + 19 * t) 0)) = some (.inr ((), HP (cpS s 61 1 61 (20 + 19 * t) 19))) := by
    refine jseq (n := 19) (fun j => nI j) (fun j => HP (cpS s 61 1 61 (20 + 19 * t) j)) ?_ (fun j hj => ?_) 19 jfuel 0 (by omega) (by unfold jfuel; omega)
    · simp only [f_X6_keepPast_b2, if_pos (show (19 : Int32) ≤ nI 19 by decide)]
    · simp only [f_X6_keepPast_b2, if_neg (show ¬ (19 : Int32) ≤ nI j from nI_ge (b := 19) hj (by omega)), gR_60_0, Option.bind_some, g0, e0, e20, e1p, g61 _ (show 1 + j < 3120 by omega), s61 _ (show 20 + 19 * t + j < 3120 by omega), nI_1, cpS_1 s (k := 61) (a := 1) (b := 20 + 19 * t) (m := j) (by omega)]
  rw [cpS_0] at l
  have l : jloop (f_X6_keepPast_b2 (some 60)) jfuel 0 (HP s) = _ := l
  have s0 : ∀ (s' : ST) v, sA (HP s') (some 61) 0 v = some (HP (uV s' 61 0 v)) := fun s' v => s61 s' (k := 0) (by omega) v
  simp only [f_X6_keepPast, l, Option.bind_some, gR_60_0, g0, e0, nI_1, s0, pst]
theorem p4_setVictim {s : ST} {t p : Nat} (ht : t ≤ 40) (hs : sI s 163 = nI t) (hp : p < 6) (v : Int32) : f_X4_setVictim (some 5) (nI p) v (HP s) = some ((), HP (uV s 6 (6 * t + p) v)) := by
  simp only [f_X4_setVictim, gR_5_0, Option.bind_some, qO_5, if_true, p4_slot ht hs hp, HP_sAn s v (show 6 * t + p < hLen 6 by show 6 * t + p < 246; omega) (show 6 * t + p < 2 ^ 31 by omega)]
