/-! ===== pairs of PERSONS; the TOWN now: VICTIMS, FOES, DEEDS, who has REACHED ===== -/
theorem two_cases {s : ST} {n : Nat} (hF : InvF s n) (x y : Int32) : (∃ p q, p < n ∧ q < n ∧ p ≠ q ∧ x = nI p ∧ y = nI q ∧ f_X5_isPair (some 0) x y (HP s) = some (1, HP s) ∧ f_X6_areTwo (some 60) x y (HP s) = some (1, HP s)) ∨ (f_X5_isPair (some 0) x y (HP s) = some (0, HP s) ∧ f_X6_areTwo (some 60) x y (HP s) = some (0, HP s)) := by
  have h6 := hF.le
  rcases ix_n x (n := n) (by omega) with h | ⟨p, hp, rfl⟩
  · refine Or.inr ⟨?_, ?_⟩
    · simp only [f_X5_isPair, gR_0_8, Option.bind_some, fk_q, if_true, p1_hasF hF h]
    · simp only [f_X6_areTwo, qO_60, if_true, p6_isPF hF h, Option.bind_some]
  rcases ix_n y (n := n) (by omega) with h | ⟨q, hq, rfl⟩
  · refine Or.inr ⟨?_, ?_⟩
    · simp only [f_X5_isPair, gR_0_8, Option.bind_some, fk_q, if_true, p1_hasT hF hp, n10, if_false, p1_hasF hF h]
    · simp only [f_X6_areTwo, qO_60, if_true, p6_isPT hF hp, Option.bind_some, n10, if_false, p6_isPF hF h]
  by_cases hpq : p = q
  · subst hpq
    refine Or.inr ⟨?_, ?_⟩
    · simp only [f_X5_isPair, gR_0_8, Option.bind_some, fk_q, if_true, p1_hasT hF hp, n10, if_false]
    · simp only [f_X6_areTwo, qO_60, if_true, p6_isPT hF hp, Option.bind_some, n10, if_false]
  · have hne : ¬ nI p = nI q := fun h => hpq ((nI_eq (by omega) (by omega)).mp h)
    refine Or.inl ⟨p, q, hp, hq, hpq, rfl, rfl, ?_, ?_⟩
    · simp only [f_X5_isPair, gR_0_8, Option.bind_some, fk_q, if_true, p1_hasT hF hp, p1_hasT hF hq, n10, if_false, if_neg hne]
    · simp only [f_X6_areTwo, qO_60, if_true, p6_isPT hF hp, p6_isPT hF hq, Option.bind_some, n10, if_false, if_neg hne]
theorem ag_strength {s : ST} (hI : Inv s) (a0 a1 : Int32) : ∃ (v : Int32) (s1 s2 : ST), f_X5_strength (some 0) a0 a1 (HP s) = some (v, HP s1) ∧ f_X6_strength (some 60) a0 a1 (HP s1) = some (v, HP s2) ∧ Inv s2 := by
  obtain ⟨n, hF, hT, hK⟩ := hI.1
  rcases two_cases hF a0 a1 with ⟨p, q, hp, hq, -, rfl, rfl, e1, e2⟩ | ⟨e1, e2⟩
  · refine ⟨nI (str s p q), s, s, ?_, ?_, hI⟩
    · simp only [f_X5_strength, qO_0, if_true, e1, Option.bind_some, n10, if_false, gR_0_8, fk_q, p1_str hF hp hq]
    · simp only [f_X6_strength, qO_60, if_true, e2, Option.bind_some, n10, if_false, p6_str hF hp hq]
  · refine ⟨-1, s, s, ?_, ?_, hI⟩
    · simp only [f_X5_strength, qO_0, if_true, e1, Option.bind_some]
    · simp only [f_X6_strength, qO_60, if_true, e2, Option.bind_some]
/-! loops that only gather -/
def fold {A : Type} (F : Nat → A → A) : Nat → Nat → A → A
  | 0, _, a => a
  | m + 1, j, a => fold F m (j + 1) (F j a)
theorem fold_congr {A : Type} {F G : Nat → A → A} : ∀ (m j : Nat) (a : A), (∀ k b, j ≤ k → k < j + m → F k b = G k b) → fold F m j a = fold G m j a
  | 0, _, _, _ => rfl
  | m + 1, j, a, h => by
    rw [fold, fold, h j a (by omega) (by omega)]
    exact fold_congr m (j + 1) _ (fun k b h1 h2 => h k b (by omega) (by omega))
theorem jfold {A T : Type} {body : A × Int32 → AH → Option ((T × AH) ⊕ ((A × AH) ⊕ ((A × Int32) × AH)))} {ah : AH} {n : Nat} (F : Nat → A → A) (hx : ∀ a, body (a, nI n) ah = some (.inr (.inl (a, ah)))) (hs : ∀ j a, j < n → body (a, nI j) ah = some (.inr (.inr ((F j a, nI (j + 1)), ah)))) : ∀ (m f j : Nat) (a : A), j + m = n → m < f → jloop body f (a, nI j) ah = some (.inr (fold F m j a, ah)) := by
  intro m
  induction m with
  | zero =>
    intro f j a hj hf
    obtain ⟨f, rfl⟩ : ∃ f', f = f' + 1 := ⟨f - 1, by omega⟩
    rw [jloop, show j = n by omega, hx a]
    rfl
  | succ m ih =>
    intro f j a hj hf
    obtain ⟨f, rfl⟩ : ∃ f', f = f' + 1 := ⟨f - 1, by omega⟩
    rw [jloop, hs j a (by omega)]
    show jloop body f (F j a, nI (j + 1)) ah = _
    rw [ih f (j + 1) (F j a) (by omega) (by omega)]
    rfl
/-! the TOWN now -/
theorem InvT.t {s : ST} {n : Nat} (hT : InvT s n 5 0) : ∃ t : Nat, t ≤ 40 ∧ sI s 163 = nI t ∧ sV s 61 0 = nI t ∧ InvS s n 6 7 8 t 1 ∧ ∀ u, u < t → InvS s n 6 7 8 u (20 + 19 * u) := by
  obtain ⟨t, h1, h2, h3, h4, h5⟩ := hT
  exact ⟨t, h1, h2, h3, h4, fun u hu => by have := h5 u hu; rwa [show 0 + 20 + 19 * u = 20 + 19 * u by omega] at this⟩
theorem p4_slot {s : ST} {t p : Nat} (ht : t ≤ 40) (hs : sI s 163 = nI t) (hp : p < 6) : f_X4_slot (some 5) (nI p) (HP s) = some (nI (6 * t + p), HP s) := by
  have e : nI t * 6 + nI p = nI (6 * t + p) := by
    rw [← nI_add, Nat.mul_comm, ← pk_mul]
    rfl
  simp only [f_X4_slot, gI_5_3, Option.bind_some, hs, e, if_neg (nI_pos (show 6 * t + p < 2 ^ 31 by omega)), if_neg (show ¬ (246 : Int32) ≤ nI (6 * t + p) from nI_ge (b := 246) (by omega) (by omega))]
theorem p4_victimOf {s : ST} {t p : Nat} (ht : t ≤ 40) (hs : sI s 163 = nI t) (hp : p < 6) : f_X4_victimOf (some 5) (nI p) (HP s) = some (sV s 6 (6 * t + p), HP s) := by
  simp only [f_X4_victimOf, gR_5_0, Option.bind_some, qO_5, if_true, p4_slot ht hs hp, HP_gAn s (show 6 * t + p < hLen 6 by show 6 * t + p < 246; omega) (show 6 * t + p < 2 ^ 31 by omega)]
theorem p4_deedsOf {s : ST} {t p : Nat} (ht : t ≤ 40) (hs : sI s 163 = nI t) (hp : p < 6) : f_X4_deedsOf (some 5) (nI p) (HP s) = some (sV s 7 (6 * t + p), HP s) := by
  simp only [f_X4_deedsOf, gR_5_1, Option.bind_some, qO_5, if_true, p4_slot ht hs hp, HP_gAn s (show 6 * t + p < hLen 7 by show 6 * t + p < 246; omega) (show 6 * t + p < 2 ^ 31 by omega)]
theorem p4_finesOf {s : ST} {t p : Nat} (ht : t ≤ 40) (hs : sI s 163 = nI t) (hp : p < 6) : f_X4_finesOf (some 5) (nI p) (HP s) = some (sV s 8 (6 * t + p), HP s) := by
  simp only [f_X4_finesOf, gR_5_2, Option.bind_some, qO_5, if_true, p4_slot ht hs hp, HP_gAn s (show 6 * t + p < hLen 8 by show 6 * t + p < 246; omega) (show 6 * t + p < 2 ^ 31 by omega)]
theorem e1p (p : Nat) : 1 + nI p = nI (1 + p) := nI_add 1 p
theorem e7p (p : Nat) : 7 + nI p = nI (7 + p) := nI_add 7 p
theorem e13p (p : Nat) : 13 + nI p = nI (13 + p) := nI_add 13 p
theorem g61 (s : ST) {k : Nat} (hk : k < 3120) : gA (HP s) (some 61) (nI k) = some (sV s 61 k) := HP_gAn s (show k < hLen 61 from hk) (by omega)
theorem p6_victim (s : ST) {p : Nat} (hp : p < 6) : f_X6_victim (some 60) (nI p) (HP s) = some (sV s 61 (1 + p), HP s) := by
  simp only [f_X6_victim, gR_60_0, Option.bind_some, e1p, g61 s (show 1 + p < 3120 by omega)]
/-- the first whose VICTIM is x -/
def fo (V : Nat → Int32) (x : Int32) : Nat → Nat → Int32
  | 0, _ => -9
  | m + 1, q => if V q = x then nI q else fo V x m (q + 1)
theorem fo_spec (V : Nat → Int32) (x : Int32) : ∀ m q, (fo V x m q = -9 ∧ ∀ k, q ≤ k → k < q + m → V k ≠ x) ∨ ∃ k, q ≤ k ∧ k < q + m ∧ V k = x ∧ fo V x m q = nI k
  | 0, q => Or.inl ⟨rfl, fun k h1 h2 => by omega⟩
  | m + 1, q => by
    rw [fo]
    by_cases h : V q = x
    · exact Or.inr ⟨q, by omega, by omega, h, by rw [if_pos h]⟩
    · rw [if_neg h]
      rcases fo_spec V x m (q + 1) with ⟨h1, h2⟩ | ⟨k, h1, h2, h3, h4⟩
      · refine Or.inl ⟨h1, fun k a b => ?_⟩
        by_cases e : k = q
        · rw [e]; exact h
        · exact h2 k (by omega) (by omega)
      · exact Or.inr ⟨k, by omega, by omega, h3, h4⟩
theorem fo_congr {V V' : Nat → Int32} {x : Int32} (hx : x ≠ -9) : ∀ (m r q : Nat), (∀ k, q ≤ k → k < q + m → V k = V' k) → (∀ k, q + m ≤ k → k < q + m + r → V' k = -9) → fo V x m q = fo V' x (m + r) q
  | 0, 0, _, _, _ => rfl
  | 0, r + 1, q, h1, h2 => by
    rw [fo, Nat.zero_add, fo, if_neg (by rw [h2 q (by omega) (by omega)]; exact fun e => hx e.symm)]
    have := fo_congr (V := V) hx 0 r (q + 1) (fun k a b => by omega) (fun k a b => h2 k (by omega) (by omega))
    rw [fo, Nat.zero_add] at this
    exact this
  | m + 1, r, q, h1, h2 => by
    rw [show m + 1 + r = (m + r) + 1 by omega, fo, fo, h1 q (by omega) (by omega), fo_congr hx m r (q + 1) (fun k a b => h1 k (by omega) (by omega)) (fun k a b => h2 k (by omega) (by omega))]
theorem p6_foe_loop {s : ST} {n : Nat} (hF : InvF s n) (x : Int32) : ∀ (m f q : Nat), q + m = n → m < f → jloop (f_X6_foe_b2 (some 60) x) f (nI q) (HP s) = some (if fo (fun k => sV s 61 (1 + k)) x m q = -9 then .inr ((), HP s) else .inl (fo (fun k => sV s 61 (1 + k)) x m q, HP s)) := by
  have h6 := hF.le
  intro m
  induction m with
  | zero =>
    intro f q hq hf
    obtain ⟨f, rfl⟩ : ∃ f', f = f' + 1 := ⟨f - 1, by omega⟩
    rw [jloop]
    simp only [f_X6_foe_b2, gI_60_1, Option.bind_some, hF.2.1, if_pos (nI_le (show n ≤ q by omega) (show q < 2 ^ 31 by omega)), fo, if_true]
  | succ m ih =>
    intro f q hq hf
    obtain ⟨f, rfl⟩ : ∃ f', f = f' + 1 := ⟨f - 1, by omega⟩
    rw [jloop]
    simp only [f_X6_foe_b2, gI_60_1, Option.bind_some, hF.2.1, if_neg (nI_ge (show q < n by omega) (show n < 2 ^ 31 by omega)), qO_60, if_true, p6_victim s (show q < 6 by omega), fo]
    by_cases hv : sV s 61 (1 + q) = x
    · have e : ¬ nI q = -9 := fun h => by have := congrArg Int32.toInt h; rw [nI_toInt (by omega)] at this; simp at this
      simp only [if_pos hv, if_neg e]
    · simp only [if_neg hv, nI_1]
      exact ih f (q + 1) (by omega) (by omega)
/-- the FOE of x, by number or -9 -/
def foe (s : ST) (n : Nat) (x : Int32) : Int32 := fo (fun k => sV s 61 (1 + k)) x n 0
theorem p6_foe {s : ST} {n : Nat} (hF : InvF s n) (x : Int32) : f_X6_foe (some 60) x (HP s) = some (foe s n x, HP s) := by
  have h6 := hF.le
  have h : jloop (f_X6_foe_b2 (some 60) x) jfuel 0 (HP s) = _ := p6_foe_loop hF x n jfuel 0 (by omega) (by unfold jfuel; omega)
  unfold f_X6_foe
  rw [h, Option.bind_some]
  unfold foe
  split
  · rename_i h2
    split at h2
    · cases h2
    · cases h2; rfl
  · rename_i h2
    split at h2
    · rename_i h3
      cases h2
      rw [h3]
    · cases h2
theorem p4_foe_loop {s : ST} {t : Nat} (ht : t ≤ 40) (hs : sI s 163 = nI t) {x : Int32} (hx : ¬ x < 0) : ∀ (m f q : Nat), q + m = 6 → m < f → jloop (f_X4_foeOf_b2 (some 5) x) f (nI q) (HP s) = some (if fo (fun k => sV s 6 (6 * t + k)) x m q = -9 then .inr ((), HP s) else .inl (fo (fun k => sV s 6 (6 * t + k)) x m q, HP s)) := by
  intro m
  induction m with
  | zero =>
    intro f q hq hf
    obtain ⟨f, rfl⟩ : ∃ f', f = f' + 1 := ⟨f - 1, by omega⟩
    rw [jloop]
    simp only [f_X4_foeOf_b2, if_pos (show (6 : Int32) ≤ nI q from nI_le (a := 6) (by omega) (by omega)), fo, if_true]
  | succ m ih =>
    intro f q hq hf
    obtain ⟨f, rfl⟩ : ∃ f', f = f' + 1 := ⟨f - 1, by omega⟩
    rw [jloop]
    simp only [f_X4_foeOf_b2, if_neg (show ¬ (6 : Int32) ≤ nI q from nI_ge (b := 6) (by omega) (by omega)), if_neg hx, qO_5, if_true, p4_victimOf ht hs (show q < 6 by omega), Option.bind_some, fo]
    by_cases hv : sV s 6 (6 * t + q) = x
    · have e : ¬ nI q = -9 := fun h => by have := congrArg Int32.toInt h; rw [nI_toInt (by omega)] at this; simp at this
      simp only [if_pos hv, if_neg e]
    · simp only [if_neg hv, nI_1]
      exact ih f (q + 1) (by omega) (by omega)
theorem p4_foeOf {s : ST} {n : Nat} (hF : InvF s n) (hT : InvT s n 5 0) {j : Nat} (hj : j < 6) : f_X4_foeOf (some 5) (nI j) (HP s) = some (foe s n (nI j), HP s) := by
  have h6 := hF.le
  obtain ⟨t, ht, hs, -, hS, -⟩ := hT.t
  have e : fo (fun k => sV s 6 (6 * t + k)) (nI j) 6 0 = foe s n (nI j) := by
    unfold foe
    rw [fo_congr (V := fun k => sV s 61 (1 + k)) (V' := fun k => sV s 6 (6 * t + k)) (fun h => by have := congrArg Int32.toInt h; rw [nI_toInt (by omega)] at this; simp at this) n (6 - n) 0 (fun k _ hk => ((hS.1 k (by omega)).1).symm) (fun k h1 h2 => hS.2.1 k (by omega) (by omega)), show n + (6 - n) = 6 by omega]
  have h : jloop (f_X4_foeOf_b2 (some 5) (nI j)) jfuel 0 (HP s) = _ := p4_foe_loop ht hs (nI_pos (show j < 2 ^ 31 by omega)) 6 jfuel 0 (by omega) (by unfold jfuel; omega)
  rw [e] at h
  unfold f_X4_foeOf
  rw [h, Option.bind_some]
  split
  · rename_i h2
    split at h2
    · cases h2
    · cases h2; rfl
  · rename_i h2
    split at h2
    · rename_i h3
      cases h2
      rw [h3]
    · cases h2
theorem foe_spec {s : ST} {n : Nat} (hF : InvF s n) (x : Int32) : foe s n x = -9 ∨ ∃ q, q < n ∧ sV s 61 (1 + q) = x ∧ foe s n x = nI q := by
  rcases fo_spec (fun k => sV s 61 (1 + k)) x n 0 with ⟨h, -⟩ | ⟨k, h1, h2, h3, h4⟩
  · exact Or.inl h
  · exact Or.inr ⟨k, by omega, h3, h4⟩
theorem nI_n9 {q : Nat} (h : q < 2 ^ 31) : ¬ nI q = -9 := fun e => by have := congrArg Int32.toInt e; rw [nI_toInt h] at this; simp at this
/-- STRENGTH of the FOE, 0 if there is none -/
def loss (s : ST) (n p : Nat) : Nat := if foe s n (nI p) = -9 then 0 else str s (foe s n (nI p)).toNatClampNeg p
theorem p5_loss {s : ST} {n p : Nat} (hF : InvF s n) (hT : InvT s n 5 0) (hp : p < n) : f_X5_lossOf (some 0) (nI p) (HP s) = some (nI (loss s n p), HP s) := by
  have h6 := hF.le
  unfold loss
  rcases foe_spec hF (nI p) with h | ⟨q, hq, -, h⟩
  · simp only [f_X5_lossOf, gR_0_3, Option.bind_some, qO_5, if_true, p4_foeOf hF hT (show p < 6 by omega), h]
    rfl
  · simp only [f_X5_lossOf, gR_0_3, Option.bind_some, qO_5, if_true, p4_foeOf hF hT (show p < 6 by omega), h, if_neg (nI_n9 (show q < 2 ^ 31 by omega)), gR_0_8, fk_q, p1_str hF hq hp, nI_clamp (show q < 2 ^ 31 by omega)]
theorem p6_loss {s : ST} {n p : Nat} (hF : InvF s n) (hp : p < n) : f_X6_against (some 60) (nI p) (HP s) = some (nI (loss s n p), HP s) := by
  have h6 := hF.le
  unfold loss
  rcases foe_spec hF (nI p) with h | ⟨q, hq, -, h⟩
  · simp only [f_X6_against, qO_60, if_true, p6_foe hF, Option.bind_some, h]
    rfl
  · simp only [f_X6_against, qO_60, if_true, p6_foe hF, Option.bind_some, h, if_neg (nI_n9 (show q < 2 ^ 31 by omega)), p6_str hF hq hp, nI_clamp (show q < 2 ^ 31 by omega)]
theorem loss_le {s : ST} {n p : Nat} (hF : InvF s n) : loss s n p ≤ 8 := by
  have h6 := hF.le
  unfold loss
  rcases foe_spec hF (nI p) with h | ⟨q, hq, -, h⟩
  · rw [if_pos h]; omega
  · rw [h, if_neg (nI_n9 (by omega)), nI_clamp (by omega)]
    exact str_le p hF hq
/-! REACHED -/
set_option maxRecDepth 100000 in
theorem bit_dec : ∀ r, r < 64 → ∀ p, p < 6 → (((nI r >>> (nI p &&& 31)) &&& 1 = 1) ↔ r.testBit p = true) := by decide +kernel
def rch (s : ST) (p : Nat) : Prop := sV s 63 p ≤ sV s 61 (7 + p)
theorem p6_isReached {s : ST} {n t p : Nat} (hF : InvF s n) (hS : InvS s n 6 7 8 t 1) (hp : p < n) : f_X6_isReached (some 60) (nI p) (HP s) = some (if sV s 63 p ≤ sV s 61 (7 + p) then 1 else 0, HP s) := by
  have h6 := hF.le
  obtain ⟨-, -, -, -, -, r, hr, hr1, hr2⟩ := hS
  have hr64 : r < 64 := Nat.lt_of_lt_of_le hr (Nat.pow_le_pow_right (by omega) h6)
  have e := hr2 p hp
  rw [show 1 + 6 + p = 7 + p by omega] at e
  have e2 := bit_dec r hr64 p (by omega)
  have g19 : gA (HP s) (some 61) 19 = some (sV s 61 19) := g61 s (k := 19) (by omega)
  simp only [f_X6_isReached, gR_60_0, Option.bind_some, g19, show sV s 61 19 = nI r from hr1, p6_has]
  by_cases h : sV s 63 p ≤ sV s 61 (7 + p)
  · rw [if_pos h, if_pos (e2.mpr (e.mpr h)), if_pos (Or.inr rfl)]
  · rw [if_neg h, if_neg (fun q => h (e.mp (e2.mp q))), if_pos (Or.inl rfl)]
theorem InvF.a {s : ST} {n p : Nat} (hF : InvF s n) (hp : p < n) : sV s (fA (sW s) + 2) p = sV s 63 p := by
  obtain ⟨-, ⟨a, -, -, h2, h3⟩, -⟩ := hF.2.2.2.2 p hp
  rw [h2, h3]
theorem i32_nlt {a b : Int32} : a < b ↔ ¬ b ≤ a := by
  rw [Int32.lt_iff_toInt_lt, Int32.le_iff_toInt_le]
  omega
theorem p5_hasReached {s : ST} {n t p : Nat} (hF : InvF s n) (ht : t ≤ 40) (hs : sI s 163 = nI t) (hS : InvS s n 6 7 8 t 1) (hp : p < n) : f_X5_hasReached (some 0) (nI p) (HP s) = some (if sV s 63 p ≤ sV s 61 (7 + p) then 1 else 0, HP s) := by
  have h6 := hF.le
  obtain ⟨d, -, h2, h3⟩ := hS.2.2.2.1 p hp
  have e : sV s 7 (6 * t + p) = sV s 61 (7 + p) := by rw [h2, ← h3, show 1 + 6 + p = 7 + p by omega]
  simp only [f_X5_hasReached, gR_0_3, Option.bind_some, qO_5, if_true, p4_deedsOf ht hs (show p < 6 by omega), gR_0_8, fk_q, p1_aimOf hF hp, hF.a hp, e]
  by_cases h : sV s 63 p ≤ sV s 61 (7 + p)
  · rw [if_pos h, if_neg (fun q => (i32_nlt.mp q) h)]
  · rw [if_neg h, if_pos (i32_nlt.mpr h)]
