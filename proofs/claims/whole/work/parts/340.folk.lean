/-! ===== PERSONS: who there is, kinds, STRENGTH ===== -/
theorem fk_q (s : ST) (b : Bool) : qO (HP s) (some (fA b)) 1 = true := by cases b <;> rfl
theorem fk_n (s : ST) (b : Bool) : gI (HP s) (some (fA b)) 1 5 = some (sI s (32 * fA b + 5)) := by cases b <;> rfl
theorem fk_l (s : ST) (b : Bool) : gI (HP s) (some (fA b)) 1 6 = some (sI s (32 * fA b + 6)) := by cases b <;> rfl
theorem fk_0 (s : ST) (b : Bool) : gR (HP s) (some (fA b)) 1 0 = some (some (fA b + 1)) := by cases b <;> rfl
theorem fk_1 (s : ST) (b : Bool) : gR (HP s) (some (fA b)) 1 1 = some (some (fA b + 2)) := by cases b <;> rfl
theorem fk_2 (s : ST) (b : Bool) : gR (HP s) (some (fA b)) 1 2 = some (some (fA b + 3)) := by cases b <;> rfl
theorem fk_3 (s : ST) (b : Bool) : gR (HP s) (some (fA b)) 1 3 = some (some (fA b + 4)) := by cases b <;> rfl
theorem fk_4 (s : ST) (b : Bool) : gR (HP s) (some (fA b)) 1 4 = some (some (fA b + 5)) := by cases b <;> rfl
theorem fk_len (b : Bool) {j : Nat} (h : 1 ≤ j) (h2 : j ≤ 5) : hLen (fA b + j) = 6 := by
  match j, h, h2 with
  | 1, _, _ | 2, _, _ | 3, _, _ | 4, _, _ | 5, _, _ => cases b <;> rfl
  | 0, h, _ => exact absurd h (by omega)
  | j + 6, _, h => exact absurd h (by omega)
theorem fk_g (s : ST) (b : Bool) {j p : Nat} (h : 1 ≤ j) (h2 : j ≤ 5) (hp : p < 6) : gA (HP s) (some (fA b + j)) (nI p) = some (sV s (fA b + j) p) := HP_gAn s (by rw [fk_len b h h2]; exact hp) (by omega)
theorem g62 (s : ST) {p : Nat} (hp : p < 6) : gA (HP s) (some 62) (nI p) = some (sV s 62 p) := HP_gAn s (show p < hLen 62 from hp) (by omega)
theorem g63 (s : ST) {p : Nat} (hp : p < 6) : gA (HP s) (some 63) (nI p) = some (sV s 63 p) := HP_gAn s (show p < hLen 63 from hp) (by omega)
theorem g64 (s : ST) {p : Nat} (hp : p < 6) : gA (HP s) (some 64) (nI p) = some (sV s 64 p) := HP_gAn s (show p < hLen 64 from hp) (by omega)
theorem g65 (s : ST) {p : Nat} (hp : p < 6) : gA (HP s) (some 65) (nI p) = some (sV s 65 p) := HP_gAn s (show p < hLen 65 from hp) (by omega)
theorem InvF.le {s : ST} {n : Nat} (h : InvF s n) : n ≤ 6 := by rcases h.1 with h | h <;> omega
theorem p1_hasT {s : ST} {n p : Nat} (hF : InvF s n) (hp : p < n) : f_X1_has (some (fA (sW s))) (nI p) (HP s) = some (1, HP s) := by
  have h6 := hF.le
  simp only [f_X1_has, if_neg (nI_pos (show p < 2 ^ 31 by omega)), fk_n, Option.bind_some, hF.2.2.1, if_neg (nI_ge hp (show n < 2 ^ 31 by omega)), if_neg (show ¬ (6 : Int32) ≤ nI p from nI_ge (b := 6) (by omega) (by omega))]
theorem p1_hasF {s : ST} {n : Nat} (hF : InvF s n) {x : Int32} (hx : x < 0 ∨ nI n ≤ x) : f_X1_has (some (fA (sW s))) x (HP s) = some (0, HP s) := by
  by_cases h0 : x < 0
  · simp only [f_X1_has, if_pos h0]
  · simp only [f_X1_has, if_neg h0, fk_n, Option.bind_some, hF.2.2.1, if_pos (hx.resolve_left h0)]
theorem p6_isPT {s : ST} {n p : Nat} (hF : InvF s n) (hp : p < n) : f_X6_isPerson (some 60) (nI p) (HP s) = some (1, HP s) := by
  have h6 := hF.le
  simp only [f_X6_isPerson, gI_60_1, Option.bind_some, hF.2.1, p6_inT (show n < 2 ^ 30 by omega) hp, n10, false_or, if_true]
theorem p6_isPF {s : ST} {n : Nat} (hF : InvF s n) {x : Int32} (hx : x < 0 ∨ nI n ≤ x) : f_X6_isPerson (some 60) x (HP s) = some (0, HP s) := by
  have h6 := hF.le
  simp only [f_X6_isPerson, gI_60_1, Option.bind_some, hF.2.1, p6_inF (show n < 2 ^ 30 by omega) hx, true_or, if_true]
theorem p1_kindOf {s : ST} {n p : Nat} (hF : InvF s n) (hp : p < n) : f_X1_kindOf (some (fA (sW s))) (nI p) (HP s) = some (sV s (fA (sW s) + 1) p, HP s) := by
  have h6 := hF.le
  simp only [f_X1_kindOf, fk_q, if_true, p1_hasT hF hp, Option.bind_some, n10, if_false, fk_0, fk_g s (sW s) (show 1 ≤ 1 by omega) (by omega) (show p < 6 by omega)]
theorem p1_aimOf {s : ST} {n p : Nat} (hF : InvF s n) (hp : p < n) : f_X1_aimOf (some (fA (sW s))) (nI p) (HP s) = some (sV s (fA (sW s) + 2) p, HP s) := by
  have h6 := hF.le
  simp only [f_X1_aimOf, fk_q, if_true, p1_hasT hF hp, Option.bind_some, n10, if_false, fk_1, fk_g s (sW s) (show 1 ≤ 2 by omega) (by omega) (show p < 6 by omega)]
theorem p1_zealOf {s : ST} {n p : Nat} (hF : InvF s n) (hp : p < n) : f_X1_zealOf (some (fA (sW s))) (nI p) (HP s) = some (sV s (fA (sW s) + 3) p, HP s) := by
  have h6 := hF.le
  simp only [f_X1_zealOf, fk_q, if_true, p1_hasT hF hp, Option.bind_some, n10, if_false, fk_2, fk_g s (sW s) (show 1 ≤ 3 by omega) (by omega) (show p < 6 by omega)]
theorem p1_lovedBy {s : ST} {n p : Nat} (hF : InvF s n) (hp : p < n) : f_X1_lovedBy (some (fA (sW s))) (nI p) (HP s) = some (sV s (fA (sW s) + 4) p, HP s) := by
  have h6 := hF.le
  simp only [f_X1_lovedBy, fk_q, if_true, p1_hasT hF hp, Option.bind_some, n10, if_false, fk_3, fk_g s (sW s) (show 1 ≤ 4 by omega) (by omega) (show p < 6 by omega)]
/-- STRENGTH against one that is no SAINT and not LOVED, by kind and zeal -/
def vPow (k z : Nat) : Nat := if k = 1 then z + 1 else if k = 4 then z + 3 else if k = 3 then z / 2 else if k = 5 then z / 2 - 1 else z
/-- is of a kind, by kinds -/
def kIs (k c : Nat) : Bool := k == c || (k == 4 && c == 1) || (k == 5 && c == 3)
theorem p1_isOf {s : ST} {n p k : Nat} (hF : InvF s n) (hp : p < n) (hk : sV s (fA (sW s) + 1) p = nI k) (h6 : k < 6) {x : Int32} {c : Nat} (hx : x = nI c) (hc : c < 6) : f_X1_isOf (some (fA (sW s))) (nI p) x (HP s) = some (if kIs k c then 1 else 0, HP s) := by
  subst hx
  simp only [f_X1_isOf, f_X1_isOf_j21, fk_q, if_true, p1_kindOf hF hp, Option.bind_some, hk]
  match k, h6, c, hc with
  | 0, _, 0, _ | 0, _, 1, _ | 0, _, 2, _ | 0, _, 3, _ | 0, _, 4, _ | 0, _, 5, _ => rfl
  | 1, _, 0, _ | 1, _, 1, _ | 1, _, 2, _ | 1, _, 3, _ | 1, _, 4, _ | 1, _, 5, _ => rfl
  | 2, _, 0, _ | 2, _, 1, _ | 2, _, 2, _ | 2, _, 3, _ | 2, _, 4, _ | 2, _, 5, _ => rfl
  | 3, _, 0, _ | 3, _, 1, _ | 3, _, 2, _ | 3, _, 3, _ | 3, _, 4, _ | 3, _, 5, _ => rfl
  | 4, _, 0, _ | 4, _, 1, _ | 4, _, 2, _ | 4, _, 3, _ | 4, _, 4, _ | 4, _, 5, _ => rfl
  | 5, _, 0, _ | 5, _, 1, _ | 5, _, 2, _ | 5, _, 3, _ | 5, _, 4, _ | 5, _, 5, _ => rfl
  | k + 6, h, _, _ => exact absurd h (by omega)
  | _, _, c + 6, h => exact absurd h (by omega)
theorem p1_power {s : ST} {n p k z : Nat} (hF : InvF s n) (hp : p < n) (hk : sV s (fA (sW s) + 1) p = nI k) (h6 : k < 6) (hz : sV s (fA (sW s) + 3) p = nI z) (h5 : z ≤ 5) : f_X1_power (some (fA (sW s))) (nI p) (HP s) = some (nI (vPow k z), HP s) := by
  simp only [f_X1_power, f_X1_power_j18, f_X1_power_j30, f_X1_power_j43, fk_q, if_true, p1_zealOf hF hp, Option.bind_some, hz, p1_isOf hF hp hk h6 (show (1 : Int32) = nI 1 from rfl) (by omega), p1_isOf hF hp hk h6 (show (4 : Int32) = nI 4 from rfl) (by omega), p1_isOf hF hp hk h6 (show (3 : Int32) = nI 3 from rfl) (by omega), p1_isOf hF hp hk h6 (show (5 : Int32) = nI 5 from rfl) (by omega)]
  match k, h6, z, h5 with
  | 0, _, 0, _ | 0, _, 1, _ | 0, _, 2, _ | 0, _, 3, _ | 0, _, 4, _ | 0, _, 5, _ => rfl
  | 1, _, 0, _ | 1, _, 1, _ | 1, _, 2, _ | 1, _, 3, _ | 1, _, 4, _ | 1, _, 5, _ => rfl
  | 2, _, 0, _ | 2, _, 1, _ | 2, _, 2, _ | 2, _, 3, _ | 2, _, 4, _ | 2, _, 5, _ => rfl
  | 3, _, 0, _ | 3, _, 1, _ | 3, _, 2, _ | 3, _, 3, _ | 3, _, 4, _ | 3, _, 5, _ => rfl
  | 4, _, 0, _ | 4, _, 1, _ | 4, _, 2, _ | 4, _, 3, _ | 4, _, 4, _ | 4, _, 5, _ => rfl
  | 5, _, 0, _ | 5, _, 1, _ | 5, _, 2, _ | 5, _, 3, _ | 5, _, 4, _ | 5, _, 5, _ => rfl
  | k + 6, h, _, _ => exact absurd h (by omega)
  | _, _, z + 6, h => exact absurd h (by omega)
theorem p6_plain {s : ST} {p k z : Nat} (hp : p < 6) (hk : sV s 62 p = nI k) (h6 : k < 6) (hz : sV s 64 p = nI z) (h5 : z ≤ 5) : f_X6_plain (some 60) (nI p) (HP s) = some (nI (vPow k z), HP s) := by
  simp only [f_X6_plain, f_X6_plain_j92, gR_60_2, gR_60_4, Option.bind_some, g62 s hp, g64 s hp, hk, hz]
  match k, h6, z, h5 with
  | 0, _, 0, _ | 0, _, 1, _ | 0, _, 2, _ | 0, _, 3, _ | 0, _, 4, _ | 0, _, 5, _ => rfl
  | 1, _, 0, _ | 1, _, 1, _ | 1, _, 2, _ | 1, _, 3, _ | 1, _, 4, _ | 1, _, 5, _ => rfl
  | 2, _, 0, _ | 2, _, 1, _ | 2, _, 2, _ | 2, _, 3, _ | 2, _, 4, _ | 2, _, 5, _ => rfl
  | 3, _, 0, _ | 3, _, 1, _ | 3, _, 2, _ | 3, _, 3, _ | 3, _, 4, _ | 3, _, 5, _ => rfl
  | 4, _, 0, _ | 4, _, 1, _ | 4, _, 2, _ | 4, _, 3, _ | 4, _, 4, _ | 4, _, 5, _ => rfl
  | 5, _, 0, _ | 5, _, 1, _ | 5, _, 2, _ | 5, _, 3, _ | 5, _, 4, _ | 5, _, 5, _ => rfl
  | k + 6, h, _, _ => exact absurd h (by omega)
  | _, _, z + 6, h => exact absurd h (by omega)
/-- a bit of a set, as both ask for it -/
def bitI (m x : Int32) : Prop := (m >>> (x &&& 31)) &&& 1 = 1
theorem p5_isIn {m : Int32} {q : Nat} (hq : q < 6) (ah : AH) : f_X5_isIn m (nI q) ah = some (if (m >>> (nI q &&& 31)) &&& 1 = 1 then 1 else 0, ah) := by
  simp only [f_X5_isIn, if_neg (nI_pos (show q < 2 ^ 31 by omega)), if_neg (show ¬ (6 : Int32) ≤ nI q from nI_ge (b := 6) (by omega) (by omega))]
  split <;> rfl
theorem p6_has (m x : Int32) (ah : AH) : f_X6_has m x ah = some (if (m >>> (x &&& 31)) &&& 1 = 1 then 1 else 0, ah) := by
  unfold f_X6_has
  split <;> rfl
/-- kinds, zeals, loves by number (the reference's) -/
def kN (s : ST) (p : Nat) : Nat := (sV s 62 p).toNatClampNeg
def zN (s : ST) (p : Nat) : Nat := (sV s 64 p).toNatClampNeg
def pw (s : ST) (p : Nat) : Nat := vPow (kN s p) (zN s p)
/-- STRENGTH of p against q -/
def str (s : ST) (p q : Nat) : Nat := if (sV s 65 p >>> (nI q &&& 31)) &&& 1 = 1 then 0 else if kN s q = 2 then pw s p - 1 else pw s p
theorem InvF.k {s : ST} {n p : Nat} (hF : InvF s n) (hp : p < n) : kN s p < 6 ∧ sV s (fA (sW s) + 1) p = nI (kN s p) ∧ sV s 62 p = nI (kN s p) := by
  obtain ⟨⟨k, h1, h2, h3⟩, -⟩ := hF.2.2.2.2 p hp
  have e : kN s p = k := by unfold kN; rw [h3, nI_clamp (by omega)]
  rw [e]
  exact ⟨h1, h2, h3⟩
theorem InvF.z {s : ST} {n p : Nat} (hF : InvF s n) (hp : p < n) : zN s p ≤ 5 ∧ sV s (fA (sW s) + 3) p = nI (zN s p) ∧ sV s 64 p = nI (zN s p) := by
  obtain ⟨-, -, ⟨k, h1, h2, h3⟩, -⟩ := hF.2.2.2.2 p hp
  have e : zN s p = k := by unfold zN; rw [h3, nI_clamp (by omega)]
  rw [e]
  exact ⟨h1, h2, h3⟩
theorem InvF.lv {s : ST} {n p : Nat} (hF : InvF s n) (hp : p < n) : sV s (fA (sW s) + 4) p = sV s 65 p := by
  obtain ⟨-, -, -, m, -, h2, h3⟩ := hF.2.2.2.2 p hp
  rw [h2, h3]
theorem vPow_le {k z : Nat} (h : z ≤ 5) : vPow k z ≤ 8 := by unfold vPow; split <;> (try split) <;> (try split) <;> (try split) <;> omega
theorem pw_le {s : ST} {n p : Nat} (hF : InvF s n) (hp : p < n) : pw s p ≤ 8 := vPow_le (hF.z hp).1
theorem str_le {s : ST} {n p : Nat} (q : Nat) (hF : InvF s n) (hp : p < n) : str s p q ≤ 8 := by
  have := pw_le hF hp
  unfold str
  split
  · omega
  · split <;> omega
theorem p1_pw {s : ST} {n p : Nat} (hF : InvF s n) (hp : p < n) : f_X1_power (some (fA (sW s))) (nI p) (HP s) = some (nI (pw s p), HP s) := p1_power hF hp (hF.k hp).2.1 (hF.k hp).1 (hF.z hp).2.1 (hF.z hp).1
theorem p6_pw {s : ST} {n p : Nat} (hF : InvF s n) (hp : p < n) : f_X6_plain (some 60) (nI p) (HP s) = some (nI (pw s p), HP s) := p6_plain (by have := hF.le; omega) (hF.k hp).2.2 (hF.k hp).1 (hF.z hp).2.2 (hF.z hp).1
theorem dec1 {m : Nat} (hm : m ≤ 100) : (if 0 < nI m - 1 then nI m - 1 else 0) = nI (m - 1) := by
  by_cases h0 : m = 0
  · subst h0
    rfl
  · have e : nI m - 1 = nI (m - 1) := pk_sub (a := m) (b := 1) (by omega)
    rw [e]
    by_cases h1 : m - 1 = 0
    · rw [h1]
      rfl
    · exact if_pos (nI_lt (a := 0) (b := m - 1) (by omega) (by omega))
theorem p1_str {s : ST} {n p q : Nat} (hF : InvF s n) (hp : p < n) (hq : q < n) : f_X1_against (some (fA (sW s))) (nI p) (nI q) (HP s) = some (nI (str s p q), HP s) := by
  have h6 := hF.le
  have hb := pw_le hF hp
  have e2 := p1_isOf hF hq (hF.k hq).2.1 (hF.k hq).1 (show (2 : Int32) = nI 2 from rfl) (by omega)
  simp only [f_X1_against, fk_q, if_true, p1_lovedBy hF hp, Option.bind_some, hF.lv hp, p5_isIn (show q < 6 by omega), p1_pw hF hp, e2, dec1 (show pw s p ≤ 100 by omega)]
  unfold str
  by_cases hl : (sV s 65 p >>> (nI q &&& 31)) &&& 1 = 1
  · simp only [if_pos hl, n10, if_false]
    rfl
  · simp only [if_neg hl, if_true]
    have hk := (hF.k hq).1
    by_cases h2 : kN s q = 2
    · rw [h2]
      simp [kIs]
    · have e3 : kIs (kN s q) 2 = false := by simp [kIs, h2]
      simp [e3, h2]
theorem p6_str {s : ST} {n p q : Nat} (hF : InvF s n) (hp : p < n) (hq : q < n) : f_X6_strengthOf (some 60) (nI p) (nI q) (HP s) = some (nI (str s p q), HP s) := by
  have h6 := hF.le
  have hb := pw_le hF hp
  have hk := (hF.k hq).1
  simp only [f_X6_strengthOf, f_X6_strengthOf_j20, qO_60, if_true, p6_pw hF hp, Option.bind_some, gR_60_2, g62 s (show q < 6 by omega), (hF.k hq).2.2, gR_60_5, g65 s (show p < 6 by omega), p6_has]
  unfold str
  have hz : ∀ m : Nat, m ≤ 8 → ¬ nI m < 0 := fun m h => nI_pos (by omega)
  by_cases h2 : kN s q = 2
  · rw [h2, if_pos (show nI 2 = 2 from rfl)]
    by_cases h0 : pw s p = 0
    · rw [h0, if_pos (show nI 0 - 1 < 0 by decide)]
      simp
      rfl
    · have e : nI (pw s p) - 1 = nI (pw s p - 1) := pk_sub (a := pw s p) (b := 1) (by omega)
      rw [e, if_neg (hz _ (by omega))]
      by_cases hl : (sV s 65 p >>> (nI q &&& 31)) &&& 1 = 1
      · simp only [if_pos hl, n10, if_false]
        rfl
      · simp only [if_neg hl, if_true]
  · have e2 : ¬ nI (kN s q) = 2 := fun h => h2 ((nI_eq (a := kN s q) (b := 2) (by omega) (by omega)).mp h)
    have e3 : nI (pw s p) - 0 = nI (pw s p) := pk_sub (a := pw s p) (b := 0) (by omega)
    rw [if_neg e2, e3, if_neg (hz _ hb), if_neg h2]
    by_cases hl : (sV s 65 p >>> (nI q &&& 31)) &&& 1 = 1
    · simp only [if_pos hl, n10, if_false]
      rfl
    · simp only [if_neg hl, if_true]
