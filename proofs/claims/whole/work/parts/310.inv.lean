/-! ===== the invariant between the class (cells 0 to 59) and the reference (60 to 76) ===== -/
/-- a VICTIM: a PERSON or none -/
def Vok (n p : Nat) (v : Int32) : Prop := v = -9 ∨ ∃ k : Nat, k < n ∧ k ≠ p ∧ v = nI k
/-- who the PERSONS are: the folk at cell F, and the reference's arrays -/
def InvF (s : ST) (n : Nat) : Prop :=
  (n = 0 ∨ (2 ≤ n ∧ n ≤ 6)) ∧ sI s 1921 = nI n ∧ sI s (32 * fA (sW s) + 5) = nI n ∧ sI s (32 * fA (sW s) + 6) = sI s 1926 ∧
  ∀ p, p < n → (∃ k : Nat, k < 6 ∧ sV s (fA (sW s) + 1) p = nI k ∧ sV s 62 p = nI k) ∧ (∃ a : Nat, 1 ≤ a ∧ a ≤ 9 ∧ sV s (fA (sW s) + 2) p = nI a ∧ sV s 63 p = nI a) ∧ (∃ z : Nat, z ≤ 5 ∧ sV s (fA (sW s) + 3) p = nI z ∧ sV s 64 p = nI z) ∧ ∃ m : Nat, m < 2 ^ n ∧ sV s (fA (sW s) + 4) p = nI m ∧ sV s 65 p = nI m
/-- a sheet: the class's arrays cv, cd, cf from 6 u on, the reference's row from b on (VICTIMS, DEEDS, FINES, REACHED) -/
def InvS (s : ST) (n cv cd cf u b : Nat) : Prop :=
  (∀ p, p < n → sV s cv (6 * u + p) = sV s 61 (b + p) ∧ Vok n p (sV s 61 (b + p))) ∧ (∀ p, n ≤ p → p < 6 → sV s cv (6 * u + p) = -9) ∧
  (∀ p q, p < n → q < n → sV s 61 (b + p) = sV s 61 (b + q) → sV s 61 (b + p) ≠ -9 → p = q) ∧
  (∀ p, p < n → ∃ d : Nat, d ≤ 9 ∧ sV s cd (6 * u + p) = nI d ∧ sV s 61 (b + 6 + p) = nI d) ∧ (∀ p, p < n → sV s cf (6 * u + p) = sV s 61 (b + 12 + p)) ∧
  ∃ r : Nat, r < 2 ^ n ∧ sV s 61 (b + 18) = nI r ∧ ∀ p, p < n → (r.testBit p = true ↔ sV s 63 p ≤ sV s 61 (b + 6 + p))
/-- a TOWN: the class's object at cell k, the reference's row from b on -/
def InvT (s : ST) (n k b : Nat) : Prop :=
  ∃ t : Nat, t ≤ 40 ∧ sI s (32 * k + 3) = nI t ∧ sV s 61 b = nI t ∧ InvS s n (k + 1) (k + 2) (k + 3) t (b + 1) ∧ ∀ u, u < t → InvS s n (k + 1) (k + 2) (k + 3) u (b + 20 + 19 * u)
/-- kept TOWNS -/
def InvK (s : ST) (n : Nat) : Prop := ∀ k, k < 3 → (sI s (32 * (48 + 4 * k) + 4) = 0 ∧ sV s 61 (780 * (1 + k)) = -1) ∨ (sI s (32 * (48 + 4 * k) + 4) = 1 ∧ InvT s n (48 + 4 * k) (780 * (1 + k)))
/-- a ROW or a TEXT: the class's Line at cell c, the reference's sizes z, places a from b on, at most m -/
def InvL (s : ST) (c z i a b m : Nat) : Prop :=
  (sI s (32 * c + 1) = -1 ∧ sV s z i = -1) ∨ ∃ n : Nat, n ≤ m ∧ sI s (32 * c + 1) = nI n ∧ sV s z i = nI n ∧ ∀ k, k < n → sV s (c + 1) k = sV s a (b + k)
def InvR (s : ST) : Prop := (∀ i, i < 6 → InvL s (28 + 2 * i) 66 i 67 (40 * i) 40) ∧ ∀ i, i < 4 → InvL s (40 + 2 * i) 68 i 69 (60 * i) 60
/-- what is told -/
def InvM (s : ST) : Prop := sI s 11 = sI s 1931 ∧ sI s 10 = sI s 1934 ∧ sL s 0 = sL s 2 ∧ sL s 1 = sL s 3 ∧ ∀ f, 1 ≤ f → f ≤ 5 → sV s 15 f = sV s 70 f
def Inv (s : ST) : Prop := (∃ n : Nat, InvF s n ∧ InvT s n 5 0 ∧ InvK s n) ∧ InvR s ∧ InvM s
theorem inv0 : Inv st0 := by
  refine ⟨⟨0, ⟨Or.inl rfl, by decide, by decide, by decide, fun p h => absurd h (Nat.not_lt_zero p)⟩, ⟨0, by decide, by decide, by decide, ⟨fun p h => absurd h (Nat.not_lt_zero p), fun p _ h => ?_, fun p q h => absurd h (Nat.not_lt_zero p), fun p h => absurd h (Nat.not_lt_zero p), fun p h => absurd h (Nat.not_lt_zero p), 0, by decide, by decide, fun p h => absurd h (Nat.not_lt_zero p)⟩, fun u h => absurd h (Nat.not_lt_zero u)⟩, fun k hk => Or.inl ?_⟩, ⟨fun i hi => Or.inl ?_, fun i hi => Or.inl ?_⟩, ⟨by decide, by decide, by decide, by decide, fun f h1 h2 => ?_⟩⟩
  · show (if (6 * 0 + p) < 6 then (-9 : Int32) else 0) = -9
    rw [if_pos (by omega)]
  · match k, hk with
    | 0, _ => exact ⟨by decide, by decide⟩
    | 1, _ => exact ⟨by decide, by decide⟩
    | 2, _ => exact ⟨by decide, by decide⟩
    | k + 3, h => exact absurd h (by omega)
  · match i, hi with
    | 0, _ => exact ⟨by decide, by decide⟩
    | 1, _ => exact ⟨by decide, by decide⟩
    | 2, _ => exact ⟨by decide, by decide⟩
    | 3, _ => exact ⟨by decide, by decide⟩
    | 4, _ => exact ⟨by decide, by decide⟩
    | 5, _ => exact ⟨by decide, by decide⟩
    | i + 6, h => exact absurd h (by omega)
  · match i, hi with
    | 0, _ => exact ⟨by decide, by decide⟩
    | 1, _ => exact ⟨by decide, by decide⟩
    | 2, _ => exact ⟨by decide, by decide⟩
    | 3, _ => exact ⟨by decide, by decide⟩
    | i + 4, h => exact absurd h (by omega)
  · match f, h1, h2 with
    | 1, _, _ => decide
    | 2, _, _ => decide
    | 3, _, _ => decide
    | 4, _, _ => decide
    | 5, _, _ => decide
    | 0, h, _ => exact absurd h (by omega)
    | f + 6, _, h => exact absurd h (by omega)
