/-! ===== comparisons, rows and texts ===== -/
theorem lgc_lt (a b : Int64) : lg_cmp a b < 0 ↔ a.toInt < b.toInt := by
  unfold lg_cmp
  by_cases h1 : a > b
  · rw [if_pos h1]
    have := Int64.lt_iff_toInt_lt.mp h1
    simp; omega
  · rw [if_neg h1]
    by_cases h2 : a = b
    · rw [if_pos h2, h2]
      simp
    · rw [if_neg h2]
      have h3 : ¬ b.toInt < a.toInt := fun h => h1 (Int64.lt_iff_toInt_lt.mpr h)
      have h4 : a.toInt ≠ b.toInt := fun h => h2 (Int64.toInt_inj.mp h)
      have h5 : a.toInt < b.toInt := by omega
      simp [h5]
theorem lgc_gt (a b : Int64) : 0 < lg_cmp a b ↔ b.toInt < a.toInt := by
  unfold lg_cmp
  by_cases h1 : a > b
  · rw [if_pos h1]
    have := Int64.lt_iff_toInt_lt.mp h1
    simp [this]
  · rw [if_neg h1]
    have h3 : ¬ b.toInt < a.toInt := fun h => h1 (Int64.lt_iff_toInt_lt.mpr h)
    by_cases h2 : a = b
    · rw [if_pos h2]
      simp [h3]
    · rw [if_neg h2]
      simp [h3]
theorem p6_in (a b c : Int64) (ah : AH) : f_X6_in a b c ah = some (if b.toInt ≤ a.toInt ∧ a.toInt ≤ c.toInt then 1 else 0, ah) := by
  unfold f_X6_in
  by_cases h1 : lg_cmp a b < 0
  · rw [if_pos h1, if_neg (by have := (lgc_lt a b).mp h1; omega)]
  · rw [if_neg h1]
    have k1 : ¬ a.toInt < b.toInt := fun h => h1 ((lgc_lt a b).mpr h)
    by_cases h2 : 0 < lg_cmp a c
    · rw [if_pos h2, if_neg (by have := (lgc_gt a c).mp h2; omega)]
    · rw [if_neg h2]
      have k2 : ¬ c.toInt < a.toInt := fun h => h2 ((lgc_gt a c).mpr h)
      rw [if_pos (by omega)]
theorem p6_inI (x : Int32) (b c : Int64) (ah : AH) : f_X6_in (Int32.toInt64 x) b c ah = some (if b.toInt ≤ x.toInt ∧ x.toInt ≤ c.toInt then 1 else 0, ah) := by
  rw [p6_in, Int32.toInt_toInt64]
theorem p6_isRow (x : Int32) (ah : AH) : f_X6_isRow x ah = some (if 0 ≤ x.toInt ∧ x.toInt ≤ 5 then 1 else 0, ah) := by
  unfold f_X6_isRow
  rw [p6_inI, Option.bind_some]
  show (if _ ∨ _ then some ((if 0 ≤ x.toInt ∧ x.toInt ≤ 5 then (1 : Int32) else 0), ah) else none) = _
  rw [if_pos (by split <;> simp)]
theorem p6_isText (x : Int32) (ah : AH) : f_X6_isText x ah = some (if 0 ≤ x.toInt ∧ x.toInt ≤ 3 then 1 else 0, ah) := by
  unfold f_X6_isText
  rw [p6_inI, Option.bind_some]
  show (if _ ∨ _ then some ((if 0 ≤ x.toInt ∧ x.toInt ≤ 3 then (1 : Int32) else 0), ah) else none) = _
  rw [if_pos (by split <;> simp)]
theorem toInt_neg {x : Int32} (h : x < 0) : x.toInt < 0 := by simpa using Int32.lt_iff_toInt_lt.mp h
theorem toInt_ge {x : Int32} {n : Nat} (hn : n < 2 ^ 31) (h : nI n ≤ x) : (n : Int) ≤ x.toInt := by
  have := Int32.le_iff_toInt_le.mp h
  rwa [nI_toInt hn] at this
/-! Lines: of row i (0 to 5) and text i - 6 (6 to 9) -/
def lc (i : Nat) : Nat := 28 + 2 * i
theorem ln_q (s : ST) {i : Nat} (h : i < 10) : qO (HP s) (some (lc i)) 2 = true := by
  match i, h with
  | 0, _ | 1, _ | 2, _ | 3, _ | 4, _ | 5, _ | 6, _ | 7, _ | 8, _ | 9, _ => rfl
  | i + 10, h => exact absurd h (by omega)
theorem ln_z (s : ST) {i : Nat} (h : i < 10) : gI (HP s) (some (lc i)) 2 1 = some (sI s (32 * lc i + 1)) := by
  match i, h with
  | 0, _ | 1, _ | 2, _ | 3, _ | 4, _ | 5, _ | 6, _ | 7, _ | 8, _ | 9, _ => rfl
  | i + 10, h => exact absurd h (by omega)
theorem ln_p (s : ST) {i : Nat} (h : i < 10) : gR (HP s) (some (lc i)) 2 0 = some (some (lc i + 1)) := by
  match i, h with
  | 0, _ | 1, _ | 2, _ | 3, _ | 4, _ | 5, _ | 6, _ | 7, _ | 8, _ | 9, _ => rfl
  | i + 10, h => exact absurd h (by omega)
theorem ln_s (s : ST) {i : Nat} (h : i < 10) (v : Int32) : sF (HP s) (some (lc i)) 2 1 (.inl v) = some (HP (uI s (32 * lc i + 1) v)) := by
  match i, h with
  | 0, _ | 1, _ | 2, _ | 3, _ | 4, _ | 5, _ | 6, _ | 7, _ | 8, _ | 9, _ => rfl
  | i + 10, h => exact absurd h (by omega)
/-- how many places a Line has -/
def lm (i : Nat) : Nat := if i < 6 then 40 else 60
theorem ln_len {i : Nat} (h : i < 10) : hLen (lc i + 1) = lm i := by
  match i, h with
  | 0, _ | 1, _ | 2, _ | 3, _ | 4, _ | 5, _ | 6, _ | 7, _ | 8, _ | 9, _ => rfl
  | i + 10, h => exact absurd h (by omega)
theorem lm_pos (i : Nat) : 0 < lm i ∧ lm i ≤ 60 := by unfold lm; split <;> omega
theorem ln_pos {i : Nat} (h : i < 10) : 0 < hLen (lc i + 1) := by rw [ln_len h]; exact (lm_pos i).1
/-- lineAt in the rows' and the texts' array -/
theorem p5_rowAt (s : ST) {x : Int32} {i : Nat} (h : i < 6) (hx : x = nI i) : f_X5_lineAt (some 1) x (HP s) = some (some (lc i), HP s) := by
  subst hx
  match i, h with
  | 0, _ | 1, _ | 2, _ | 3, _ | 4, _ | 5, _ => rfl
  | i + 6, h => exact absurd h (by omega)
theorem p5_rowNo (s : ST) {x : Int32} (h : x < 0 ∨ nI 6 ≤ x) : f_X5_lineAt (some 1) x (HP s) = some (none, HP s) := by
  unfold f_X5_lineAt
  by_cases h0 : x < 0
  · rw [if_pos h0]
  · rw [if_neg h0]
    have e : lA (HP s) (some 1) = some (nI 6) := rfl
    rw [e, Option.bind_some, if_pos (h.resolve_left h0)]
theorem p5_textAt (s : ST) {x : Int32} {i : Nat} (h : i < 4) (hx : x = nI i) : f_X5_lineAt (some 2) x (HP s) = some (some (lc (6 + i)), HP s) := by
  subst hx
  match i, h with
  | 0, _ | 1, _ | 2, _ | 3, _ => rfl
  | i + 4, h => exact absurd h (by omega)
theorem p5_textNo (s : ST) {x : Int32} (h : x < 0 ∨ nI 4 ≤ x) : f_X5_lineAt (some 2) x (HP s) = some (none, HP s) := by
  unfold f_X5_lineAt
  by_cases h0 : x < 0
  · rw [if_pos h0]
  · rw [if_neg h0]
    have e : lA (HP s) (some 2) = some (nI 4) := rfl
    rw [e, Option.bind_some, if_pos (h.resolve_left h0)]
theorem p2_isMissing (s : ST) {i : Nat} (h : i < 10) : f_X2_isMissing (some (lc i)) (HP s) = some (if 0 ≤ sI s (32 * lc i + 1) then 0 else 1, HP s) := by
  unfold f_X2_isMissing
  rw [ln_z s h, Option.bind_some]
  split <;> rfl
theorem HP_lAn (s : ST) {k : Nat} (h : 0 < hLen k) : lA (HP s) (some k) = some (nI (hLen k)) := HP_lA s h
/-- a place within the size, which is at most the places -/
theorem p2_holds (s : ST) {i n : Nat} (h : i < 10) (hz : sI s (32 * lc i + 1) = nI n) (hn : n ≤ lm i) (x : Int32) : f_X2_holds (some (lc i)) x (HP s) = some (if 0 ≤ x.toInt ∧ x.toInt < n then 1 else 0, HP s) := by
  have hl := lm_pos i
  unfold f_X2_holds
  rcases pk_ix x (n := n) (by omega) with h1 | h1 | ⟨j, h1, rfl⟩
  · rw [if_pos h1, if_neg (by have := toInt_neg h1; omega)]
  · have h2 := toInt_ge (by omega) h1
    rw [if_neg (fun q => by have := toInt_neg q; omega), ln_z s h, Option.bind_some, hz, if_pos h1, if_neg (by omega)]
  · rw [if_neg (nI_pos (by omega)), ln_z s h, Option.bind_some, hz, if_neg (nI_ge h1 (by omega)), ln_p s h, Option.bind_some, HP_lAn s (ln_pos h), Option.bind_some, ln_len h, if_neg (nI_ge (a := j) (b := lm i) (by omega) (by omega)), if_pos (by rw [nI_toInt (by omega)]; omega)]
theorem p2_holdsT (s : ST) {i n j : Nat} (h : i < 10) (hz : sI s (32 * lc i + 1) = nI n) (hn : n ≤ lm i) (hj : j < n) : f_X2_holds (some (lc i)) (nI j) (HP s) = some (1, HP s) := by
  have hl := lm_pos i
  rw [p2_holds s h hz hn, if_pos (by rw [nI_toInt (by omega)]; omega)]
theorem p2_get (s : ST) {i n j : Nat} (h : i < 10) (hz : sI s (32 * lc i + 1) = nI n) (hn : n ≤ lm i) (hj : j < n) : f_X2_get (some (lc i)) (nI j) (HP s) = some (sV s (lc i + 1) j, HP s) := by
  have hl := lm_pos i
  unfold f_X2_get
  rw [if_pos (ln_q s h), p2_holdsT s h hz hn hj, Option.bind_some]
  show (if (1 : Int32) = 0 then _ else _) = _
  rw [if_neg (by decide), ln_p s h, Option.bind_some, HP_gAn s (by rw [ln_len h]; omega) (by omega), Option.bind_some]
theorem p2_set (s : ST) {i n j : Nat} (h : i < 10) (hz : sI s (32 * lc i + 1) = nI n) (hn : n ≤ lm i) (hj : j < n) (v : Int32) : f_X2_set (some (lc i)) (nI j) v (HP s) = some ((), HP (uV s (lc i + 1) j v)) := by
  have hl := lm_pos i
  unfold f_X2_set
  rw [if_pos (ln_q s h), p2_holdsT s h hz hn hj, Option.bind_some]
  show (if (1 : Int32) = 0 then _ else _) = _
  rw [if_neg (by decide), ln_p s h, Option.bind_some, HP_sAn s v (by rw [ln_len h]; omega) (by omega), Option.bind_some]
/-- places from j on, below n, become v -/
def fillV (s : ST) (k : Nat) (v : Int32) : Nat → Nat → ST
  | _, 0 => s
  | j, m + 1 => fillV (uV s k j v) k v (j + 1) m
theorem fillV_I (k : Nat) (v : Int32) : ∀ (m j : Nat) (s : ST), sI (fillV s k v j m) = sI s
  | 0, _, _ => rfl
  | m + 1, j, s => by rw [fillV, fillV_I k v m (j + 1), sI_uV]
theorem fillV_L (k : Nat) (v : Int32) : ∀ (m j : Nat) (s : ST), sL (fillV s k v j m) = sL s
  | 0, _, _ => rfl
  | m + 1, j, s => by rw [fillV, fillV_L k v m (j + 1), sL_uV]
theorem fillV_W (k : Nat) (v : Int32) : ∀ (m j : Nat) (s : ST), sW (fillV s k v j m) = sW s
  | 0, _, _ => rfl
  | m + 1, j, s => by rw [fillV, fillV_W k v m (j + 1), sW_uV]
theorem fillV_ne {k k' : Nat} (h : k' ≠ k) (v : Int32) : ∀ (m j : Nat) (s : ST), sV (fillV s k v j m) k' = sV s k'
  | 0, _, _ => rfl
  | m + 1, j, s => by rw [fillV, fillV_ne h v m (j + 1), sV_uVne h]
theorem fillV_in (k : Nat) (v : Int32) : ∀ (m j : Nat) (s : ST) (i : Nat), sV (fillV s k v j m) k i = if j ≤ i ∧ i < j + m then v else sV s k i
  | 0, j, s, i => by rw [if_neg (by omega)]; rfl
  | m + 1, j, s, i => by
    rw [fillV, fillV_in k v m (j + 1), sV_uV, if_pos rfl]
    by_cases h1 : j + 1 ≤ i ∧ i < j + 1 + m
    · rw [if_pos h1, if_pos (by omega)]
    · rw [if_neg h1]
      by_cases h2 : i = j
      · rw [if_pos h2, if_pos (by omega)]
      · rw [if_neg h2, if_neg (by omega)]
theorem p2_renew_loop {i n : Nat} (h : i < 10) (hn : n ≤ lm i) (v : Int32) : ∀ (m f j : Nat) (s : ST), sI s (32 * lc i + 1) = nI n → j + m = n → m < f → jloop (f_X2_renew_b19 (some (lc i)) v) f (nI j) (HP s) = some (.inr ((), HP (fillV s (lc i + 1) v j m))) := by
  have hl := lm_pos i
  intro m
  induction m with
  | zero =>
    intro f j s hz hj hf
    obtain ⟨f, rfl⟩ : ∃ f', f = f' + 1 := ⟨f - 1, by omega⟩
    rw [jloop]
    unfold f_X2_renew_b19
    rw [ln_z s h, Option.bind_some, hz, if_pos (nI_le (by omega) (by omega))]
    rfl
  | succ m ih =>
    intro f j s hz hj hf
    obtain ⟨f, rfl⟩ : ∃ f', f = f' + 1 := ⟨f - 1, by omega⟩
    rw [jloop]
    unfold f_X2_renew_b19
    rw [ln_z s h, Option.bind_some, hz, if_neg (nI_ge (by omega) (by omega)), if_pos (ln_q s h), p2_set s h hz hn (by omega), Option.bind_some]
    show jloop (f_X2_renew_b19 (some (lc i)) v) f (nI j + 1) (HP (uV s (lc i + 1) j v)) = _
    rw [nI_1, ih f (j + 1) (uV s (lc i + 1) j v) (by rw [sI_uV]; exact hz) (by omega) (by omega)]
    rfl
def renew (s : ST) (i n : Nat) (v : Int32) : ST := fillV (uI s (32 * lc i + 1) (nI n)) (lc i + 1) v 0 n
theorem p2_renew (s : ST) {i n : Nat} (h : i < 10) (hn : n ≤ lm i) (v : Int32) : f_X2_renew (some (lc i)) (nI n) v (HP s) = some ((), HP (renew s i n v)) := by
  have hl := lm_pos i
  unfold f_X2_renew
  have e1 : ¬ nI (lm i) < nI n := nI_nlt hn (by omega)
  have e2 : (if 0 < (if nI (lm i) < nI n then nI (lm i) else nI n) then (if nI (lm i) < nI n then nI (lm i) else nI n) else 0) = nI n := by
    rw [if_neg e1]
    by_cases h0 : n = 0
    · subst h0; rfl
    · exact if_pos (nI_lt (a := 0) (b := n) (by omega) (by omega))
  rw [ln_p s h, Option.bind_some, HP_lAn s (ln_pos h), Option.bind_some, ln_len h]
  show (sF (HP s) (some (lc i)) 2 1 (.inl (if 0 < (if nI (lm i) < nI n then nI (lm i) else nI n) then (if nI (lm i) < nI n then nI (lm i) else nI n) else 0))).bind _ = _
  rw [e2, ln_s s h, Option.bind_some]
  have e3 := p2_renew_loop h hn v n jfuel 0 (uI s (32 * lc i + 1) (nI n)) (by rw [sI_uI, if_pos rfl]) (by omega) (by unfold jfuel; omega)
  rw [show (0 : Int32) = nI 0 from rfl, e3, Option.bind_some]
  rfl
theorem p2_discard (s : ST) {i : Nat} (h : i < 10) : f_X2_discard (some (lc i)) (HP s) = some ((), HP (uI s (32 * lc i + 1) (-1))) := by
  unfold f_X2_discard
  rw [ln_s s h, Option.bind_some]
