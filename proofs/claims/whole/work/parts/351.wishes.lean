/-! ===== wishes ===== -/
def wj (x y : Int32) : Int32 := if 0 < x then 0 else if 0 < y then 0 else if 0 ≤ x + y then 0 else 1
/-- what it changes for p's VICTIM if q has it -/
def wd (s : ST) (p q : Nat) : Int32 := if sV s 61 (1 + p) = -9 then 0 else nI (str s q (sV s 61 (1 + p)).toNatClampNeg) - nI (str s p (sV s 61 (1 + p)).toNatClampNeg)
def wsh (s : ST) (p q : Nat) : Int32 := if sV s 61 (1 + p) = nI q then 0 else if sV s 61 (1 + q) = nI p then 0 else wj (wd s p q) (wd s q p)
theorem j95 (x y : Int32) (ah : AH) : f_X5_isWish_j95 x y ah = some (wj x y, ah) := by
  unfold f_X5_isWish_j95 wj
  split
  · rfl
  · split
    · rfl
    · split <;> rfl
theorem j84 (x y : Int32) (ah : AH) : f_X6_wish_j84 x y ah = some (wj x y, ah) := by
  unfold f_X6_wish_j84 wj
  split
  · rfl
  · split
    · rfl
    · split <;> rfl
theorem p5_wish {s : ST} {n p q : Nat} (hF : InvF s n) (hT : InvT s n 5 0) (hp : p < n) (hq : q < n) : f_X5_isWish (some 0) (nI p) (nI q) (HP s) = some (wsh s p q, HP s) := by
  have h6 := hF.le
  obtain ⟨t, ht, hs, -, hS, -⟩ := hT.t
  have ep : sV s 6 (6 * t + p) = sV s 61 (1 + p) := (hS.1 p hp).1
  have eq : sV s 6 (6 * t + q) = sV s 61 (1 + q) := (hS.1 q hq).1
  simp only [f_X5_isWish, f_X5_isWish_j61, gR_0_3, Option.bind_some, qO_5, if_true, p4_victimOf ht hs (show p < 6 by omega), p4_victimOf ht hs (show q < 6 by omega), ep, eq, j95, gR_0_8, fk_q, wsh, wd]
  by_cases c1 : sV s 61 (1 + p) = nI q
  · simp only [c1, if_true]
  by_cases c2 : sV s 61 (1 + q) = nI p
  · simp only [c1, c2, if_true, if_false]
  simp only [c1, c2, if_false]
  rcases (hS.1 p hp).2 with h | ⟨k, hk, -, h⟩
  · rcases (hS.1 q hq).2 with h2 | ⟨k2, hk2, -, h2⟩
    · simp only [h, h2, if_true]
    · simp only [h, if_true, h2, if_neg (nI_n9 (show k2 < 2 ^ 31 by omega)), p1_str hF hp hk2, p1_str hF hq hk2, Option.bind_some, nI_clamp (show k2 < 2 ^ 31 by omega), gR_0_8, fk_q, j95]
  · rcases (hS.1 q hq).2 with h2 | ⟨k2, hk2, -, h2⟩
    · simp only [h, h2, if_true, if_neg (nI_n9 (show k < 2 ^ 31 by omega)), p1_str hF hp hk, p1_str hF hq hk, Option.bind_some, nI_clamp (show k < 2 ^ 31 by omega), gR_0_8, fk_q, j95]
    · simp only [h, h2, if_true, if_neg (nI_n9 (show k < 2 ^ 31 by omega)), if_neg (nI_n9 (show k2 < 2 ^ 31 by omega)), p1_str hF hp hk, p1_str hF hq hk, p1_str hF hp hk2, p1_str hF hq hk2, Option.bind_some, nI_clamp (show k < 2 ^ 31 by omega), nI_clamp (show k2 < 2 ^ 31 by omega), gR_0_8, fk_q, j95]
theorem p6_wish {s : ST} {n t p q : Nat} (hF : InvF s n) (hS : InvS s n 6 7 8 t 1) (hp : p < n) (hq : q < n) : f_X6_wish (some 60) (nI p) (nI q) (HP s) = some (wsh s p q, HP s) := by
  have h6 := hF.le
  simp only [f_X6_wish, f_X6_wish_j56, qO_60, if_true, p6_victim s (show p < 6 by omega), p6_victim s (show q < 6 by omega), Option.bind_some, j84, wsh, wd]
  by_cases c1 : sV s 61 (1 + p) = nI q
  · simp only [c1, if_true]
  by_cases c2 : sV s 61 (1 + q) = nI p
  · simp only [c1, c2, if_true, if_false]
  simp only [c1, c2, if_false]
  rcases (hS.1 p hp).2 with h | ⟨k, hk, -, h⟩
  · rcases (hS.1 q hq).2 with h2 | ⟨k2, hk2, -, h2⟩
    · simp only [h, h2, if_true]
    · simp only [h, if_true, h2, if_neg (nI_n9 (show k2 < 2 ^ 31 by omega)), p6_str hF hp hk2, p6_str hF hq hk2, Option.bind_some, nI_clamp (show k2 < 2 ^ 31 by omega), qO_60, j84]
  · rcases (hS.1 q hq).2 with h2 | ⟨k2, hk2, -, h2⟩
    · simp only [h, h2, if_true, if_neg (nI_n9 (show k < 2 ^ 31 by omega)), p6_str hF hp hk, p6_str hF hq hk, Option.bind_some, nI_clamp (show k < 2 ^ 31 by omega), qO_60, j84]
    · simp only [h, h2, if_true, if_neg (nI_n9 (show k < 2 ^ 31 by omega)), if_neg (nI_n9 (show k2 < 2 ^ 31 by omega)), p6_str hF hp hk, p6_str hF hq hk, p6_str hF hp hk2, p6_str hF hq hk2, Option.bind_some, nI_clamp (show k < 2 ^ 31 by omega), nI_clamp (show k2 < 2 ^ 31 by omega), qO_60, j84]
/-- how many, and the first, of those p wishes with q -/
def wqF (s : ST) (p q : Nat) (a : Nat × Int32) : Nat × Int32 := if wsh s p q = 0 then a else (a.1 + 1, if a.2 = -9 then nI (6 * p + q) else a.2)
def wqF' (s : ST) (p q : Nat) (a : Nat × Int32) : Nat × Int32 := wqF s p (p + 1 + q) a
def wpF (s : ST) (n p : Nat) (a : Nat × Int32) : Nat × Int32 := fold (wqF s p) (n - (p + 1)) (p + 1) a
def wOk (m : Nat) (a : Nat × Int32) : Prop := a.1 ≤ m ∧ (a.1 = 0 ↔ a.2 = -9)
theorem wq_ok {s : ST} {p q m : Nat} {a : Nat × Int32} (hp : p < 6) (hq : q < 6) (h : wOk m a) : wOk (m + 1) (wqF s p q a) := by
  unfold wqF wOk at *
  split
  · exact ⟨by omega, h.2⟩
  · refine ⟨by show a.1 + 1 ≤ m + 1; omega, ⟨fun e => absurd e (Nat.succ_ne_zero _), fun e => ?_⟩⟩
    change (if a.2 = -9 then nI (6 * p + q) else a.2) = -9 at e
    split at e
    · exact absurd e (nI_n9 (by omega))
    · contradiction
theorem e6 (p q : Nat) : 6 * nI p + nI q = nI (6 * p + q) := by
  rw [← nI_add, ← pk_mul]
  rfl
theorem ag_wishes {s : ST} (hI : Inv s) : ∃ (v : Int32) (s1 s2 : ST), f_X5_wishes (some 0) (HP s) = some (v, HP s1) ∧ f_X6_wishes (some 60) (HP s1) = some (v, HP s2) ∧ Inv s2 := by
  obtain ⟨n, hF, hT, hK⟩ := hI.1
  have h6 := hF.le
  obtain ⟨t, ht, hs, -, hS, -⟩ := hT.t
  by_cases hn : n = 0
  · subst hn
    refine ⟨-4, s, s, ?_, ?_, hI⟩
    · simp only [f_X5_wishes, gR_0_8, Option.bind_some, fk_n, hF.2.2.1]
      rfl
    · simp only [f_X6_wishes, gI_60_1, Option.bind_some, hF.2.1]
      rfl
  have i5 : ∀ p, p < n → ∀ a, wOk (6 * p) a → jloop (f_X5_wishes_b36 (some 0) (nI p)) jfuel (nI a.1, a.2, nI (p + 1)) (HP s) = some (.inr ((nI (wpF s n p a).1, (wpF s n p a).2), HP s)) ∧ wOk (6 * (p + 1)) (wpF s n p a) := by
    intro p hp a ha
    have := jfoldH (body := f_X5_wishes_b36 (some 0) (nI p)) (n := n) (fun (a : Nat × Int32) j => (nI a.1, a.2, nI j)) (fun a => (nI a.1, a.2)) (fun _ => HP s) (wqF s p) (fun j a => p + 1 ≤ j ∧ wOk (6 * p + (j - (p + 1))) a) (fun j a hj h => ⟨by omega, by have := wq_ok (s := s) (show p < 6 by omega) (show j < 6 by omega) h.2; rwa [show 6 * p + (j - (p + 1)) + 1 = 6 * p + (j + 1 - (p + 1)) by omega] at this⟩) (fun a _ => by
        simp only [f_X5_wishes_b36, gR_0_8, Option.bind_some, fk_n, hF.2.2.1, if_pos (nI_le (Nat.le_refl n) (show n < 2 ^ 31 by omega))]) (fun j a hj h => by
        simp only [f_X5_wishes_b36, gR_0_8, Option.bind_some, fk_n, hF.2.2.1, if_neg (nI_ge hj (show n < 2 ^ 31 by omega)), qO_0, if_true, p5_wish hF hT hp hj, nI_1, e6, wqF]
        by_cases c1 : wsh s p j = 0
        · simp only [c1, if_true]
        · by_cases c2 : a.2 = -9
          · simp only [c1, c2, if_true, if_false]
          · simp only [c1, c2, if_false]) (n - (p + 1)) jfuel (p + 1) a (by omega) (by unfold jfuel; omega) ⟨by omega, by rwa [show 6 * p + (p + 1 - (p + 1)) = 6 * p by omega]⟩
    refine ⟨this.1, ?_⟩
    have h := this.2.2
    unfold wOk at h ⊢
    exact ⟨by have := h.1; unfold wpF; omega, h.2⟩
  have l5 := jfoldH (body := f_X5_wishes_b20 (some 0)) (n := n) (fun (a : Nat × Int32) j => (nI a.1, a.2, nI j)) (fun a => (nI a.1, a.2)) (fun _ => HP s) (wpF s n) (fun j a => wOk (6 * j) a) (fun j a hj h => (i5 j hj a h).2) (fun a _ => by
        simp only [f_X5_wishes_b20, gR_0_8, Option.bind_some, fk_n, hF.2.2.1, if_pos (nI_le (Nat.le_refl n) (show n < 2 ^ 31 by omega))]) (fun j a hj h => by
        simp only [f_X5_wishes_b20, gR_0_8, Option.bind_some, fk_n, hF.2.2.1, if_neg (nI_ge hj (show n < 2 ^ 31 by omega)), nI_1, (i5 j hj a h).1]) n jfuel 0 (0, -9) (by omega) (by unfold jfuel; omega) ⟨by omega, by simp⟩
  have i6 : ∀ w p, p < n → ∀ a, wOk (6 * p) a → jloop (f_X6_wishes_b32 (some 60) (nI p)) jfuel (nI a.1, nI (p + 1)) (HP (uI (uI s 11 w) 1931 a.2)) = some (.inr (nI (wpF s n p a).1, HP (uI (uI s 11 w) 1931 (wpF s n p a).2))) ∧ wOk (6 * (p + 1)) (wpF s n p a) := by
    intro w p hp a ha
    have := jfoldH (body := f_X6_wishes_b32 (some 60) (nI p)) (n := n) (fun (a : Nat × Int32) j => (nI a.1, nI j)) (fun a => nI a.1) (fun a => HP (uI (uI s 11 w) 1931 a.2)) (wqF s p) (fun j a => p + 1 ≤ j ∧ wOk (6 * p + (j - (p + 1))) a) (fun j a hj h => ⟨by omega, by have := wq_ok (s := s) (show p < 6 by omega) (show j < 6 by omega) h.2; rwa [show 6 * p + (j - (p + 1)) + 1 = 6 * p + (j + 1 - (p + 1)) by omega] at this⟩) (fun a _ => by
        simp only [f_X6_wishes_b32, gI_60_1, Option.bind_some, sI_uI, if_neg (show ¬ 1921 = 1931 by omega), if_neg (show ¬ 1921 = 11 by omega), hF.2.1, if_pos (nI_le (Nat.le_refl n) (show n < 2 ^ 31 by omega))]) (fun j a hj h => by
        have hF' : InvF (uI (uI s 11 w) 1931 a.2) n := InvF_same ((SameT.uI (by unfold IdT; omega)).trans (SameT.uI (by unfold IdT; omega))) hF
        have hS' : InvS (uI (uI s 11 w) 1931 a.2) n 6 7 8 t 1 := hS
        have ew : wsh (uI (uI s 11 w) 1931 a.2) p j = wsh s p j := rfl
        have hb := h.2.1
        have hz := h.2.2
        have ez : (nI a.1 = 0) = (a.2 = -9) := (nI_z (by omega)).trans (propext hz)
        have eu : ∀ y, uI (uI (uI s 11 w) 1931 a.2) 1931 y = uI (uI s 11 w) 1931 y := fun y => by
          unfold uI
          simp only [Prod.mk.injEq, and_true]
          funext k
          by_cases hk : k = 1931 <;> simp [hk]
        simp only [f_X6_wishes_b32, f_X6_wishes_b32_j67, f_X6_wishes_b32_j71, gI_60_1, gI_60_11, sF_60_11, Option.bind_some, sI_uI, if_neg (show ¬ 1921 = 1931 by omega), if_neg (show ¬ 1921 = 11 by omega), hF.2.1, if_neg (nI_ge hj (show n < 2 ^ 31 by omega)), qO_60, if_true, p6_wish hF' hS' hp hj, ew, nI_1, e6, wqF, ez, eu, Int32.add_zero]
        by_cases c1 : wsh s p j = 0
        · simp only [c1, if_true]
        · by_cases c2 : a.2 = -9
          · simp only [c1, c2, if_true, if_false]
          · simp only [c1, c2, if_false]) (n - (p + 1)) jfuel (p + 1) a (by omega) (by unfold jfuel; omega) ⟨by omega, by rwa [show 6 * p + (p + 1 - (p + 1)) = 6 * p by omega]⟩
    refine ⟨this.1, ?_⟩
    have h := this.2.2
    unfold wOk at h ⊢
    exact ⟨by have := h.1; unfold wpF; omega, h.2⟩
  have l6 := fun w => jfoldH (body := f_X6_wishes_b20 (some 60)) (n := n) (fun (a : Nat × Int32) j => (nI a.1, nI j)) (fun a => nI a.1) (fun a => HP (uI (uI s 11 w) 1931 a.2)) (wpF s n) (fun j a => wOk (6 * j) a) (fun j a hj h => (i5 j hj a h).2) (fun a _ => by
        simp only [f_X6_wishes_b20, gI_60_1, Option.bind_some, sI_uI, if_neg (show ¬ 1921 = 1931 by omega), if_neg (show ¬ 1921 = 11 by omega), hF.2.1, if_pos (nI_le (Nat.le_refl n) (show n < 2 ^ 31 by omega))]) (fun j a hj h => by
        simp only [f_X6_wishes_b20, gI_60_1, Option.bind_some, sI_uI, if_neg (show ¬ 1921 = 1931 by omega), if_neg (show ¬ 1921 = 11 by omega), hF.2.1, if_neg (nI_ge hj (show n < 2 ^ 31 by omega)), nI_1, (i6 w j hj a h).1]) n jfuel 0 (0, -9) (by omega) (by unfold jfuel; omega) ⟨by omega, by simp⟩
  have m5 := l5.1
  have m6 := fun w => (l6 w).1
  generalize fold (wpF s n) n 0 (0, -9) = r at m5 m6
  have m5 : jloop (f_X5_wishes_b20 (some 0)) jfuel (0, -9, 0) (HP s) = some (.inr ((nI r.1, r.2), HP s)) := m5
  have m6 : jloop (f_X6_wishes_b20 (some 60)) jfuel (0, 0) (HP (uI (uI s 11 r.2) 1931 (-9))) = some (.inr (nI r.1, HP (uI (uI s 11 r.2) 1931 r.2))) := m6 r.2
  refine ⟨nI r.1, uI s 11 r.2, uI (uI s 11 r.2) 1931 r.2, ?_, ?_, inv_tell hI r.2⟩
  · simp only [f_X5_wishes, gR_0_8, Option.bind_some, fk_n, hF.2.2.1, n_eq0 h6, hn, if_false, m5, sF_0_11]
  · simp only [f_X6_wishes, gI_60_1, Option.bind_some, sI_uI, if_neg (show ¬ 1921 = 11 by omega), hF.2.1, n_eq0 h6, hn, if_false, sF_60_11, m6]
