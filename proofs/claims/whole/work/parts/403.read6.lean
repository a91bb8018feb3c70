/-! ===== the reference reads ===== -/
def RP (s : ST) (b z : Nat) (a : PSt) (k : Nat) : Prop := sI s 1936 = nI (60 * b) ∧ sI s 1937 = nI k ∧ sI s 1938 = nI z ∧ sI s 1940 = nI a.1 ∧ sI s 1942 = nI a.2.1 ∧ (∀ j, j < a.1 → ∀ c, c < 5 → sV s 71 (5 * j + c) = a.2.2.1 j c) ∧ ∀ j, j < 6 → sV s 72 j = nI (a.2.2.2 j)
theorem RP_pl {s : ST} {b z k k' : Nat} {a : PSt} (h : RP s b z a k) : RP (uI s 1937 (nI k')) b z a k' := ⟨by rw [sI_uI, if_neg (by omega)]; exact h.1, by rw [sI_uI, if_pos rfl], by rw [sI_uI, if_neg (by omega)]; exact h.2.2.1, by rw [sI_uI, if_neg (by omega)]; exact h.2.2.2.1, by rw [sI_uI, if_neg (by omega)]; exact h.2.2.2.2.1, h.2.2.2.2.2.1, h.2.2.2.2.2.2⟩
theorem S_pl {s : ST} {v : Int32} : SameS s (uI s 1937 v) := SameS.uI (by unfold ScI; omega)
theorem g69 (s : ST) {k : Nat} (hk : k < 240) : gA (HP s) (some 69) (nI k) = some (sV s 69 k) := HP_gAn s (show k < hLen 69 from hk) (by omega)
theorem g71 (s : ST) {k : Nat} (hk : k < 30) : gA (HP s) (some 71) (nI k) = some (sV s 71 k) := HP_gAn s (show k < hLen 71 from hk) (by omega)
theorem s71 (s : ST) {k : Nat} (hk : k < 30) (v : Int32) : sA (HP s) (some 71) (nI k) v = some (HP (uV s 71 k v)) := HP_sAn s v (show k < hLen 71 from hk) (by omega)
theorem g72 (s : ST) {k : Nat} (hk : k < 6) : gA (HP s) (some 72) (nI k) = some (sV s 72 k) := HP_gAn s (show k < hLen 72 from hk) (by omega)
theorem s72 (s : ST) {k : Nat} (hk : k < 6) (v : Int32) : sA (HP s) (some 72) (nI k) v = some (HP (uV s 72 k v)) := HP_sAn s v (show k < hLen 72 from hk) (by omega)
theorem here6 {s : ST} {b z k : Nat} {a : PSt} (hb : b < 4) (h : RP s b z a k) (hk : k < 60) : f_X6_here (some 60) (HP s) = some (sV s 69 (60 * b + k), HP s) := by
  simp only [f_X6_here, gR_60_10, gI_60_16, gI_60_17, Option.bind_some, h.1, h.2.1, nI_add, g69 s (show 60 * b + k < 240 by omega)]
theorem fig6 {s : ST} {b z k lo hi : Nat} {a : PSt} (hb : b < 4) (h : RP s b z a k) (hz : z ≤ 60) (hk : k ≤ z) (hlo : lo ≤ 9) (hhi : hi ≤ 9) : f_X6_figure (some 60) (nI lo) (nI hi) (HP s) = match fg (fun p => sV s 69 (60 * b + p)) z k lo hi with
    | none => some (-9, HP s)
    | some d => some (nI d, HP (uI s 1937 (nI (k + 1)))) := by
  unfold fg
  by_cases c : k < z
  · rw [if_pos c]
    have ne : ¬ nI k = nI z := fun q => by have := (nI_eq (by omega) (by omega)).mp q; omega
    · have el : (48 : Int32) + nI lo = nI (48 + lo) := nI_add 48 lo
      have eh : (48 : Int32) + nI hi = nI (48 + hi) := nI_add 48 hi
      have tl : (Int32.toInt64 (nI (48 + lo))).toInt = ((48 + lo : Nat) : Int) := by rw [Int32.toInt_toInt64, nI_toInt (by omega)]
      have th : (Int32.toInt64 (nI (48 + hi))).toInt = ((48 + hi : Nat) : Int) := by rw [Int32.toInt_toInt64, nI_toInt (by omega)]
      have e16 : sI (uI s 1937 (nI (k + 1))) 1936 = nI (60 * b) := by rw [sI_uI, if_neg (by omega)]; exact h.1
      have e17 : sI (uI s 1937 (nI (k + 1))) 1937 = nI (k + 1) := by rw [sI_uI, if_pos rfl]
      have ep : nI (60 * b + (k + 1)) - 1 = nI (60 * b + k) := nI_pred (60 * b + k)
      simp only [f_X6_figure, gI_60_17, gI_60_18, Option.bind_some, h.2.1, h.2.2.1, ne, if_false, qO_60, if_true, here6 hb h (show k < 60 by omega), el, eh, p6_inI, tl, th, nI_1, sF_60_17, gR_60_10, gI_60_16, e16, e17, nI_add, ep, g69 _ (show 60 * b + k < 240 by omega), sV_uI]
      rcases figV_spec (sV s 69 (60 * b + k)) lo hi with ⟨d, hd, e1, e2, e3⟩ | ⟨e1, -, e2⟩
      · rw [e3, e2, e1, nI_toInt (by omega)]
        by_cases c2 : lo ≤ d ∧ d ≤ hi
        · rw [if_pos (show ((48 + lo : Nat) : Int) ≤ ((48 + d : Nat) : Int) ∧ ((48 + d : Nat) : Int) ≤ ((48 + hi : Nat) : Int) by omega), if_pos c2]
          simp only [n10, if_false]
        · rw [if_neg (show ¬ (((48 + lo : Nat) : Int) ≤ ((48 + d : Nat) : Int) ∧ ((48 + d : Nat) : Int) ≤ ((48 + hi : Nat) : Int)) by omega), if_neg c2]
          simp only [if_true]
      · rw [e1, if_neg (show ¬ (((48 + lo : Nat) : Int) ≤ (sV s 69 (60 * b + k)).toInt ∧ (sV s 69 (60 * b + k)).toInt ≤ ((48 + hi : Nat) : Int)) by omega)]
        simp only [if_true]
  · rw [if_neg c]
    have e : k = z := by omega
    subst e
    simp only [f_X6_figure, gI_60_17, gI_60_18, Option.bind_some, h.2.1, h.2.2.1, if_true]
theorem kl6 (w : Int32) (ah : AH) : f_X6_kindOfLetter w ah = some (oI (kdF w 6 0) (-9), ah) := by
  have j0 : jlet 0 = 112 := rfl
  have j1 : jlet 1 = 122 := rfl
  have j2 : jlet 2 = 115 := rfl
  have j3 : jlet 3 = 104 := rfl
  have j4 : jlet 4 = 119 := rfl
  have j5 : jlet 5 = 108 := rfl
  simp only [f_X6_kindOfLetter, kdF, j0, j1, j2, j3, j4, j5, eq_comm (a := w)]
  by_cases c0 : (112 : Int32) = w
  · simp only [c0, if_true, oI]; rfl
  · by_cases c1 : (122 : Int32) = w
    · simp only [c0, c1, if_true, if_false, oI]; rfl
    · by_cases c2 : (115 : Int32) = w
      · simp only [c0, c1, c2, if_true, if_false, oI]; rfl
      · by_cases c3 : (104 : Int32) = w
        · simp only [c0, c1, c2, c3, if_true, if_false, oI]; rfl
        · by_cases c4 : (119 : Int32) = w
          · simp only [c0, c1, c2, c3, c4, if_true, if_false, oI]; rfl
          · by_cases c5 : (108 : Int32) = w
            · simp only [c0, c1, c2, c3, c4, c5, if_true, if_false, oI]; rfl
            · simp only [c0, c1, c2, c3, c4, c5, if_false, oI]
