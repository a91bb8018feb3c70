/-! ===== the heap of both objects, out of ints, longs and arrays by number ===== -/
def aL (n : Nat) (f : Nat → Int32) : List Int32 := (List.range n).map f
def fA (sw : Bool) : Nat := if sw then 22 else 16
def dA (sw : Bool) : Nat := if sw then 16 else 22
/-- the stores: ints by 32 times the cell and the field, longs, arrays by their cells, which of the two folks is now -/
abbrev ST : Type := (Nat → Int32) × (Nat → Int64) × (Nat → Nat → Int32) × Bool
def sI (s : ST) : Nat → Int32 := s.1
def sL (s : ST) : Nat → Int64 := s.2.1
def sV (s : ST) : Nat → Nat → Int32 := s.2.2.1
def sW (s : ST) : Bool := s.2.2.2
def HQ (iv : Nat → Int32) (lv : Nat → Int64) (av : Nat → Nat → Int32) (sw : Bool) : AH := [
.inr (.inr (5, [.inr (.inr (.inl (some 1))), .inr (.inr (.inl (some 2))), .inr (.inr (.inl (some 3))), .inr (.inr (.inl (some 5))), .inr (.inr (.inl (some 9))), .inr (.inr (.inl (some 10))), .inr (.inr (.inl (some 14))), .inr (.inr (.inl (some 15))), .inr (.inr (.inl (some (fA sw)))), .inr (.inr (.inl (some (dA sw)))), .inl (iv 10), .inl (iv 11), .inr (.inl (lv 0)), .inr (.inl (lv 1))])),
  .inr (.inl (0, [some 28, some 30, some 32, some 34, some 36, some 38])),
  .inr (.inl (0, [some 40, some 42, some 44, some 46])),
  .inr (.inr (3, [.inr (.inr (.inl (some 4)))])),
  .inl (aL 6 (av 4)),
  .inr (.inr (4, [.inr (.inr (.inl (some 6))), .inr (.inr (.inl (some 7))), .inr (.inr (.inl (some 8))), .inl (iv 163), .inl (iv 164)])),
  .inl (aL 246 (av 6)),
  .inl (aL 246 (av 7)),
  .inl (aL 246 (av 8)),
  .inr (.inl (1, [some 48, some 52, some 56])),
  .inr (.inr (0, [.inr (.inr (.inl (some 11))), .inr (.inr (.inl (some 12))), .inr (.inr (.inl (some 13))), .inl (iv 323), .inl (iv 324)])),
  .inl (aL 320 (av 11)),
  .inl (aL 6 (av 12)),
  .inl (aL 64 (av 13)),
  .inl (aL 6 (av 14)),
  .inl (aL 6 (av 15)),
  .inr (.inr (1, [.inr (.inr (.inl (some 17))), .inr (.inr (.inl (some 18))), .inr (.inr (.inl (some 19))), .inr (.inr (.inl (some 20))), .inr (.inr (.inl (some 21))), .inl (iv 517), .inl (iv 518)])),
  .inl (aL 6 (av 17)),
  .inl (aL 6 (av 18)),
  .inl (aL 6 (av 19)),
  .inl (aL 6 (av 20)),
  .inl (aL 6 (av 21)),
  .inr (.inr (1, [.inr (.inr (.inl (some 23))), .inr (.inr (.inl (some 24))), .inr (.inr (.inl (some 25))), .inr (.inr (.inl (some 26))), .inr (.inr (.inl (some 27))), .inl (iv 709), .inl (iv 710)])),
  .inl (aL 6 (av 23)),
  .inl (aL 6 (av 24)),
  .inl (aL 6 (av 25)),
  .inl (aL 6 (av 26)),
  .inl (aL 6 (av 27)),
  .inr (.inr (2, [.inr (.inr (.inl (some 29))), .inl (iv 897)])),
  .inl (aL 40 (av 29)),
  .inr (.inr (2, [.inr (.inr (.inl (some 31))), .inl (iv 961)])),
  .inl (aL 40 (av 31)),
  .inr (.inr (2, [.inr (.inr (.inl (some 33))), .inl (iv 1025)])),
  .inl (aL 40 (av 33)),
  .inr (.inr (2, [.inr (.inr (.inl (some 35))), .inl (iv 1089)])),
  .inl (aL 40 (av 35)),
  .inr (.inr (2, [.inr (.inr (.inl (some 37))), .inl (iv 1153)])),
  .inl (aL 40 (av 37)),
  .inr (.inr (2, [.inr (.inr (.inl (some 39))), .inl (iv 1217)])),
  .inl (aL 40 (av 39)),
  .inr (.inr (2, [.inr (.inr (.inl (some 41))), .inl (iv 1281)])),
  .inl (aL 60 (av 41)),
  .inr (.inr (2, [.inr (.inr (.inl (some 43))), .inl (iv 1345)])),
  .inl (aL 60 (av 43)),
  .inr (.inr (2, [.inr (.inr (.inl (some 45))), .inl (iv 1409)])),
  .inl (aL 60 (av 45)),
  .inr (.inr (2, [.inr (.inr (.inl (some 47))), .inl (iv 1473)])),
  .inl (aL 60 (av 47)),
  .inr (.inr (4, [.inr (.inr (.inl (some 49))), .inr (.inr (.inl (some 50))), .inr (.inr (.inl (some 51))), .inl (iv 1539), .inl (iv 1540)])),
  .inl (aL 246 (av 49)),
  .inl (aL 246 (av 50)),
  .inl (aL 246 (av 51)),
  .inr (.inr (4, [.inr (.inr (.inl (some 53))), .inr (.inr (.inl (some 54))), .inr (.inr (.inl (some 55))), .inl (iv 1667), .inl (iv 1668)])),
  .inl (aL 246 (av 53)),
  .inl (aL 246 (av 54)),
  .inl (aL 246 (av 55)),
  .inr (.inr (4, [.inr (.inr (.inl (some 57))), .inr (.inr (.inl (some 58))), .inr (.inr (.inl (some 59))), .inl (iv 1795), .inl (iv 1796)])),
  .inl (aL 246 (av 57)),
  .inl (aL 246 (av 58)),
  .inl (aL 246 (av 59)),
  .inr (.inr (6, [.inr (.inr (.inl (some 61))), .inl (iv 1921), .inr (.inr (.inl (some 62))), .inr (.inr (.inl (some 63))), .inr (.inr (.inl (some 64))), .inr (.inr (.inl (some 65))), .inl (iv 1926), .inr (.inr (.inl (some 66))), .inr (.inr (.inl (some 67))), .inr (.inr (.inl (some 68))), .inr (.inr (.inl (some 69))), .inl (iv 1931), .inr (.inl (lv 2)), .inr (.inl (lv 3)), .inl (iv 1934), .inr (.inr (.inl (some 70))), .inl (iv 1936), .inl (iv 1937), .inl (iv 1938), .inr (.inr (.inl (some 71))), .inl (iv 1940), .inr (.inr (.inl (some 72))), .inl (iv 1942), .inr (.inr (.inl (some 73))), .inr (.inr (.inl (some 74))), .inr (.inr (.inl (some 75))), .inl (iv 1946), .inr (.inr (.inl (some 76)))])),
  .inl (aL 3120 (av 61)),
  .inl (aL 6 (av 62)),
  .inl (aL 6 (av 63)),
  .inl (aL 6 (av 64)),
  .inl (aL 6 (av 65)),
  .inl (aL 6 (av 66)),
  .inl (aL 240 (av 67)),
  .inl (aL 4 (av 68)),
  .inl (aL 240 (av 69)),
  .inl (aL 6 (av 70)),
  .inl (aL 30 (av 71)),
  .inl (aL 6 (av 72)),
  .inl (aL 6 (av 73)),
  .inl (aL 6 (av 74)),
  .inl (aL 265 (av 75)),
  .inl (aL 64 (av 76))]
def HP (s : ST) : AH := HQ s.1 s.2.1 s.2.2.1 s.2.2.2
def uI (s : ST) (k : Nat) (v : Int32) : ST := (fun j => if j = k then v else s.1 j, s.2.1, s.2.2.1, s.2.2.2)
def uL (s : ST) (k : Nat) (v : Int64) : ST := (s.1, fun j => if j = k then v else s.2.1 j, s.2.2.1, s.2.2.2)
def uV (s : ST) (k i : Nat) (v : Int32) : ST := (s.1, s.2.1, fun j => if j = k then (fun n => if n = i then v else s.2.2.1 k n) else s.2.2.1 j, s.2.2.2)
/-- a whole array -/
def uA (s : ST) (k : Nat) (f : Nat → Int32) : ST := (s.1, s.2.1, fun j => if j = k then f else s.2.2.1 j, s.2.2.2)
def uS (s : ST) (b : Bool) : ST := (s.1, s.2.1, s.2.2.1, b)
theorem aL_len (n : Nat) (f : Nat → Int32) : (aL n f).length = n := by simp [aL]
theorem aL_get {n : Nat} {f : Nat → Int32} {i : Nat} (h : i < n) : (aL n f)[i]? = some (f i) := by
  simp [aL, h]
theorem aL_none {n : Nat} {f : Nat → Int32} {i : Nat} (h : ¬ i < n) : (aL n f)[i]? = none := by
  simp [aL]; omega
theorem aL_set (n : Nat) (f : Nat → Int32) (i : Nat) (v : Int32) : (aL n f).set i v = aL n (fun j => if j = i then v else f j) := by
  apply List.ext_getElem?
  intro j
  simp only [aL, List.getElem?_set, List.getElem?_map, List.length_map, List.length_range]
  by_cases h : i = j
  · subst h
    by_cases h2 : i < n
    · simp [h2]
    · simp [h2]
  · by_cases h2 : j < n
    · simp [h, h2, Ne.symm h]
    · simp [h, h2]
theorem HP_len (s : ST) : (HP s).length = 77 := rfl
/-- an array's length, by its cell -/
def hLen (k : Nat) : Nat := [
0, 0, 0, 0, 6, 0, 246, 246, 246, 0, 0, 320, 6, 64, 6, 6, 0, 6, 6, 6, 6, 6, 0, 6, 6, 6, 6, 6, 0, 40, 0, 40, 0, 40, 0, 40, 0, 40, 0, 40, 0, 60, 0, 60, 0, 60, 0, 60, 0, 246, 246, 246, 0, 246, 246, 246, 0, 246, 246, 246, 0, 3120, 6, 6, 6, 6, 6, 240, 4, 240, 6, 30, 6, 6, 6, 265, 64].getD k 0
/-- a cell that is an array of ints -/
def hIs (k : Nat) : Prop := 0 < hLen k
theorem HP_arr (s : ST) {k : Nat} (h : 0 < hLen k) : (HP s)[k]? = some (.inl (aL (hLen k) (sV s k))) := by
  match k, h with
  | 0, h => exact absurd h (by decide)
  | 1, h => exact absurd h (by decide)
  | 2, h => exact absurd h (by decide)
  | 3, h => exact absurd h (by decide)
  | 4, _ => rfl
  | 5, h => exact absurd h (by decide)
  | 6, _ => rfl
  | 7, _ => rfl
  | 8, _ => rfl
  | 9, h => exact absurd h (by decide)
  | 10, h => exact absurd h (by decide)
  | 11, _ => rfl
  | 12, _ => rfl
  | 13, _ => rfl
  | 14, _ => rfl
  | 15, _ => rfl
  | 16, h => exact absurd h (by decide)
  | 17, _ => rfl
  | 18, _ => rfl
  | 19, _ => rfl
  | 20, _ => rfl
  | 21, _ => rfl
  | 22, h => exact absurd h (by decide)
  | 23, _ => rfl
  | 24, _ => rfl
  | 25, _ => rfl
  | 26, _ => rfl
  | 27, _ => rfl
  | 28, h => exact absurd h (by decide)
  | 29, _ => rfl
  | 30, h => exact absurd h (by decide)
  | 31, _ => rfl
  | 32, h => exact absurd h (by decide)
  | 33, _ => rfl
  | 34, h => exact absurd h (by decide)
  | 35, _ => rfl
  | 36, h => exact absurd h (by decide)
  | 37, _ => rfl
  | 38, h => exact absurd h (by decide)
  | 39, _ => rfl
  | 40, h => exact absurd h (by decide)
  | 41, _ => rfl
  | 42, h => exact absurd h (by decide)
  | 43, _ => rfl
  | 44, h => exact absurd h (by decide)
  | 45, _ => rfl
  | 46, h => exact absurd h (by decide)
  | 47, _ => rfl
  | 48, h => exact absurd h (by decide)
  | 49, _ => rfl
  | 50, _ => rfl
  | 51, _ => rfl
  | 52, h => exact absurd h (by decide)
  | 53, _ => rfl
  | 54, _ => rfl
  | 55, _ => rfl
  | 56, h => exact absurd h (by decide)
  | 57, _ => rfl
  | 58, _ => rfl
  | 59, _ => rfl
  | 60, h => exact absurd h (by decide)
  | 61, _ => rfl
  | 62, _ => rfl
  | 63, _ => rfl
  | 64, _ => rfl
  | 65, _ => rfl
  | 66, _ => rfl
  | 67, _ => rfl
  | 68, _ => rfl
  | 69, _ => rfl
  | 70, _ => rfl
  | 71, _ => rfl
  | 72, _ => rfl
  | 73, _ => rfl
  | 74, _ => rfl
  | 75, _ => rfl
  | 76, _ => rfl
  | k + 77, h => exact absurd h (by simp [hLen])
theorem HP_setA (s : ST) {k : Nat} (h : 0 < hLen k) (f : Nat → Int32) : (HP s).set k (.inl (aL (hLen k) f)) = HP (uA s k f) := by
  match k, h with
  | 0, h => exact absurd h (by decide)
  | 1, h => exact absurd h (by decide)
  | 2, h => exact absurd h (by decide)
  | 3, h => exact absurd h (by decide)
  | 4, _ => rfl
  | 5, h => exact absurd h (by decide)
  | 6, _ => rfl
  | 7, _ => rfl
  | 8, _ => rfl
  | 9, h => exact absurd h (by decide)
  | 10, h => exact absurd h (by decide)
  | 11, _ => rfl
  | 12, _ => rfl
  | 13, _ => rfl
  | 14, _ => rfl
  | 15, _ => rfl
  | 16, h => exact absurd h (by decide)
  | 17, _ => rfl
  | 18, _ => rfl
  | 19, _ => rfl
  | 20, _ => rfl
  | 21, _ => rfl
  | 22, h => exact absurd h (by decide)
  | 23, _ => rfl
  | 24, _ => rfl
  | 25, _ => rfl
  | 26, _ => rfl
  | 27, _ => rfl
  | 28, h => exact absurd h (by decide)
  | 29, _ => rfl
  | 30, h => exact absurd h (by decide)
  | 31, _ => rfl
  | 32, h => exact absurd h (by decide)
  | 33, _ => rfl
  | 34, h => exact absurd h (by decide)
  | 35, _ => rfl
  | 36, h => exact absurd h (by decide)
  | 37, _ => rfl
  | 38, h => exact absurd h (by decide)
  | 39, _ => rfl
  | 40, h => exact absurd h (by decide)
  | 41, _ => rfl
  | 42, h => exact absurd h (by decide)
  | 43, _ => rfl
  | 44, h => exact absurd h (by decide)
  | 45, _ => rfl
  | 46, h => exact absurd h (by decide)
  | 47, _ => rfl
  | 48, h => exact absurd h (by decide)
  | 49, _ => rfl
  | 50, _ => rfl
  | 51, _ => rfl
  | 52, h => exact absurd h (by decide)
  | 53, _ => rfl
  | 54, _ => rfl
  | 55, _ => rfl
  | 56, h => exact absurd h (by decide)
  | 57, _ => rfl
  | 58, _ => rfl
  | 59, _ => rfl
  | 60, h => exact absurd h (by decide)
  | 61, _ => rfl
  | 62, _ => rfl
  | 63, _ => rfl
  | 64, _ => rfl
  | 65, _ => rfl
  | 66, _ => rfl
  | 67, _ => rfl
  | 68, _ => rfl
  | 69, _ => rfl
  | 70, _ => rfl
  | 71, _ => rfl
  | 72, _ => rfl
  | 73, _ => rfl
  | 74, _ => rfl
  | 75, _ => rfl
  | 76, _ => rfl
  | k + 77, h => exact absurd h (by simp [hLen])
theorem uA_uV (s : ST) (k i : Nat) (v : Int32) : uA s k (fun j => if j = i then v else sV s k j) = uV s k i v := rfl
/-- an int index, as the arrays take it -/
theorem HP_gA (s : ST) {k : Nat} (h : 0 < hLen k) {i : Int32} (h0 : ¬ i < 0) (h1 : i.toNatClampNeg < hLen k) : gA (HP s) (some k) i = some (sV s k i.toNatClampNeg) := by
  simp only [gA, HP_arr s h, if_neg h0, aL_get h1]
theorem HP_sA (s : ST) {k : Nat} (h : 0 < hLen k) {i v : Int32} (h0 : ¬ i < 0) (h1 : i.toNatClampNeg < hLen k) : sA (HP s) (some k) i v = some (HP (uV s k i.toNatClampNeg v)) := by
  simp only [sA, HP_arr s h, aL_len]
  rw [if_pos ⟨h0, h1⟩, aL_set, HP_setA s h, uA_uV]
theorem HP_lA (s : ST) {k : Nat} (h : 0 < hLen k) : lA (HP s) (some k) = some (Int32.ofNat (hLen k)) := by
  simp only [lA, HP_arr s h, aL_len]
theorem nI_ix {n : Nat} (h : n < 2 ^ 31) : (¬ nI n < 0) ∧ (nI n).toNatClampNeg = n := ⟨nI_pos h, nI_clamp h⟩
theorem HP_gAn (s : ST) {k n : Nat} (h1 : n < hLen k) (h2 : n < 2 ^ 31) : gA (HP s) (some k) (nI n) = some (sV s k n) := by
  rw [HP_gA s (by omega) (nI_pos h2) (by rw [nI_clamp h2]; exact h1), nI_clamp h2]
theorem HP_sAn (s : ST) {k n : Nat} (v : Int32) (h1 : n < hLen k) (h2 : n < 2 ^ 31) : sA (HP s) (some k) (nI n) v = some (HP (uV s k n v)) := by
  rw [HP_sA s (by omega) (nI_pos h2) (by rw [nI_clamp h2]; exact h1), nI_clamp h2]

theorem qO_0 (s : ST) : qO (HP s) (some 0) 5 = true := rfl
theorem gR_0_0 (s : ST) : gR (HP s) (some 0) 5 0 = some (some 1) := rfl
theorem gR_0_1 (s : ST) : gR (HP s) (some 0) 5 1 = some (some 2) := rfl
theorem gR_0_2 (s : ST) : gR (HP s) (some 0) 5 2 = some (some 3) := rfl
theorem gR_0_3 (s : ST) : gR (HP s) (some 0) 5 3 = some (some 5) := rfl
theorem gR_0_4 (s : ST) : gR (HP s) (some 0) 5 4 = some (some 9) := rfl
theorem gR_0_5 (s : ST) : gR (HP s) (some 0) 5 5 = some (some 10) := rfl
theorem gR_0_6 (s : ST) : gR (HP s) (some 0) 5 6 = some (some 14) := rfl
theorem gR_0_7 (s : ST) : gR (HP s) (some 0) 5 7 = some (some 15) := rfl
theorem gR_0_8 (s : ST) : gR (HP s) (some 0) 5 8 = some (some (fA (sW s))) := rfl
theorem gR_0_9 (s : ST) : gR (HP s) (some 0) 5 9 = some (some (dA (sW s))) := rfl
theorem gI_0_10 (s : ST) : gI (HP s) (some 0) 5 10 = some (sI s 10) := rfl
theorem sF_0_10 (s : ST) (v : Int32) : sF (HP s) (some 0) 5 10 (.inl v) = some (HP (uI s 10 v)) := rfl
theorem gI_0_11 (s : ST) : gI (HP s) (some 0) 5 11 = some (sI s 11) := rfl
theorem sF_0_11 (s : ST) (v : Int32) : sF (HP s) (some 0) 5 11 (.inl v) = some (HP (uI s 11 v)) := rfl
theorem gL_0_12 (s : ST) : gL (HP s) (some 0) 5 12 = some (sL s 0) := rfl
theorem sF_0_12 (s : ST) (v : Int64) : sF (HP s) (some 0) 5 12 (.inr (.inl v)) = some (HP (uL s 0 v)) := rfl
theorem gL_0_13 (s : ST) : gL (HP s) (some 0) 5 13 = some (sL s 1) := rfl
theorem sF_0_13 (s : ST) (v : Int64) : sF (HP s) (some 0) 5 13 (.inr (.inl v)) = some (HP (uL s 1 v)) := rfl
theorem qO_3 (s : ST) : qO (HP s) (some 3) 3 = true := rfl
theorem gR_3_0 (s : ST) : gR (HP s) (some 3) 3 0 = some (some 4) := rfl
theorem qO_5 (s : ST) : qO (HP s) (some 5) 4 = true := rfl
theorem gR_5_0 (s : ST) : gR (HP s) (some 5) 4 0 = some (some 6) := rfl
theorem gR_5_1 (s : ST) : gR (HP s) (some 5) 4 1 = some (some 7) := rfl
theorem gR_5_2 (s : ST) : gR (HP s) (some 5) 4 2 = some (some 8) := rfl
theorem gI_5_3 (s : ST) : gI (HP s) (some 5) 4 3 = some (sI s 163) := rfl
theorem sF_5_3 (s : ST) (v : Int32) : sF (HP s) (some 5) 4 3 (.inl v) = some (HP (uI s 163 v)) := rfl
theorem gI_5_4 (s : ST) : gI (HP s) (some 5) 4 4 = some (sI s 164) := rfl
theorem sF_5_4 (s : ST) (v : Int32) : sF (HP s) (some 5) 4 4 (.inl v) = some (HP (uI s 164 v)) := rfl
theorem qO_10 (s : ST) : qO (HP s) (some 10) 0 = true := rfl
theorem gR_10_0 (s : ST) : gR (HP s) (some 10) 0 0 = some (some 11) := rfl
theorem gR_10_1 (s : ST) : gR (HP s) (some 10) 0 1 = some (some 12) := rfl
theorem gR_10_2 (s : ST) : gR (HP s) (some 10) 0 2 = some (some 13) := rfl
theorem gI_10_3 (s : ST) : gI (HP s) (some 10) 0 3 = some (sI s 323) := rfl
theorem sF_10_3 (s : ST) (v : Int32) : sF (HP s) (some 10) 0 3 (.inl v) = some (HP (uI s 323 v)) := rfl
theorem gI_10_4 (s : ST) : gI (HP s) (some 10) 0 4 = some (sI s 324) := rfl
theorem sF_10_4 (s : ST) (v : Int32) : sF (HP s) (some 10) 0 4 (.inl v) = some (HP (uI s 324 v)) := rfl
theorem qO_16 (s : ST) : qO (HP s) (some 16) 1 = true := rfl
theorem gR_16_0 (s : ST) : gR (HP s) (some 16) 1 0 = some (some 17) := rfl
theorem gR_16_1 (s : ST) : gR (HP s) (some 16) 1 1 = some (some 18) := rfl
theorem gR_16_2 (s : ST) : gR (HP s) (some 16) 1 2 = some (some 19) := rfl
theorem gR_16_3 (s : ST) : gR (HP s) (some 16) 1 3 = some (some 20) := rfl
theorem gR_16_4 (s : ST) : gR (HP s) (some 16) 1 4 = some (some 21) := rfl
theorem gI_16_5 (s : ST) : gI (HP s) (some 16) 1 5 = some (sI s 517) := rfl
theorem sF_16_5 (s : ST) (v : Int32) : sF (HP s) (some 16) 1 5 (.inl v) = some (HP (uI s 517 v)) := rfl
theorem gI_16_6 (s : ST) : gI (HP s) (some 16) 1 6 = some (sI s 518) := rfl
theorem sF_16_6 (s : ST) (v : Int32) : sF (HP s) (some 16) 1 6 (.inl v) = some (HP (uI s 518 v)) := rfl
theorem qO_22 (s : ST) : qO (HP s) (some 22) 1 = true := rfl
theorem gR_22_0 (s : ST) : gR (HP s) (some 22) 1 0 = some (some 23) := rfl
theorem gR_22_1 (s : ST) : gR (HP s) (some 22) 1 1 = some (some 24) := rfl
theorem gR_22_2 (s : ST) : gR (HP s) (some 22) 1 2 = some (some 25) := rfl
theorem gR_22_3 (s : ST) : gR (HP s) (some 22) 1 3 = some (some 26) := rfl
theorem gR_22_4 (s : ST) : gR (HP s) (some 22) 1 4 = some (some 27) := rfl
theorem gI_22_5 (s : ST) : gI (HP s) (some 22) 1 5 = some (sI s 709) := rfl
theorem sF_22_5 (s : ST) (v : Int32) : sF (HP s) (some 22) 1 5 (.inl v) = some (HP (uI s 709 v)) := rfl
theorem gI_22_6 (s : ST) : gI (HP s) (some 22) 1 6 = some (sI s 710) := rfl
theorem sF_22_6 (s : ST) (v : Int32) : sF (HP s) (some 22) 1 6 (.inl v) = some (HP (uI s 710 v)) := rfl
theorem qO_28 (s : ST) : qO (HP s) (some 28) 2 = true := rfl
theorem gR_28_0 (s : ST) : gR (HP s) (some 28) 2 0 = some (some 29) := rfl
theorem gI_28_1 (s : ST) : gI (HP s) (some 28) 2 1 = some (sI s 897) := rfl
theorem sF_28_1 (s : ST) (v : Int32) : sF (HP s) (some 28) 2 1 (.inl v) = some (HP (uI s 897 v)) := rfl
theorem qO_30 (s : ST) : qO (HP s) (some 30) 2 = true := rfl
theorem gR_30_0 (s : ST) : gR (HP s) (some 30) 2 0 = some (some 31) := rfl
theorem gI_30_1 (s : ST) : gI (HP s) (some 30) 2 1 = some (sI s 961) := rfl
theorem sF_30_1 (s : ST) (v : Int32) : sF (HP s) (some 30) 2 1 (.inl v) = some (HP (uI s 961 v)) := rfl
theorem qO_32 (s : ST) : qO (HP s) (some 32) 2 = true := rfl
theorem gR_32_0 (s : ST) : gR (HP s) (some 32) 2 0 = some (some 33) := rfl
theorem gI_32_1 (s : ST) : gI (HP s) (some 32) 2 1 = some (sI s 1025) := rfl
theorem sF_32_1 (s : ST) (v : Int32) : sF (HP s) (some 32) 2 1 (.inl v) = some (HP (uI s 1025 v)) := rfl
theorem qO_34 (s : ST) : qO (HP s) (some 34) 2 = true := rfl
theorem gR_34_0 (s : ST) : gR (HP s) (some 34) 2 0 = some (some 35) := rfl
theorem gI_34_1 (s : ST) : gI (HP s) (some 34) 2 1 = some (sI s 1089) := rfl
theorem sF_34_1 (s : ST) (v : Int32) : sF (HP s) (some 34) 2 1 (.inl v) = some (HP (uI s 1089 v)) := rfl
theorem qO_36 (s : ST) : qO (HP s) (some 36) 2 = true := rfl
theorem gR_36_0 (s : ST) : gR (HP s) (some 36) 2 0 = some (some 37) := rfl
theorem gI_36_1 (s : ST) : gI (HP s) (some 36) 2 1 = some (sI s 1153) := rfl
theorem sF_36_1 (s : ST) (v : Int32) : sF (HP s) (some 36) 2 1 (.inl v) = some (HP (uI s 1153 v)) := rfl
theorem qO_38 (s : ST) : qO (HP s) (some 38) 2 = true := rfl
theorem gR_38_0 (s : ST) : gR (HP s) (some 38) 2 0 = some (some 39) := rfl
theorem gI_38_1 (s : ST) : gI (HP s) (some 38) 2 1 = some (sI s 1217) := rfl
theorem sF_38_1 (s : ST) (v : Int32) : sF (HP s) (some 38) 2 1 (.inl v) = some (HP (uI s 1217 v)) := rfl
theorem qO_40 (s : ST) : qO (HP s) (some 40) 2 = true := rfl
theorem gR_40_0 (s : ST) : gR (HP s) (some 40) 2 0 = some (some 41) := rfl
theorem gI_40_1 (s : ST) : gI (HP s) (some 40) 2 1 = some (sI s 1281) := rfl
theorem sF_40_1 (s : ST) (v : Int32) : sF (HP s) (some 40) 2 1 (.inl v) = some (HP (uI s 1281 v)) := rfl
theorem qO_42 (s : ST) : qO (HP s) (some 42) 2 = true := rfl
theorem gR_42_0 (s : ST) : gR (HP s) (some 42) 2 0 = some (some 43) := rfl
theorem gI_42_1 (s : ST) : gI (HP s) (some 42) 2 1 = some (sI s 1345) := rfl
theorem sF_42_1 (s : ST) (v : Int32) : sF (HP s) (some 42) 2 1 (.inl v) = some (HP (uI s 1345 v)) := rfl
theorem qO_44 (s : ST) : qO (HP s) (some 44) 2 = true := rfl
theorem gR_44_0 (s : ST) : gR (HP s) (some 44) 2 0 = some (some 45) := rfl
theorem gI_44_1 (s : ST) : gI (HP s) (some 44) 2 1 = some (sI s 1409) := rfl
theorem sF_44_1 (s : ST) (v : Int32) : sF (HP s) (some 44) 2 1 (.inl v) = some (HP (uI s 1409 v)) := rfl
theorem qO_46 (s : ST) : qO (HP s) (some 46) 2 = true := rfl
theorem gR_46_0 (s : ST) : gR (HP s) (some 46) 2 0 = some (some 47) := rfl
theorem gI_46_1 (s : ST) : gI (HP s) (some 46) 2 1 = some (sI s 1473) := rfl
theorem sF_46_1 (s : ST) (v : Int32) : sF (HP s) (some 46) 2 1 (.inl v) = some (HP (uI s 1473 v)) := rfl
theorem qO_48 (s : ST) : qO (HP s) (some 48) 4 = true := rfl
theorem gR_48_0 (s : ST) : gR (HP s) (some 48) 4 0 = some (some 49) := rfl
theorem gR_48_1 (s : ST) : gR (HP s) (some 48) 4 1 = some (some 50) := rfl
theorem gR_48_2 (s : ST) : gR (HP s) (some 48) 4 2 = some (some 51) := rfl
theorem gI_48_3 (s : ST) : gI (HP s) (some 48) 4 3 = some (sI s 1539) := rfl
theorem sF_48_3 (s : ST) (v : Int32) : sF (HP s) (some 48) 4 3 (.inl v) = some (HP (uI s 1539 v)) := rfl
theorem gI_48_4 (s : ST) : gI (HP s) (some 48) 4 4 = some (sI s 1540) := rfl
theorem sF_48_4 (s : ST) (v : Int32) : sF (HP s) (some 48) 4 4 (.inl v) = some (HP (uI s 1540 v)) := rfl
theorem qO_52 (s : ST) : qO (HP s) (some 52) 4 = true := rfl
theorem gR_52_0 (s : ST) : gR (HP s) (some 52) 4 0 = some (some 53) := rfl
theorem gR_52_1 (s : ST) : gR (HP s) (some 52) 4 1 = some (some 54) := rfl
theorem gR_52_2 (s : ST) : gR (HP s) (some 52) 4 2 = some (some 55) := rfl
theorem gI_52_3 (s : ST) : gI (HP s) (some 52) 4 3 = some (sI s 1667) := rfl
theorem sF_52_3 (s : ST) (v : Int32) : sF (HP s) (some 52) 4 3 (.inl v) = some (HP (uI s 1667 v)) := rfl
theorem gI_52_4 (s : ST) : gI (HP s) (some 52) 4 4 = some (sI s 1668) := rfl
theorem sF_52_4 (s : ST) (v : Int32) : sF (HP s) (some 52) 4 4 (.inl v) = some (HP (uI s 1668 v)) := rfl
theorem qO_56 (s : ST) : qO (HP s) (some 56) 4 = true := rfl
theorem gR_56_0 (s : ST) : gR (HP s) (some 56) 4 0 = some (some 57) := rfl
theorem gR_56_1 (s : ST) : gR (HP s) (some 56) 4 1 = some (some 58) := rfl
theorem gR_56_2 (s : ST) : gR (HP s) (some 56) 4 2 = some (some 59) := rfl
theorem gI_56_3 (s : ST) : gI (HP s) (some 56) 4 3 = some (sI s 1795) := rfl
theorem sF_56_3 (s : ST) (v : Int32) : sF (HP s) (some 56) 4 3 (.inl v) = some (HP (uI s 1795 v)) := rfl
theorem gI_56_4 (s : ST) : gI (HP s) (some 56) 4 4 = some (sI s 1796) := rfl
theorem sF_56_4 (s : ST) (v : Int32) : sF (HP s) (some 56) 4 4 (.inl v) = some (HP (uI s 1796 v)) := rfl
theorem qO_60 (s : ST) : qO (HP s) (some 60) 6 = true := rfl
theorem gR_60_0 (s : ST) : gR (HP s) (some 60) 6 0 = some (some 61) := rfl
theorem gI_60_1 (s : ST) : gI (HP s) (some 60) 6 1 = some (sI s 1921) := rfl
theorem sF_60_1 (s : ST) (v : Int32) : sF (HP s) (some 60) 6 1 (.inl v) = some (HP (uI s 1921 v)) := rfl
theorem gR_60_2 (s : ST) : gR (HP s) (some 60) 6 2 = some (some 62) := rfl
theorem gR_60_3 (s : ST) : gR (HP s) (some 60) 6 3 = some (some 63) := rfl
theorem gR_60_4 (s : ST) : gR (HP s) (some 60) 6 4 = some (some 64) := rfl
theorem gR_60_5 (s : ST) : gR (HP s) (some 60) 6 5 = some (some 65) := rfl
theorem gI_60_6 (s : ST) : gI (HP s) (some 60) 6 6 = some (sI s 1926) := rfl
theorem sF_60_6 (s : ST) (v : Int32) : sF (HP s) (some 60) 6 6 (.inl v) = some (HP (uI s 1926 v)) := rfl
theorem gR_60_7 (s : ST) : gR (HP s) (some 60) 6 7 = some (some 66) := rfl
theorem gR_60_8 (s : ST) : gR (HP s) (some 60) 6 8 = some (some 67) := rfl
theorem gR_60_9 (s : ST) : gR (HP s) (some 60) 6 9 = some (some 68) := rfl
theorem gR_60_10 (s : ST) : gR (HP s) (some 60) 6 10 = some (some 69) := rfl
theorem gI_60_11 (s : ST) : gI (HP s) (some 60) 6 11 = some (sI s 1931) := rfl
theorem sF_60_11 (s : ST) (v : Int32) : sF (HP s) (some 60) 6 11 (.inl v) = some (HP (uI s 1931 v)) := rfl
theorem gL_60_12 (s : ST) : gL (HP s) (some 60) 6 12 = some (sL s 2) := rfl
theorem sF_60_12 (s : ST) (v : Int64) : sF (HP s) (some 60) 6 12 (.inr (.inl v)) = some (HP (uL s 2 v)) := rfl
theorem gL_60_13 (s : ST) : gL (HP s) (some 60) 6 13 = some (sL s 3) := rfl
theorem sF_60_13 (s : ST) (v : Int64) : sF (HP s) (some 60) 6 13 (.inr (.inl v)) = some (HP (uL s 3 v)) := rfl
theorem gI_60_14 (s : ST) : gI (HP s) (some 60) 6 14 = some (sI s 1934) := rfl
theorem sF_60_14 (s : ST) (v : Int32) : sF (HP s) (some 60) 6 14 (.inl v) = some (HP (uI s 1934 v)) := rfl
theorem gR_60_15 (s : ST) : gR (HP s) (some 60) 6 15 = some (some 70) := rfl
theorem gI_60_16 (s : ST) : gI (HP s) (some 60) 6 16 = some (sI s 1936) := rfl
theorem sF_60_16 (s : ST) (v : Int32) : sF (HP s) (some 60) 6 16 (.inl v) = some (HP (uI s 1936 v)) := rfl
theorem gI_60_17 (s : ST) : gI (HP s) (some 60) 6 17 = some (sI s 1937) := rfl
theorem sF_60_17 (s : ST) (v : Int32) : sF (HP s) (some 60) 6 17 (.inl v) = some (HP (uI s 1937 v)) := rfl
theorem gI_60_18 (s : ST) : gI (HP s) (some 60) 6 18 = some (sI s 1938) := rfl
theorem sF_60_18 (s : ST) (v : Int32) : sF (HP s) (some 60) 6 18 (.inl v) = some (HP (uI s 1938 v)) := rfl
theorem gR_60_19 (s : ST) : gR (HP s) (some 60) 6 19 = some (some 71) := rfl
theorem gI_60_20 (s : ST) : gI (HP s) (some 60) 6 20 = some (sI s 1940) := rfl
theorem sF_60_20 (s : ST) (v : Int32) : sF (HP s) (some 60) 6 20 (.inl v) = some (HP (uI s 1940 v)) := rfl
theorem gR_60_21 (s : ST) : gR (HP s) (some 60) 6 21 = some (some 72) := rfl
theorem gI_60_22 (s : ST) : gI (HP s) (some 60) 6 22 = some (sI s 1942) := rfl
theorem sF_60_22 (s : ST) (v : Int32) : sF (HP s) (some 60) 6 22 (.inl v) = some (HP (uI s 1942 v)) := rfl
theorem gR_60_23 (s : ST) : gR (HP s) (some 60) 6 23 = some (some 73) := rfl
theorem gR_60_24 (s : ST) : gR (HP s) (some 60) 6 24 = some (some 74) := rfl
theorem gR_60_25 (s : ST) : gR (HP s) (some 60) 6 25 = some (some 75) := rfl
theorem gI_60_26 (s : ST) : gI (HP s) (some 60) 6 26 = some (sI s 1946) := rfl
theorem sF_60_26 (s : ST) (v : Int32) : sF (HP s) (some 60) 6 26 (.inl v) = some (HP (uI s 1946 v)) := rfl
theorem gR_60_27 (s : ST) : gR (HP s) (some 60) 6 27 = some (some 76) := rfl
