/-! ===== digest ===== -/
def mx (h : Int64) (v : Int32) : Int64 := 31 * h + Int32.toInt64 v
theorem fold_shift {A : Type} {F G : Nat → A → A} {c : Nat} : ∀ (m j : Nat) (a : A), (∀ k b, j ≤ k → k < j + m → F (c + k) b = G k b) → fold F m (c + j) a = fold G m j a
  | 0, _, _, _ => rfl
  | m + 1, j, a, h => by
    rw [fold, fold, h j a (by omega) (by omega)]
    exact fold_shift m (j + 1) _ (fun k b h1 h2 => h k b (by omega) (by omega))
def dgP (s : ST) (n p : Nat) (h : Int64) : Int64 := fold (fun c h => mx h (tr s n p c)) 9 0 h
theorem dg_fold (s : ST) (n : Nat) : ∀ (m j : Nat) (h : Int64), fold (fun k h => mx h (tr s n (k / 9) (k % 9))) (9 * m) (9 * j) h = fold (dgP s n) m j h
  | 0, _, _ => rfl
  | m + 1, j, h => by
    have e : fold (fun k h => mx h (tr s n (k / 9) (k % 9))) 9 (9 * j) h = dgP s n j h := by
      unfold dgP
      exact fold_shift (c := 9 * j) 9 0 h (fun k b _ hk => by
        show mx b (tr s n ((9 * j + k) / 9) ((9 * j + k) % 9)) = mx b (tr s n j k)
        rw [show (9 * j + k) / 9 = j by omega, show (9 * j + k) % 9 = k by omega])
    rw [show 9 * (m + 1) = 9 + 9 * m by omega, fold_add, e, show 9 * j + 9 = 9 * (j + 1) by omega, dg_fold s n m (j + 1), fold]
theorem d9 : ∀ k, k < 54 → nI k / 9 = nI (k / 9) ∧ nI k - nI k / 9 * 9 = nI (k % 9) := by decide +kernel
def dgR (s : ST) (i : Nat) (h : Int64) : Int64 := fold (fun k h => mx h (sV s 67 (40 * i + k))) (sV s 66 i).toNatClampNeg 0 (mx h (sV s 66 i))
def dgX (s : ST) (i : Nat) (h : Int64) : Int64 := fold (fun k h => mx h (sV s 69 (60 * i + k))) (sV s 68 i).toNatClampNeg 0 (mx h (sV s 68 i))
theorem cl1 : (-1 : Int32).toNatClampNeg = 0 := by decide
theorem p2_mix {s : ST} {i n : Nat} (hi : i < 10) {V : Nat → Int32} {z : Int32} (h1 : (sI s (32 * lc i + 1) = -1 ∧ z = -1) ∨ (n ≤ lm i ∧ sI s (32 * lc i + 1) = nI n ∧ z = nI n ∧ ∀ k, k < n → sV s (lc i + 1) k = V k)) (h : Int64) : f_X2_mixInto (some (lc i)) h (HP s) = some (fold (fun k h => mx h (V k)) z.toNatClampNeg 0 (mx h z), HP s) := by
  have hl := lm_pos i
  rcases h1 with ⟨h1, rfl⟩ | ⟨hn, h1, rfl, h3⟩
  · have l : ∀ a, jloop (f_X2_mixInto_b15 (some (lc i))) jfuel (a, 0) (HP s) = some (.inr (a, HP s)) := fun a => by
      unfold jfuel
      rw [jloop]
      simp only [f_X2_mixInto_b15, ln_z s hi, Option.bind_some, h1, if_pos (show (-1 : Int32) ≤ 0 by decide)]
    simp only [f_X2_mixInto, ln_z s hi, Option.bind_some, h1, l, cl1, fold, mx]
  · have l : ∀ a, jloop (f_X2_mixInto_b15 (some (lc i))) jfuel (a, 0) (HP s) = some (.inr (fold (fun k h => mx h (V k)) n 0 a, HP s)) := fun a => by
      refine jfold (n := n) (fun k h => mx h (V k)) (fun a => ?_) (fun j a hj => ?_) n jfuel 0 a (by omega) (by unfold jfuel; omega)
      · simp only [f_X2_mixInto_b15, ln_z s hi, Option.bind_some, h1, if_pos (nI_le (Nat.le_refl n) (show n < 2 ^ 31 by omega))]
      · simp only [f_X2_mixInto_b15, ln_z s hi, Option.bind_some, h1, if_neg (nI_ge hj (show n < 2 ^ 31 by omega)), ln_q s hi, if_true, p2_get s hi h1 hn hj, h3 j hj, nI_1, mx]
    simp only [f_X2_mixInto, ln_z s hi, Option.bind_some, h1, l, nI_clamp (show n < 2 ^ 31 by omega), mx]
theorem e780d (j : Nat) : (780 * nI (1 + j)) + 0 = nI (780 * (1 + j)) := by
  rw [Int32.add_zero, ← pk_mul]
  rfl
theorem ag_digest {s : ST} (hI : Inv s) : ∃ (v : Int64) (s1 s2 : ST), f_X5_digest (some 0) (HP s) = some (v, HP s1) ∧ f_X6_digest (some 60) (HP s1) = some (v, HP s2) ∧ Inv s2 := by
  obtain ⟨n, hF, hT, hK⟩ := hI.1
  have hR := hI.2.1
  have h6 := hF.le
  obtain ⟨t, ht, hs, hs0, hS, -⟩ := hT.t
  have a5 : ∀ a, jloop (f_X5_digest_b6 (some 0)) jfuel (a, 0) (HP s) = some (.inr (fold (fun c h => mx h (cn s n c)) 10 0 a, HP s)) := fun a => by
    refine jfold (n := 10) (fun c h => mx h (cn s n c)) (fun a => ?_) (fun j a hj => ?_) 10 jfuel 0 a (by omega) (by unfold jfuel; omega)
    · simp only [f_X5_digest_b6, if_pos (show (10 : Int32) ≤ nI 10 by decide)]
    · simp only [f_X5_digest_b6, if_neg (show ¬ (10 : Int32) ≤ nI j from nI_ge (b := 10) hj (by omega)), qO_0, if_true, p5_count hF hT hK hR hj, Option.bind_some, nI_1, mx]
  have a6 : ∀ a, jloop (f_X6_digest_b6 (some 60)) jfuel (a, 0) (HP s) = some (.inr (fold (fun c h => mx h (cn s n c)) 10 0 a, HP s)) := fun a => by
    refine jfold (n := 10) (fun c h => mx h (cn s n c)) (fun a => ?_) (fun j a hj => ?_) 10 jfuel 0 a (by omega) (by unfold jfuel; omega)
    · simp only [f_X6_digest_b6, if_pos (show (10 : Int32) ≤ nI 10 by decide)]
    · simp only [f_X6_digest_b6, if_neg (show ¬ (10 : Int32) ≤ nI j from nI_ge (b := 10) hj (by omega)), qO_60, if_true, p6_count hF hS hj, Option.bind_some, nI_1, mx]
  have b5i : ∀ p, p < n → ∀ a, jloop (f_X5_digest_b47 (some 0) (nI p)) jfuel (a, 0) (HP s) = some (.inr (dgP s n p a, HP s)) := fun p hp a => by
    refine jfold (n := 9) (fun c h => mx h (tr s n p c)) (fun a => ?_) (fun j a hj => ?_) 9 jfuel 0 a (by omega) (by unfold jfuel; omega)
    · simp only [f_X5_digest_b47, if_pos (show (9 : Int32) ≤ nI 9 by decide)]
    · simp only [f_X5_digest_b47, if_neg (show ¬ (9 : Int32) ≤ nI j from nI_ge (b := 9) hj (by omega)), qO_0, if_true, p5_trait hF hT hp hj, Option.bind_some, nI_1, mx]
  have b5 : ∀ a, jloop (f_X5_digest_b33 (some 0)) jfuel (a, 0) (HP s) = some (.inr (fold (dgP s n) n 0 a, HP s)) := fun a => by
    refine jfold (n := n) (dgP s n) (fun a => ?_) (fun j a hj => ?_) n jfuel 0 a (by omega) (by unfold jfuel; omega)
    · simp only [f_X5_digest_b33, gR_0_8, Option.bind_some, fk_n, hF.2.2.1, if_pos (nI_le (Nat.le_refl n) (show n < 2 ^ 31 by omega))]
    · simp only [f_X5_digest_b33, gR_0_8, Option.bind_some, fk_n, hF.2.2.1, if_neg (nI_ge hj (show n < 2 ^ 31 by omega)), b5i j hj, nI_1]
  have b6 : ∀ a, jloop (f_X6_digest_b33 (some 60)) jfuel (a, 0) (HP s) = some (.inr (fold (dgP s n) n 0 a, HP s)) := fun a => by
    have e9 : (9 : Int32) * nI n = nI (9 * n) := by rw [← pk_mul]; rfl
    rw [← dg_fold s n n 0 a]
    refine jfold (n := 9 * n) (fun k h => mx h (tr s n (k / 9) (k % 9))) (fun a => ?_) (fun j a hj => ?_) (9 * n) jfuel 0 a (by omega) (by unfold jfuel; omega)
    · simp only [f_X6_digest_b33, gI_60_1, Option.bind_some, hF.2.1, e9, if_pos (nI_le (Nat.le_refl (9 * n)) (show 9 * n < 2 ^ 31 by omega))]
    · have ed := d9 j (by omega)
      have ed2 : nI j - nI (j / 9) * 9 = nI (j % 9) := by rw [← ed.1]; exact ed.2
      simp only [f_X6_digest_b33, gI_60_1, Option.bind_some, hF.2.1, e9, if_neg (nI_ge hj (show 9 * n < 2 ^ 31 by omega)), qO_60, if_true, ed.1, ed2, p6_toldOf hF hS (show j / 9 < n by omega) (show j % 9 < 9 by omega), nI_1, mx]
  have c5 : ∀ a, jloop (f_X5_digest_b93 (some 0) (some 9) (nI 3)) jfuel (a, 0) (HP s) = some (.inr (fold (fun j h => mx h (sV s 61 (780 * (1 + j)))) 3 0 a, HP s)) := fun a => by
    refine jfold (n := 3) (fun j h => mx h (sV s 61 (780 * (1 + j)))) (fun a => ?_) (fun j a hj => ?_) 3 jfuel 0 a (by omega) (by unfold jfuel; omega)
    · simp only [f_X5_digest_b93, if_pos (nI_le (Nat.le_refl 3) (show 3 < 2 ^ 31 by omega))]
    · rcases hK j hj with ⟨k1, k2⟩ | ⟨k1, u, -, k2, k3, -⟩
      · simp only [f_X5_digest_b93, f_X5_digest_b93_j128, if_neg (nI_ge hj (show 3 < 2 ^ 31 by omega)), gE_9 s hj, Option.bind_some, sh_4 s hj, k1, if_true, nI_1, mx, k2]
      · simp only [f_X5_digest_b93, f_X5_digest_b93_j128, if_neg (nI_ge hj (show 3 < 2 ^ 31 by omega)), gE_9 s hj, Option.bind_some, sh_4 s hj, k1, n10, if_false, tw_3 s (ist_k hj), nI_1, mx, k2, k3]
  have c6 : ∀ a, jloop (f_X6_digest_b72 (some 60)) jfuel (a, 1) (HP s) = some (.inr (fold (fun j h => mx h (sV s 61 (780 * (1 + j)))) 3 0 a, HP s)) := fun a => by
    refine jfoldG (n := 3) (fun (a : Int64) j => (a, nI (1 + j))) (fun a => a) (fun j h => mx h (sV s 61 (780 * (1 + j)))) (fun a => ?_) (fun j a hj => ?_) 3 jfuel 0 a (by omega) (by unfold jfuel; omega)
    · simp only [f_X6_digest_b72, if_pos (show (4 : Int32) ≤ nI (1 + 3) by decide)]
    · simp only [f_X6_digest_b72, if_neg (show ¬ (4 : Int32) ≤ nI (1 + j) from nI_ge (b := 4) (by omega) (by omega)), gR_60_0, Option.bind_some, e780d, g61 s (show 780 * (1 + j) < 3120 by omega), nI_1, mx, Nat.add_assoc]
  have d5 : ∀ a, jloop (f_X5_digest_b149 (some 0) (some 1) (nI 6)) jfuel (a, 0) (HP s) = some (.inr (fold (dgR s) 6 0 a, HP s)) := fun a => by
    refine jfold (n := 6) (dgR s) (fun a => ?_) (fun j a hj => ?_) 6 jfuel 0 a (by omega) (by unfold jfuel; omega)
    · simp only [f_X5_digest_b149, if_pos (nI_le (Nat.le_refl 6) (show 6 < 2 ^ 31 by omega))]
    · have em : ∀ h, f_X2_mixInto (some (lc j)) h (HP s) = some (dgR s j h, HP s) := fun h => by
        rcases hR.1 j hj with ⟨z1, z2⟩ | ⟨m, hm, z1, z2, z3⟩
        · exact p2_mix (n := 0) (show j < 10 by omega) (V := fun k => sV s 67 (40 * j + k)) (Or.inl ⟨z1, z2⟩) h
        · exact p2_mix (n := m) (show j < 10 by omega) (V := fun k => sV s 67 (40 * j + k)) (Or.inr ⟨by rw [lm_r hj]; exact hm, z1, z2, z3⟩) h
      simp only [f_X5_digest_b149, if_neg (nI_ge hj (show 6 < 2 ^ 31 by omega)), gE_1 s hj, Option.bind_some, ln_q s (show j < 10 by omega), if_true, em, nI_1]
  have e5 : ∀ a, jloop (f_X5_digest_b187 (some 2) (nI 4)) jfuel (a, 0) (HP s) = some (.inr (fold (dgX s) 4 0 a, HP s)) := fun a => by
    refine jfold (n := 4) (dgX s) (fun a => ?_) (fun j a hj => ?_) 4 jfuel 0 a (by omega) (by unfold jfuel; omega)
    · simp only [f_X5_digest_b187, if_pos (nI_le (Nat.le_refl 4) (show 4 < 2 ^ 31 by omega))]
    · have em : ∀ h, f_X2_mixInto (some (lc (6 + j))) h (HP s) = some (dgX s j h, HP s) := fun h => by
        rcases hR.2 j hj with ⟨z1, z2⟩ | ⟨m, hm, z1, z2, z3⟩
        · exact p2_mix (n := 0) (show 6 + j < 10 by omega) (V := fun k => sV s 69 (60 * j + k)) (Or.inl ⟨by rw [lc_t]; exact z1, z2⟩) h
        · exact p2_mix (n := m) (show 6 + j < 10 by omega) (V := fun k => sV s 69 (60 * j + k)) (Or.inr ⟨by rw [lm_t]; exact hm, by rw [lc_t]; exact z1, z2, by rw [lc_t]; exact z3⟩) h
      simp only [f_X5_digest_b187, if_neg (nI_ge hj (show 4 < 2 ^ 31 by omega)), gE_2 s hj, Option.bind_some, ln_q s (show 6 + j < 10 by omega), if_true, em, nI_1]
  have d6i : ∀ i, i < 6 → ∀ a, jloop (f_X6_digest_b128 (some 60) (nI i)) jfuel (a, 0) (HP s) = some (.inr (fold (fun k h => mx h (sV s 67 (40 * i + k))) (sV s 66 i).toNatClampNeg 0 a, HP s)) := fun i hi a => by
    rcases hR.1 i hi with ⟨z1, z2⟩ | ⟨m, hm, z1, z2, z3⟩
    · rw [z2, cl1]
      unfold jfuel
      rw [jloop]
      simp only [f_X6_digest_b128, gR_60_7, Option.bind_some, gA66 s hi, z2, if_pos (show (-1 : Int32) ≤ 0 by decide), fold]
    · rw [z2, nI_clamp (by omega)]
      refine jfold (n := m) (fun k h => mx h (sV s 67 (40 * i + k))) (fun a => ?_) (fun j a hj => ?_) m jfuel 0 a (by omega) (by unfold jfuel; omega)
      · simp only [f_X6_digest_b128, gR_60_7, Option.bind_some, gA66 s hi, z2, if_pos (nI_le (Nat.le_refl m) (show m < 2 ^ 31 by omega))]
      · simp only [f_X6_digest_b128, gR_60_7, gR_60_8, Option.bind_some, gA66 s hi, z2, if_neg (nI_ge hj (show m < 2 ^ 31 by omega)), gA67 s hi (show j < 40 by omega), nI_1, mx]
  have d6 : ∀ a, jloop (f_X6_digest_b105 (some 60)) jfuel (a, 0) (HP s) = some (.inr (fold (dgR s) 6 0 a, HP s)) := fun a => by
    refine jfold (n := 6) (dgR s) (fun a => ?_) (fun j a hj => ?_) 6 jfuel 0 a (by omega) (by unfold jfuel; omega)
    · simp only [f_X6_digest_b105, if_pos (show (6 : Int32) ≤ nI 6 by decide)]
    · simp only [f_X6_digest_b105, if_neg (show ¬ (6 : Int32) ≤ nI j from nI_ge (b := 6) hj (by omega)), gR_60_7, Option.bind_some, gA66 s hj, d6i j hj, nI_1, dgR, mx]
  have e6i : ∀ i, i < 4 → ∀ a, jloop (f_X6_digest_b195 (some 60) (nI i)) jfuel (a, 0) (HP s) = some (.inr (fold (fun k h => mx h (sV s 69 (60 * i + k))) (sV s 68 i).toNatClampNeg 0 a, HP s)) := fun i hi a => by
    rcases hR.2 i hi with ⟨z1, z2⟩ | ⟨m, hm, z1, z2, z3⟩
    · rw [z2, cl1]
      unfold jfuel
      rw [jloop]
      simp only [f_X6_digest_b195, gR_60_9, Option.bind_some, gA68 s hi, z2, if_pos (show (-1 : Int32) ≤ 0 by decide), fold]
    · rw [z2, nI_clamp (by omega)]
      refine jfold (n := m) (fun k h => mx h (sV s 69 (60 * i + k))) (fun a => ?_) (fun j a hj => ?_) m jfuel 0 a (by omega) (by unfold jfuel; omega)
      · simp only [f_X6_digest_b195, gR_60_9, Option.bind_some, gA68 s hi, z2, if_pos (nI_le (Nat.le_refl m) (show m < 2 ^ 31 by omega))]
      · simp only [f_X6_digest_b195, gR_60_9, gR_60_10, Option.bind_some, gA68 s hi, z2, if_neg (nI_ge hj (show m < 2 ^ 31 by omega)), gA69 s hi (show j < 60 by omega), nI_1, mx]
  have e6 : ∀ a, jloop (f_X6_digest_b173 (some 60)) jfuel (a, 0) (HP s) = some (.inr (fold (dgX s) 4 0 a, HP s)) := fun a => by
    refine jfold (n := 4) (dgX s) (fun a => ?_) (fun j a hj => ?_) 4 jfuel 0 a (by omega) (by unfold jfuel; omega)
    · simp only [f_X6_digest_b173, if_pos (show (4 : Int32) ≤ nI 4 by decide)]
    · simp only [f_X6_digest_b173, if_neg (show ¬ (4 : Int32) ≤ nI j from nI_ge (b := 4) hj (by omega)), gR_60_9, Option.bind_some, gA68 s hj, e6i j hj, nI_1, dgX, mx]
  refine ⟨fold (dgX s) 4 0 (fold (dgR s) 6 0 (fold (fun j h => mx h (sV s 61 (780 * (1 + j)))) 3 0 (fold (dgP s n) n 0 (fold (fun c h => mx h (cn s n c)) 10 0 17)))), s, s, ?_, ?_, hI⟩
  · simp only [f_X5_digest, a5, b5, c5, d5, e5, Option.bind_some, gR_0_4, gR_0_0, gR_0_1, lA_9, lA_1, lA_2]
  · simp only [f_X6_digest, a6, b6, c6, d6, e6, Option.bind_some]
