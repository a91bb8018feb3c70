/-! ===== MAPS as numbers; the class draws them ===== -/
def cd (n v : Nat) : Nat := if v < n then v else 7
def cod (n : Nat) (T : Nat → Nat) : Nat → Nat
  | 0 => 0
  | p + 1 => cod n T p + cd n (T p) * 8 ^ p
theorem cd_lt {n v : Nat} (h6 : n ≤ 6) : cd n v < 8 := by unfold cd; split <;> omega
theorem cod_lt {n : Nat} (h6 : n ≤ 6) (T : Nat → Nat) : ∀ p, cod n T p < 8 ^ p
  | 0 => Nat.one_pos
  | p + 1 => by
    have h1 := cod_lt h6 T p
    have h2 : cd n (T p) ≤ 7 := by have := cd_lt (v := T p) h6; omega
    have h3 : cd n (T p) * 8 ^ p ≤ 7 * 8 ^ p := Nat.mul_le_mul_right _ h2
    rw [cod, Nat.pow_succ]
    omega
theorem cod_at {n : Nat} (h6 : n ≤ 6) (T : Nat → Nat) {q : Nat} : ∀ p, q < p → cod n T p / 8 ^ q % 8 = cd n (T q)
  | 0, h => by omega
  | p + 1, h => by
    rw [cod]
    by_cases e : q = p
    · subst e
      rw [Nat.add_mul_div_right _ _ (Nat.pow_pos (by decide)), Nat.div_eq_of_lt (cod_lt h6 T q), Nat.zero_add, Nat.mod_eq_of_lt (cd_lt h6)]
    · have hp : (8 : Nat) ^ p = 8 ^ q * (8 * 8 ^ (p - q - 1)) := by
        rw [← Nat.pow_succ', ← Nat.pow_add]
        congr 1
        omega
      rw [hp, show cd n (T p) * (8 ^ q * (8 * 8 ^ (p - q - 1))) = 8 ^ q * (8 * (cd n (T p) * 8 ^ (p - q - 1))) by
        rw [Nat.mul_left_comm, Nat.mul_left_comm (cd n (T p)) 8], Nat.add_mul_div_left _ _ (Nat.pow_pos (by decide)), Nat.add_mul_mod_self_left]
      exact cod_at h6 T p (by omega)
theorem cod_congr {n : Nat} {T T' : Nat → Nat} : ∀ p, (∀ q, q < p → T q = T' q) → cod n T p = cod n T' p
  | 0, _ => rfl
  | p + 1, h => by rw [cod, cod, cod_congr p (fun q hq => h q (by omega)), h p (by omega)]
theorem cod_up {n : Nat} (T : Nat → Nat) (p v : Nat) : cod n (upT T p v) (p + 1) = cod n T p + cd n v * 8 ^ p := by
  rw [cod, cod_congr (T' := T) p (fun q hq => upT_ne (by omega)), upT_at]
theorem nI_or (a b : Nat) : nI a ||| nI b = nI (a ||| b) := by
  apply Int32.toBitVec_inj.mp
  show BitVec.ofNat 32 a ||| BitVec.ofNat 32 b = BitVec.ofNat 32 (a ||| b)
  rw [BitVec.ofNat_or]
set_option maxRecDepth 100000 in
theorem shl3 : ∀ v, v < 8 → ∀ p, p < 6 → nI v <<< ((3 * nI p) &&& 31) = nI (v * 8 ^ p) := by decide +kernel
theorem p8 (p : Nat) : 8 ^ p = 2 ^ (3 * p) := by rw [Nat.pow_mul]
theorem orI {a v p : Nat} (ha : a < 8 ^ p) (hv : v < 8) (hp : p < 6) : nI a ||| (nI v <<< ((3 * nI p) &&& 31)) = nI (a + v * 8 ^ p) := by
  rw [shl3 v hv p hp, nI_or, Nat.or_comm]
  rw [p8] at ha ⊢
  have := Nat.shiftLeft_add_eq_or_of_lt ha v
  rw [Nat.shiftLeft_eq] at this
  rw [← this, Nat.add_comm]
theorem dig3 {c p : Nat} (hc : c < 2 ^ 31) (hp : p < 6) : (nI c >>> ((3 * nI p) &&& 31)) &&& 7 = nI (c / 8 ^ p % 8) := by
  match p, hp with
  | 0, _ => rw [pk_shrN hc _ 0 (by decide), pk_andN (by omega) 3 (by decide)]
  | 1, _ => rw [pk_shrN hc _ 3 (by decide), pk_andN (by omega) 3 (by decide)]
  | 2, _ => rw [pk_shrN hc _ 6 (by decide), pk_andN (by omega) 3 (by decide)]
  | 3, _ => rw [pk_shrN hc _ 9 (by decide), pk_andN (by omega) 3 (by decide)]
  | 4, _ => rw [pk_shrN hc _ 12 (by decide), pk_andN (by omega) 3 (by decide)]
  | 5, _ => rw [pk_shrN hc _ 15 (by decide), pk_andN (by omega) 3 (by decide)]
  | p + 6, h => exact absurd h (by omega)
theorem cod31 {n : Nat} (h6 : n ≤ 6) (T : Nat → Nat) : cod n T n < 2 ^ 31 := by
  have := cod_lt h6 T n
  have h2 : 8 ^ n ≤ 8 ^ 6 := Nat.pow_le_pow_right (by omega) h6
  omega
theorem dig_at {n p : Nat} (h6 : n ≤ 6) (T : Nat → Nat) (hp : p < n) : (nI (cod n T n) >>> ((3 * nI p) &&& 31)) &&& 7 = nI (cd n (T p)) := by
  rw [dig3 (cod31 h6 T) (by omega), cod_at h6 T n hp]
/-! what the class has found -/
def HA (s : ST) (n : Nat) (L : List (Nat → Nat)) : Prop := sI s 323 = nI L.length ∧ sI s 324 = nI n ∧ ∀ i T, L[i]? = some T → sV s 11 i = nI (cod n T n)
def DrA (s s' : ST) : Prop := sW s' = sW s ∧ sL s' = sL s ∧ (∀ k, k ≠ 11 → sV s' k = sV s k) ∧ ∀ k, k ≠ 323 → sI s' k = sI s k
theorem DrA.rf (s : ST) : DrA s s := ⟨rfl, rfl, fun _ _ => rfl, fun _ _ => rfl⟩
theorem DrA.trans {a b c : ST} (h : DrA a b) (k : DrA b c) : DrA a c := ⟨k.1.trans h.1, k.2.1.trans h.2.1, fun i hi => (k.2.2.1 i hi).trans (h.2.2.1 i hi), fun i hi => (k.2.2.2 i hi).trans (h.2.2.2 i hi)⟩
theorem DrA.S {a b : ST} (h : DrA a b) : SameS a b := ⟨h.1, h.2.1, fun k hk => h.2.2.1 k (fun e => hk (by unfold ScA; omega)), fun k hk => h.2.2.2 k (fun e => hk (by unfold ScI; omega))⟩
theorem g11 (s : ST) {i : Nat} (hi : i < 320) : gA (HP s) (some 11) (nI i) = some (sV s 11 i) := HP_gAn s (show i < hLen 11 from hi) (by omega)
theorem s11 (s : ST) {i : Nat} (hi : i < 320) (v : Int32) : sA (HP s) (some 11) (nI i) v = some (HP (uV s 11 i v)) := HP_sAn s v (show i < hLen 11 from hi) (by omega)
theorem g12 (s : ST) {i : Nat} (hi : i < 6) : gA (HP s) (some 12) (nI i) = some (sV s 12 i) := HP_gAn s (show i < hLen 12 from hi) (by omega)
theorem s12 (s : ST) {i : Nat} (hi : i < 6) (v : Int32) : sA (HP s) (some 12) (nI i) v = some (HP (uV s 12 i v)) := HP_sAn s v (show i < hLen 12 from hi) (by omega)
theorem p0_add {s : ST} {n left : Nat} {T : Nat → Nat} {L : List (Nat → Nat)} (hl : left < 64) (hA : HA s n L) (hL : (L ++ (if left = 0 then [T] else [])).length ≤ 320) : ∃ s', f_X0_add (some 10) (nI left) (nI (cod n T n)) (HP s) = some ((), HP s') ∧ DrA s s' ∧ HA s' n (L ++ (if left = 0 then [T] else [])) := by
  by_cases h0 : left = 0
  · subst h0
    rw [if_pos rfl, List.length_append] at hL
    have hL : L.length + 1 ≤ 320 := hL
    refine ⟨uI (uV s 11 L.length (nI (cod n T n))) 323 (nI (L.length + 1)), ?_, ⟨rfl, rfl, fun k hk => by rw [sV_uI, sV_uVne hk], fun k hk => by rw [sI_uI, if_neg hk, sI_uV]⟩, ?_⟩
    · simp only [f_X0_add, if_pos (show nI 0 = 0 from rfl), gI_10_3, Option.bind_some, hA.1, if_neg (nI_pos (show L.length < 2 ^ 31 by omega)), if_neg (show ¬ (320 : Int32) ≤ nI L.length from nI_ge (b := 320) (by omega) (by omega)), gR_10_0, s11 _ (show L.length < 320 by omega), sI_uV, nI_1, sF_10_3]
    · rw [if_pos rfl]
      refine ⟨by rw [sI_uI, if_pos rfl, List.length_append]; rfl, by rw [sI_uI, if_neg (by omega), sI_uV]; exact hA.2.1, fun i T' h => ?_⟩
      rw [sV_uI, sV_uV, if_pos rfl]
      by_cases hi : i < L.length
      · rw [List.getElem?_append_left hi] at h
        rw [if_neg (by omega)]
        exact hA.2.2 i T' h
      · rw [List.getElem?_append_right (by omega)] at h
        have e : i - L.length = 0 := by
          have := (List.getElem?_eq_some_iff.mp h).1
          simp at this
          omega
        rw [e] at h
        have e2 : T = T' := by simpa using h
        rw [if_pos (by omega), e2]
  · have e : ¬ nI left = 0 := fun z => h0 ((nI_eq (b := 0) (by omega) (by omega)).mp z)
    refine ⟨s, ?_, DrA.rf s, ?_⟩
    · simp only [f_X0_add, if_neg e]
    · rw [if_neg h0, List.append_nil]
      exact hA
set_option maxRecDepth 100000 in
theorem pc_bcn : ∀ l, l < 64 → pc (nI l) = nI (bcn l) ∧ bcn l ≤ 6 := by decide +kernel
theorem p0_in {left b v : Nat} (hl : left < 64) (hb : b < 64) (hv : v < 6) (ah : AH) : f_X5_isIn (nI left &&& (nI b ^^^ (-1))) (nI v) ah = some (if left.testBit v = true ∧ b.testBit v = false then 1 else 0, ah) := by
  have h64 : left &&& (63 ^^^ b) < 64 := Nat.lt_of_le_of_lt Nat.and_le_left hl
  rw [andn_dec left hl b hb, p5_isIn hv]
  have e := bit_dec _ h64 v hv
  rw [Nat.testBit_and, Nat.testBit_xor, tb63 hv] at e
  have e2 : ((left.testBit v && (true ^^ b.testBit v)) = true) ↔ (left.testBit v = true ∧ b.testBit v = false) := by
    cases left.testBit v <;> cases b.testBit v <;> simp
  simp only [e, e2]
theorem p0_draw {n : Nat} (h6 : n ≤ 6) {B : Nat → Nat} (hB : ∀ p, p < n → B p < 64) : ∀ (m k p left : Nat) (T : Nat → Nat) (L : List (Nat → Nat)) (s : ST), p + m = n → m < k → left < 64 → HA s n L → (∀ q, q < n → sV s 12 q = nI (2 ^ q ||| B q)) → (L ++ trl n B m p left T).length ≤ 320 → ∃ s', fr_X0_draw k (some 10) (nI p) (nI left) (nI (cod n T p)) (HP s) = some ((), HP s') ∧ DrA s s' ∧ HA s' n (L ++ trl n B m p left T) := by
  intro m
  induction m with
  | zero =>
    intro k p left T L s hp hk hl hA h12 hL
    obtain ⟨k, rfl⟩ : ∃ k', k = k' + 1 := ⟨k - 1, by omega⟩
    have e : p = n := by omega
    subst e
    obtain ⟨s', h1, h2, h3⟩ := p0_add (T := T) hl hA hL
    refine ⟨s', ?_, h2, h3⟩
    show f_X0_drawS (fr_X0_draw k) (some 10) (nI p) (nI left) (nI (cod p T p)) (HP s) = _
    simp only [f_X0_drawS, f_X0_drawS_j22, gI_10_4, Option.bind_some, hA.2.1, if_neg (nI_pos (show p < 2 ^ 31 by omega)), if_pos (nI_le (Nat.le_refl p) (show p < 2 ^ 31 by omega)), qO_10, if_true, h1]
  | succ m ih =>
    intro k p left T L s hp hk hl hA h12 hL
    obtain ⟨k, rfl⟩ : ∃ k', k = k' + 1 := ⟨k - 1, by omega⟩
    rw [trl] at hL ⊢
    have hb : 2 ^ p ||| B p < 64 := by rw [Nat.or_comm]; exact or_lt (hB p (by omega)) (by omega)
    have loop : ∀ (r v f : Nat) (L : List (Nat → Nat)) (s : ST), v + r = n → r < f → HA s n L → (∀ q, q < n → sV s 12 q = nI (2 ^ q ||| B q)) → (L ++ (List.range' v r).flatMap (fun v => if left.testBit v = true ∧ v ≠ p ∧ (B p).testBit v = false then trl n B m (p + 1) (left ^^^ 2 ^ v) (upT T p v) else [])).length ≤ 320 → ∃ s', jloop (f_X0_drawS_b44 (fr_X0_draw k) (some 10) (nI p) (nI left) (nI (cod n T p)) (nI n) (nI left &&& (nI (2 ^ p ||| B p) ^^^ (-1)))) f (nI v) (HP s) = some (.inr ((), HP s')) ∧ DrA s s' ∧ HA s' n (L ++ (List.range' v r).flatMap (fun v => if left.testBit v = true ∧ v ≠ p ∧ (B p).testBit v = false then trl n B m (p + 1) (left ^^^ 2 ^ v) (upT T p v) else [])) := by
      intro r
      induction r with
      | zero =>
        intro v f L s hv hf hA h12 hL
        obtain ⟨f, rfl⟩ : ∃ f', f = f' + 1 := ⟨f - 1, by omega⟩
        refine ⟨s, ?_, DrA.rf s, ?_⟩
        · rw [jloop]
          simp only [f_X0_drawS_b44, if_pos (nI_le (show n ≤ v by omega) (show v < 2 ^ 31 by omega))]
        · rw [List.range'_zero, List.flatMap_nil, List.append_nil]
          exact hA
      | succ r ihr =>
        intro v f L s hv hf hA h12 hL
        obtain ⟨f, rfl⟩ : ∃ f', f = f' + 1 := ⟨f - 1, by omega⟩
        rw [List.range'_succ, List.flatMap_cons, ← List.append_assoc] at hL ⊢
        have ein := p0_in (ah := HP s) hl hb (show v < 6 by omega)
        have etb : ((2 ^ p ||| B p).testBit v = false) ↔ (v ≠ p ∧ (B p).testBit v = false) := by
          rw [Nat.testBit_or, Nat.testBit_two_pow]
          by_cases e : p = v
          · simp [e]
          · simp [e, Ne.symm e]
        by_cases c : left.testBit v = true ∧ v ≠ p ∧ (B p).testBit v = false
        · rw [if_pos c] at hL ⊢
          obtain ⟨s1, w1, w2, w3⟩ := ih k (p + 1) (left ^^^ 2 ^ v) (upT T p v) L s (by omega) (by omega) (xor_lt hl (by omega)) hA h12 (by rw [List.length_append] at hL; omega)
          obtain ⟨s2, y1, y2, y3⟩ := ihr (v + 1) f _ s1 (by omega) (by omega) w3 (fun q hq => by rw [w2.2.2.1 12 (by omega)]; exact h12 q hq) hL
          refine ⟨s2, ?_, w2.trans y2, y3⟩
          have eo : nI (cod n T p) ||| (nI v <<< ((3 * nI p) &&& 31)) = nI (cod n (upT T p v) (p + 1)) := by
            rw [orI (cod_lt h6 T p) (by omega) (by omega), cod_up, show cd n v = v by unfold cd; rw [if_pos (by omega)]]
          rw [jloop]
          simp only [f_X0_drawS_b44, if_neg (nI_ge (show v < n by omega) (show n < 2 ^ 31 by omega)), ein, Option.bind_some, if_pos (show left.testBit v = true ∧ (2 ^ p ||| B p).testBit v = false from ⟨c.1, etb.mpr c.2⟩), n10, if_false, clr_dec left hl v (by omega) c.1, eo, nI_1, w1]
          exact y1
        · rw [if_neg c, List.append_nil] at hL ⊢
          obtain ⟨s2, y1, y2, y3⟩ := ihr (v + 1) f L s (by omega) (by omega) hA h12 hL
          refine ⟨s2, ?_, y2, y3⟩
          rw [jloop]
          simp only [f_X0_drawS_b44, if_neg (nI_ge (show v < n by omega) (show n < 2 ^ 31 by omega)), ein, Option.bind_some, if_neg (show ¬ (left.testBit v = true ∧ (2 ^ p ||| B p).testBit v = false) from fun z => c ⟨z.1, etb.mp z.2⟩), if_true, nI_1]
          exact y1
    rw [← List.append_assoc] at hL ⊢
    obtain ⟨s1, w1, w2, w3⟩ := loop n 0 jfuel L s (by omega) (by unfold jfuel; omega) hA h12 (by rw [List.length_append] at hL; omega)
    rw [show nI 0 = (0 : Int32) from rfl] at w1
    obtain ⟨b1, b2⟩ := pc_bcn left hl
    have es : nI n - nI p = nI (m + 1) := by rw [pk_sub (by omega), show n - p = m + 1 by omega]
    have ele : (nI (m + 1) ≤ nI (bcn left)) = (m + 1 ≤ bcn left) := propext (nI_leI (by omega) (by omega))
    by_cases c : bcn left < m + 1
    · rw [if_pos c] at hL ⊢
      obtain ⟨s2, y1, y2, y3⟩ := ih k (p + 1) left (upT T p n) _ s1 (by omega) (by omega) hl w3 (fun q hq => by rw [w2.2.2.1 12 (by omega)]; exact h12 q hq) hL
      refine ⟨s2, ?_, w2.trans y2, y3⟩
      have eo : nI (cod n T p) ||| (7 <<< ((3 * nI p) &&& 31)) = nI (cod n (upT T p n) (p + 1)) := by
        have := orI (v := 7) (cod_lt h6 T p) (by omega) (show p < 6 by omega)
        rw [cod_up, show cd n n = 7 by unfold cd; rw [if_neg (by omega)]]
        exact this
      show f_X0_drawS (fr_X0_draw k) (some 10) (nI p) (nI left) (nI (cod n T p)) (HP s) = _
      simp only [f_X0_drawS, gI_10_4, Option.bind_some, hA.2.1, if_neg (nI_pos (show p < 2 ^ 31 by omega)), if_neg (nI_ge (show p < n by omega) (show n < 2 ^ 31 by omega)), if_pos (show nI p < 6 from nI_lt (b := 6) (by omega) (by omega)), gR_10_1, g12 _ (show p < 6 by omega), h12 p (by omega), w1, p_bitCount hl, b1, es, ele, if_neg (show ¬ m + 1 ≤ bcn left by omega), nI_1, eo, y1]
    · rw [if_neg c, List.append_nil] at hL ⊢
      refine ⟨s1, ?_, w2, w3⟩
      show f_X0_drawS (fr_X0_draw k) (some 10) (nI p) (nI left) (nI (cod n T p)) (HP s) = _
      simp only [f_X0_drawS, gI_10_4, Option.bind_some, hA.2.1, if_neg (nI_pos (show p < 2 ^ 31 by omega)), if_neg (nI_ge (show p < n by omega) (show n < 2 ^ 31 by omega)), if_pos (show nI p < 6 from nI_lt (b := 6) (by omega) (by omega)), gR_10_1, g12 _ (show p < 6 by omega), h12 p (by omega), w1, p_bitCount hl, b1, es, ele, if_pos (show m + 1 ≤ bcn left by omega)]
/-- LOVES by number -/
def lvN (s : ST) (q : Nat) : Nat := (sV s 65 q).toNatClampNeg
theorem InvF.lov {s : ST} {n p : Nat} (hF : InvF s n) (hp : p < n) : lvN s p < 2 ^ n ∧ sV s 65 p = nI (lvN s p) ∧ sV s (fA (sW s) + 4) p = nI (lvN s p) := by
  have h6 := hF.le
  obtain ⟨-, -, -, m, h1, h2, h3⟩ := hF.2.2.2.2 p hp
  have : m < 64 := Nat.lt_of_lt_of_le h1 (pow64 h6)
  have e : lvN s p = m := by unfold lvN; rw [h3, nI_clamp (by omega)]
  rw [e]
  exact ⟨h1, h3, h2⟩
/-- whom p may not have, if LOVE is not allowed (x = 0) *or* is -/
def Bx (s : ST) (n : Nat) (x : Int32) (q : Nat) : Nat := if x = 0 then (if q < n then lvN s q else 0) else 0
theorem Bx_lt {s : ST} {n : Nat} (hF : InvF s n) (x : Int32) (q : Nat) : Bx s n x q < 2 ^ n := by
  unfold Bx
  split
  · split
    · rename_i h
      exact (hF.lov h).1
    · exact Nat.two_pow_pos n
  · exact Nat.two_pow_pos n
set_option maxRecDepth 100000 in
theorem shl1 : ∀ q, q < 6 → (1 : Int32) <<< (nI q &&& 31) = nI (2 ^ q) := by decide +kernel
theorem p1_lovedByF {s : ST} {n : Nat} (hF : InvF s n) {x : Int32} (hx : x < 0 ∨ nI n ≤ x) : f_X1_lovedBy (some (fA (sW s))) x (HP s) = some (0, HP s) := by
  simp only [f_X1_lovedBy, fk_q, if_true, p1_hasF hF hx, Option.bind_some]
theorem seek_loop {s : ST} {n : Nat} (hF : InvF s n) (y x : Int32) : jloop (f_X0_seek_b16 (some 10) (some (fA (sW s))) y x) jfuel 0 (HP s) = some (.inr ((), HP (setR s 12 0 (fun q => nI (2 ^ q ||| Bx s n x q)) 6))) := by
  have h6 := hF.le
  have l : jloop (f_X0_seek_b16 (some 10) (some (fA (sW s))) y x) jfuel (nI 0) (HP (setR s 12 0 (fun q => nI (2 ^ q ||| Bx s n x q)) 0)) = some (.inr ((), HP (setR s 12 0 (fun q => nI (2 ^ q ||| Bx s n x q)) 6))) := by
    refine jseq (n := 6) (fun j => nI j) (fun j => HP (setR s 12 0 (fun q => nI (2 ^ q ||| Bx s n x q)) j)) ?_ (fun j hj => ?_) 6 jfuel 0 (by omega) (by unfold jfuel; omega)
    · simp only [f_X0_seek_b16, if_pos (show (6 : Int32) ≤ nI 6 by decide)]
    · have hS : SameS s (setR s 12 0 (fun q => nI (2 ^ q ||| Bx s n x q)) j) := SameS.uA (by unfold ScA; omega)
      have hF' := InvF_S hS hF
      have eW : sW s = sW (setR s 12 0 (fun q => nI (2 ^ q ||| Bx s n x q)) j) := rfl
      have e1 : uV (setR s 12 0 (fun q => nI (2 ^ q ||| Bx s n x q)) j) 12 j (nI (2 ^ j ||| Bx s n x j)) = setR s 12 0 (fun q => nI (2 ^ q ||| Bx s n x q)) (j + 1) := setR_1z s 12 (fun q => nI (2 ^ q ||| Bx s n x q)) j
      simp only [f_X0_seek_b16, f_X0_seek_b16_j47, if_neg (show ¬ (6 : Int32) ≤ nI j from nI_ge (b := 6) hj (by omega)), gR_10_1, Option.bind_some, shl1 j hj, s12 _ hj, nI_1]
      by_cases c : x = 0
      · rw [if_pos c]
        by_cases hjn : j < n
        · have el : f_X1_lovedBy (some (fA (sW s))) (nI j) (HP (setR s 12 0 (fun q => nI (2 ^ q ||| Bx s n x q)) j)) = some (nI (lvN s j), HP (setR s 12 0 (fun q => nI (2 ^ q ||| Bx s n x q)) j)) := by
            rw [eW, p1_lovedBy hF' hjn, ← eW, sV_setRne (by cases sW s <;> decide), (hF.lov hjn).2.2]
          have eq : qO (HP (setR s 12 0 (fun q => nI (2 ^ q ||| Bx s n x q)) j)) (some (fA (sW s))) 1 = true := fk_q _ _
          rw [if_pos eq, el, Option.bind_some, s12 _ hj, Option.bind_some, nI_or]
          rw [show nI (2 ^ j ||| lvN s j) = nI (2 ^ j ||| Bx s n x j) by unfold Bx; rw [if_pos c, if_pos hjn], e1]
        · have el : f_X1_lovedBy (some (fA (sW s))) (nI j) (HP (setR s 12 0 (fun q => nI (2 ^ q ||| Bx s n x q)) j)) = some (0, HP (setR s 12 0 (fun q => nI (2 ^ q ||| Bx s n x q)) j)) := by
            rw [eW, p1_lovedByF hF' (Or.inr (nI_le (by omega) (by omega)))]
          have eq : qO (HP (setR s 12 0 (fun q => nI (2 ^ q ||| Bx s n x q)) j)) (some (fA (sW s))) 1 = true := fk_q _ _
          rw [if_pos eq, el, Option.bind_some, s12 _ hj, Option.bind_some, Int32.or_zero]
          rw [show nI (2 ^ j) = nI (2 ^ j ||| Bx s n x j) by unfold Bx; rw [if_pos c, if_neg hjn, Nat.or_zero], e1]
      · rw [if_neg c, Int32.or_zero, show nI (2 ^ j) = nI (2 ^ j ||| Bx s n x j) by unfold Bx; rw [if_neg c, Nat.or_zero], e1]
  rw [setR_0] at l
  exact l
/-- the MAPS with just these VICTIMS -/
def mpl (s : ST) (n V : Nat) (x : Int32) : List (Nat → Nat) := trl n (Bx s n x) n 0 V T0
theorem mpl_len {s : ST} {n V : Nat} {x : Int32} (hF : InvF s n) (hV : V < 2 ^ n) : (mpl s n V x).length ≤ 309 := by
  have h6 := hF.le
  exact Nat.le_trans (trl_less h6 (fun p _ => Bx_lt hF x p) hV) (trl_320 n (by omega) V hV)
theorem p0_seek {s : ST} {n V : Nat} {x : Int32} (hF : InvF s n) (hV : V < 2 ^ n) : ∃ s', f_X0_seek (some 10) (some (fA (sW s))) (nI V) x (HP s) = some ((), HP s') ∧ SameS s s' ∧ HA s' n (mpl s n V x) := by
  have h6 := hF.le
  have hS1 : SameS s (uI (uI s 323 0) 324 (nI n)) := (SameS.uI (by unfold ScI; omega)).trans (SameS.uI (by unfold ScI; omega))
  have hF1 := InvF_S hS1 hF
  have l := seek_loop hF1 (nI V) x
  have eB : ∀ q, Bx (uI (uI s 323 0) 324 (nI n)) n x q = Bx s n x q := fun q => rfl
  simp only [eB] at l
  have hS2 : SameS (uI (uI s 323 0) 324 (nI n)) (setR (uI (uI s 323 0) 324 (nI n)) 12 0 (fun q => nI (2 ^ q ||| Bx s n x q)) 6) := SameS.uA (by unfold ScA; omega)
  have hA : HA (setR (uI (uI s 323 0) 324 (nI n)) 12 0 (fun q => nI (2 ^ q ||| Bx s n x q)) 6) n [] := ⟨rfl, rfl, fun i T h => by simp at h⟩
  have hlen := mpl_len (x := x) hF hV
  obtain ⟨s', w1, w2, w3⟩ := p0_draw h6 (B := Bx s n x) (fun p _ => Nat.lt_of_lt_of_le (Bx_lt hF x p) (pow64 h6)) n 8 0 V T0 [] _ (by omega) (by omega) (Nat.lt_of_lt_of_le hV (pow64 h6)) hA (fun q hq => sV_setRz (by omega)) (by rw [List.nil_append]; unfold mpl at hlen; omega)
  rw [List.nil_append] at w3
  refine ⟨s', ?_, (hS1.trans hS2).trans w2.S, w3⟩
  have w1 : f_X0_draw (some 10) 0 (nI V) 0 (HP (setR (uI (uI s 323 0) 324 (nI n)) 12 0 (fun q => nI (2 ^ q ||| Bx s n x q)) 6)) = some ((), HP s') := w1
  have l : jloop (f_X0_seek_b16 (some 10) (some (fA (sW s))) (nI V) x) jfuel 0 (HP (uI (uI s 323 0) 324 (nI n))) = _ := l
  have e5 : sI (uI s 323 0) (32 * fA (sW s) + 5) = nI n := by
    rw [sI_uI, if_neg (by cases sW s <;> decide)]
    exact hF.2.2.1
  simp only [f_X0_seek, sF_10_3, Option.bind_some, fk_n, e5, sF_10_4, l, w1]
