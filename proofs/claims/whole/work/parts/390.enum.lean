/-! ===== MAPS in their order: what the reference's counting goes through, what the class's drawing finds ===== -/
def upT (T : Nat → Nat) (k v : Nat) : Nat → Nat := fun q => if q = k then v else T q
theorem upT_at (T : Nat → Nat) (k v : Nat) : upT T k v k = v := if_pos rfl
theorem upT_ne {T : Nat → Nat} {k v q : Nat} (h : q ≠ k) : upT T k v q = T q := if_neg h
/-- all that begin as T, with any of 0 .. n in the last m places -/
def enl (n : Nat) : Nat → (Nat → Nat) → List (Nat → Nat)
  | 0, T => [T]
  | m + 1, T => (List.range' 0 (n + 1)).flatMap (fun v => enl n m (upT T (n - m - 1) v))
theorem enl_pre {n : Nat} : ∀ (m : Nat) (T T' : Nat → Nat), m ≤ n → T' ∈ enl n m T → ∀ q, q < n - m → T' q = T q
  | 0, T, T', _, h, q, _ => by
    rw [enl, List.mem_singleton] at h
    rw [h]
  | m + 1, T, T', hm, h, q, hq => by
    rw [enl, List.mem_flatMap] at h
    obtain ⟨v, -, h⟩ := h
    rw [enl_pre m _ T' (by omega) h q (by omega), upT_ne (by omega)]
theorem enl_at {n m v : Nat} {T T' : Nat → Nat} (hm : m + 1 ≤ n) (h : T' ∈ enl n m (upT T (n - m - 1) v)) : T' (n - m - 1) = v := by
  rw [enl_pre m _ T' (by omega) h (n - m - 1) (by omega), upT_at]
theorem enl_dig {n : Nat} : ∀ (m : Nat) (T T' : Nat → Nat), m ≤ n → T' ∈ enl n m T → ∀ q, n - m ≤ q → q < n → T' q ≤ n
  | 0, T, T', _, h, q, h1, h2 => by omega
  | m + 1, T, T', hm, h, q, h1, h2 => by
    rw [enl, List.mem_flatMap] at h
    obtain ⟨v, hv, h⟩ := h
    by_cases e : q = n - m - 1
    · subst e
      rw [enl_at hm h]
      rw [List.mem_range'_1] at hv
      omega
    · exact enl_dig m _ T' (by omega) h q (by omega) h2
theorem enl_len {n : Nat} : ∀ (m : Nat) (T : Nat → Nat), (enl n m T).length = (n + 1) ^ m
  | 0, T => rfl
  | m + 1, T => by
    rw [enl, List.length_flatMap]
    have : (List.range' 0 (n + 1)).map (fun v => (enl n m (upT T (n - m - 1) v)).length) = List.replicate (n + 1) ((n + 1) ^ m) := by
      rw [show (fun v => (enl n m (upT T (n - m - 1) v)).length) = fun _ => (n + 1) ^ m from funext fun v => enl_len m _]
      rw [List.map_const', List.length_range']
    rw [this, List.sum_replicate_nat, Nat.pow_succ, Nat.mul_comm]
/-- the next one, as nextTried makes it: 0 if there is none -/
def nxt (n : Nat) : Nat → (Nat → Nat) → Bool × (Nat → Nat)
  | 0, T => (false, T)
  | k + 1, T => if T k = n then nxt n k (upT T k 0) else (true, upT T k (T k + 1))
theorem nxt_c {n k : Nat} : ∀ (i : Nat) (T : Nat → Nat), (∀ q, k < q → q < k + 1 + i → T q = n) → T k ≠ n → nxt n (k + 1 + i) T = (true, fun q => if q = k then T k + 1 else if k < q ∧ q < k + 1 + i then 0 else T q)
  | 0, T, h1, h2 => by
    rw [Nat.add_zero, nxt, if_neg h2]
    congr 1
    funext q
    unfold upT
    by_cases e : q = k
    · rw [if_pos e, if_pos e]
    · rw [if_neg e, if_neg e, if_neg (by omega)]
  | i + 1, T, h1, h2 => by
    rw [show k + 1 + (i + 1) = (k + 1 + i) + 1 by omega, nxt, if_pos (h1 _ (by omega) (by omega)), nxt_c i _ (fun q a b => by rw [upT_ne (by omega)]; exact h1 q a (by omega)) (by rw [upT_ne (by omega)]; exact h2)]
    congr 1
    funext q
    by_cases e : q = k
    · rw [if_pos e, if_pos e, upT_ne (by omega)]
    · rw [if_neg e, if_neg e]
      by_cases e2 : k < q ∧ q < k + 1 + i
      · rw [if_pos e2, if_pos (by omega)]
      · rw [if_neg e2]
        unfold upT
        by_cases e3 : q = k + 1 + i
        · rw [if_pos e3, if_pos (by omega)]
        · rw [if_neg e3, if_neg (by omega)]
theorem nxt_z {n : Nat} : ∀ (k : Nat) (T : Nat → Nat), (∀ q, q < k → T q = n) → (nxt n k T).1 = false
  | 0, T, _ => rfl
  | k + 1, T, h => by
    rw [nxt, if_pos (h k (by omega))]
    exact nxt_z k _ (fun q hq => by rw [upT_ne (by omega)]; exact h q (by omega))
/-- each is the next of the one ahead -/
def Lkd {A : Type} (R : A → A → Prop) : List A → Prop
  | [] => True
  | [_] => True
  | a :: b :: l => R a b ∧ Lkd R (b :: l)
theorem Lkd_app {A : Type} {R : A → A → Prop} {x y : A} {r : List A} (hR : R x y) (h2 : Lkd R (y :: r)) : ∀ (l : List A), Lkd R (l ++ [x]) → Lkd R (l ++ [x] ++ (y :: r))
  | [], _ => ⟨hR, h2⟩
  | [a], h => ⟨h.1, Lkd_app hR h2 [] trivial⟩
  | a :: b :: l, h => ⟨h.1, Lkd_app hR h2 (b :: l) h.2⟩
def lst (n m : Nat) (T : Nat → Nat) : Nat → Nat := fun q => if n - m ≤ q ∧ q < n then n else T q
abbrev nxR (n : Nat) (a b : Nat → Nat) : Prop := nxt n n a = (true, b)
theorem upT_0 {T : Nat → Nat} {k : Nat} (h : T k = 0) : upT T k 0 = T := by
  funext q
  unfold upT
  split
  · rename_i e
    rw [e, h]
  · rfl
theorem enl_ch {n : Nat} : ∀ (m : Nat) (T : Nat → Nat), m ≤ n → (∀ q, n - m ≤ q → q < n → T q = 0) → (∃ r, enl n m T = T :: r) ∧ (∃ r, enl n m T = r ++ [lst n m T]) ∧ Lkd (nxR n) (enl n m T)
  | 0, T, _, _ => by
    refine ⟨⟨[], rfl⟩, ⟨[], ?_⟩, trivial⟩
    show [T] = [lst n 0 T]
    congr 1
    funext q
    unfold lst
    rw [if_neg (by omega)]
  | m + 1, T, hm, h0 => by
    have key : ∀ (r j : Nat), j + (r + 1) = n + 1 → (∃ l, (List.range' j (r + 1)).flatMap (fun v => enl n m (upT T (n - m - 1) v)) = upT T (n - m - 1) j :: l) ∧ (∃ l, (List.range' j (r + 1)).flatMap (fun v => enl n m (upT T (n - m - 1) v)) = l ++ [lst n m (upT T (n - m - 1) n)]) ∧ Lkd (nxR n) ((List.range' j (r + 1)).flatMap (fun v => enl n m (upT T (n - m - 1) v))) := by
      intro r
      induction r with
      | zero =>
        intro j hj
        have e : j = n := by omega
        rw [e]
        have := enl_ch (n := n) m (upT T (n - m - 1) n) (by omega) (fun q a b => by rw [upT_ne (by omega)]; exact h0 q (by omega) b)
        simpa [List.range'] using this
      | succ r ih =>
        intro j hj
        obtain ⟨⟨l2, a1⟩, ⟨l3, a2⟩, a3⟩ := ih (j + 1) (by omega)
        obtain ⟨⟨r1, b1⟩, ⟨r2, b2⟩, b3⟩ := enl_ch (n := n) m (upT T (n - m - 1) j) (by omega) (fun q a b => by rw [upT_ne (by omega)]; exact h0 q (by omega) b)
        rw [List.range'_succ, List.flatMap_cons]
        refine ⟨⟨_, by rw [b1]; rfl⟩, ⟨_, by rw [a2, ← List.append_assoc]⟩, ?_⟩
        rw [a1] at a3 ⊢
        rw [b2] at b3 ⊢
        refine Lkd_app ?_ a3 r2 b3
        show nxt n n (lst n m (upT T (n - m - 1) j)) = (true, upT T (n - m - 1) (j + 1))
        have e1 : lst n m (upT T (n - m - 1) j) (n - m - 1) = j := by
          unfold lst
          rw [if_neg (by omega), upT_at]
        have := nxt_c (n := n) (k := n - m - 1) m (lst n m (upT T (n - m - 1) j)) (fun q a b => by
          unfold lst
          rw [if_pos (by omega)]) (by rw [e1]; omega)
        rw [show n - m - 1 + 1 + m = n by omega] at this
        rw [this, e1]
        congr 1
        funext q
        unfold upT
        by_cases e : q = n - m - 1
        · rw [if_pos e, if_pos e]
        · rw [if_neg e, if_neg e]
          by_cases e2 : n - m - 1 < q ∧ q < n
          · rw [if_pos e2]
            exact (h0 q (by omega) e2.2).symm
          · rw [if_neg e2]
            unfold lst
            rw [if_neg (by omega)]
            exact if_neg e
    obtain ⟨⟨l1, a1⟩, ⟨l2, a2⟩, a3⟩ := key n 0 (by omega)
    refine ⟨⟨l1, ?_⟩, ⟨l2, ?_⟩, a3⟩
    · rw [enl, a1, upT_0 (h0 _ (by omega) (by omega))]
    · rw [enl, a2]
      congr 2
      funext q
      unfold lst upT
      by_cases e : q = n - m - 1
      · rw [if_neg (by omega), if_pos e, if_pos (by omega)]
      · by_cases e2 : n - m ≤ q ∧ q < n
        · rw [if_pos e2, if_pos (by omega)]
        · rw [if_neg e2, if_neg e, if_neg (by omega)]
def T0 : Nat → Nat := fun _ => 0
/-- a loop that goes through all, with an action at each -/
theorem odo {S X U A : Type} {body : S → AH → Option ((U × AH) ⊕ ((X × AH) ⊕ (S × AH)))} {n : Nat} (mk : A → Int32 → S) (ex : A → X) (G : (Nat → Nat) → A → A) (P : A → (Nat → Nat) → ST → Prop) (a0 : A) (E : List (Nat → Nat)) (hx : ∀ a s, body (mk a 0) (HP s) = some (.inr (.inl (ex a, HP s))))
    (hs : ∀ pre T post s, pre ++ T :: post = E → P (pre.foldl (fun a T => G T a) a0) T s → ∃ s', body (mk (pre.foldl (fun a T => G T a) a0) 1) (HP s) = some (.inr (.inr (mk (G T (pre.foldl (fun a T => G T a) a0)) (if (nxt n n T).1 then 1 else 0), HP s'))) ∧ P (G T (pre.foldl (fun a T => G T a) a0)) (nxt n n T).2 s') :
    ∀ (r pre : List (Nat → Nat)) (T : Nat → Nat) (s : ST) (f : Nat), pre ++ T :: r = E → Lkd (nxR n) (T :: r) → (∀ l, T :: r = l ++ [lst n n T0] ∨ True) → (∃ l, T :: r = l ++ [lst n n T0]) → P (pre.foldl (fun a T => G T a) a0) T s → r.length + 1 < f → ∃ s' T', jloop body f (mk (pre.foldl (fun a T => G T a) a0) 1) (HP s) = some (.inr (ex (E.foldl (fun a T => G T a) a0), HP s')) ∧ P (E.foldl (fun a T => G T a) a0) T' s'
  | [], pre, T, s, f, hE, hL, _, hl, hP, hf => by
    obtain ⟨f, rfl⟩ : ∃ f', f = f' + 2 := ⟨f - 2, by simp at hf; omega⟩
    have eT : T = lst n n T0 := by
      obtain ⟨l, hl⟩ := hl
      cases l with
      | nil => exact (List.cons.inj hl).1
      | cons a l => exact absurd (congrArg List.length hl) (by simp)
    obtain ⟨s', h1, h2⟩ := hs pre T [] s hE hP
    have ez : (nxt n n T).1 = false := by
      rw [eT]
      refine nxt_z n _ (fun q hq => ?_)
      unfold lst
      rw [if_pos (by omega)]
    have eE : E.foldl (fun a T => G T a) a0 = G T (pre.foldl (fun a T => G T a) a0) := by rw [← hE, List.foldl_append]; rfl
    refine ⟨s', (nxt n n T).2, ?_, by rw [eE]; exact h2⟩
    rw [jloop, h1, ez]
    show jloop body (f + 1) (mk (G T (pre.foldl (fun a T => G T a) a0)) 0) (HP s') = _
    rw [jloop, hx, eE]
  | T2 :: r, pre, T, s, f, hE, hL, _, hl, hP, hf => by
    obtain ⟨f, rfl⟩ : ∃ f', f = f' + 1 := ⟨f - 1, by simp at hf; omega⟩
    obtain ⟨s', h1, h2⟩ := hs pre T (T2 :: r) s hE hP
    have hn : nxt n n T = (true, T2) := hL.1
    rw [hn] at h1 h2
    have eP : (pre ++ [T]).foldl (fun a T => G T a) a0 = G T (pre.foldl (fun a T => G T a) a0) := by rw [List.foldl_append]; rfl
    have hl' : ∃ l, T2 :: r = l ++ [lst n n T0] := by
      obtain ⟨l, hl⟩ := hl
      cases l with
      | nil => exact absurd (congrArg List.length hl) (by simp)
      | cons a l => exact ⟨l, (List.cons.inj hl).2⟩
    have := odo mk ex G P a0 E hx hs r (pre ++ [T]) T2 s' f (by rw [List.append_assoc]; exact hE) hL.2 (fun _ => Or.inr trivial) hl' (by rw [eP]; exact h2) (by simp at hf; omega)
    rw [eP] at this
    obtain ⟨s2, T', h3, h4⟩ := this
    refine ⟨s2, T', ?_, h4⟩
    rw [jloop, h1]
    exact h3
/-! the class's drawing -/
def bcn (l : Nat) : Nat := (if l.testBit 0 then 1 else 0) + (if l.testBit 1 then 1 else 0) + (if l.testBit 2 then 1 else 0) + (if l.testBit 3 then 1 else 0) + (if l.testBit 4 then 1 else 0) + (if l.testBit 5 then 1 else 0)
def trl (n : Nat) (B : Nat → Nat) : Nat → Nat → Nat → (Nat → Nat) → List (Nat → Nat)
  | 0, _, left, T => if left = 0 then [T] else []
  | m + 1, p, left, T => (List.range' 0 n).flatMap (fun v => if left.testBit v = true ∧ v ≠ p ∧ (B p).testBit v = false then trl n B m (p + 1) (left ^^^ 2 ^ v) (upT T p v) else []) ++ (if bcn left < m + 1 then trl n B m (p + 1) left (upT T p n) else [])
/-- nobody of p .. has one that is barred for it -/
def okB (B : Nat → Nat) (T : Nat → Nat) : Nat → Nat → Bool
  | 0, _ => true
  | m + 1, p => !(B p).testBit (T p) && okB B T m (p + 1)
def okM (n : Nat) (B : Nat → Nat) (m p left : Nat) (T : Nat → Nat) : Bool := decide (lo n T m p left = some 0) && okB B T m p
set_option maxRecDepth 100000 in
theorem bcn_dec : ∀ l, l < 64 → ∀ v, v < 6 → l.testBit v = true → bcn (l ^^^ 2 ^ v) + 1 = bcn l := by decide +kernel
theorem lo_bcn {n : Nat} (h6 : n ≤ 6) (T : Nat → Nat) : ∀ (m p l : Nat), l < 64 → lo n T m p l = some 0 → bcn l ≤ m
  | 0, p, l, hl, h => by
    rw [lo] at h
    rw [Option.some.inj h]
    decide
  | m + 1, p, l, hl, h => by
    rw [lo] at h
    by_cases c1 : n ≤ T p
    · rw [if_pos c1] at h
      have := lo_bcn h6 T m (p + 1) l hl h
      omega
    · rw [if_neg c1] at h
      by_cases c2 : T p = p
      · rw [if_pos c2] at h; cases h
      · rw [if_neg c2] at h
        by_cases c3 : l.testBit (T p) = true
        · rw [if_pos c3] at h
          have := lo_bcn h6 T m (p + 1) _ (xor_lt hl (by omega)) h
          have := bcn_dec l hl (T p) (by omega) c3
          omega
        · rw [if_neg c3] at h; cases h
theorem fm_congr {A C : Type} {f g : A → List C} : ∀ (l : List A), (∀ x, x ∈ l → f x = g x) → l.flatMap f = l.flatMap g
  | [], _ => rfl
  | a :: l, h => by
    rw [List.flatMap_cons, List.flatMap_cons, h a List.mem_cons_self, fm_congr l (fun x hx => h x (List.mem_cons_of_mem a hx))]
theorem filter_none {A : Type} {P : A → Bool} {l : List A} (h : ∀ x, x ∈ l → P x = false) : l.filter P = [] := by
  rw [List.filter_eq_nil_iff]
  intro x hx
  rw [h x hx]
  simp
theorem trl_enl {n : Nat} (h6 : n ≤ 6) {B : Nat → Nat} (hB : ∀ p, p < n → B p < 2 ^ n) : ∀ (m p left : Nat) (T : Nat → Nat), p + m = n → left < 64 → trl n B m p left T = (enl n m T).filter (okM n B m p left)
  | 0, p, left, T, _, _ => by
    rw [trl, enl]
    unfold okM
    by_cases h : left = 0
    · simp [h, lo, okB]
    · simp [h, lo, okB]
  | m + 1, p, left, T, hp, hl => by
    have hk : n - m - 1 = p := by omega
    rw [trl, enl, hk, List.range'_1_concat, List.flatMap_append, List.filter_append, List.filter_flatMap]
    congr 1
    · have e : ∀ v, v ∈ List.range' 0 n → (if left.testBit v = true ∧ v ≠ p ∧ (B p).testBit v = false then trl n B m (p + 1) (left ^^^ 2 ^ v) (upT T p v) else []) = (enl n m (upT T p v)).filter (okM n B (m + 1) p left) := fun v hv => by
        rw [List.mem_range'_1] at hv
        have hat : ∀ T', T' ∈ enl n m (upT T p v) → T' p = v := fun T' h => by
          have := enl_at (T := T) (T' := T') (v := v) (show m + 1 ≤ n by omega) (by rw [hk]; exact h)
          rwa [hk] at this
        by_cases c : left.testBit v = true ∧ v ≠ p ∧ (B p).testBit v = false
        · rw [if_pos c, trl_enl h6 hB m (p + 1) _ _ (by omega) (xor_lt hl (by omega))]
          refine List.filter_congr (fun T' hT' => ?_)
          unfold okM
          rw [lo, okB, hat T' hT', if_neg (by omega), if_neg c.2.1, if_pos c.1, c.2.2]
          rfl
        · rw [if_neg c]
          refine (filter_none (fun T' hT' => ?_)).symm
          unfold okM
          rw [lo, okB, hat T' hT', if_neg (by omega)]
          by_cases c1 : v = p
          · rw [if_pos c1]; simp
          · rw [if_neg c1]
            by_cases c2 : left.testBit v = true
            · have c3 : (B p).testBit v = true := by
                cases h : (B p).testBit v with
                | true => rfl
                | false => exact absurd ⟨c2, c1, h⟩ c
              rw [c3]
              simp
            · rw [if_neg c2]; simp
      exact fm_congr _ e
    · have hb : (B p).testBit n = false := Nat.testBit_lt_two_pow (hB p (by omega))
      have hat : ∀ T', T' ∈ enl n m (upT T p n) → T' p = n := fun T' h => by
        have := enl_at (T := T) (T' := T') (v := n) (show m + 1 ≤ n by omega) (by rw [hk]; exact h)
        rwa [hk] at this
      rw [show 0 + n = n by omega, List.flatMap_singleton]
      have e : ∀ T', T' ∈ enl n m (upT T p n) → okM n B (m + 1) p left T' = okM n B m (p + 1) left T' := fun T' h => by
        unfold okM
        rw [lo, okB, hat T' h, if_pos (Nat.le_refl n), hb]
        rfl
      rw [List.filter_congr e]
      by_cases c : bcn left < m + 1
      · rw [if_pos c, trl_enl h6 hB m (p + 1) _ _ (by omega) hl]
      · rw [if_neg c]
        refine (filter_none (fun T' hT' => ?_)).symm
        unfold okM
        by_cases h : lo n T' m (p + 1) left = some 0
        · exact absurd (lo_bcn h6 T' m (p + 1) left hl h) (by omega)
        · simp [h]
set_option maxRecDepth 100000 in
theorem trl_320 : ∀ n, n < 7 → ∀ V, V < 2 ^ n → (trl n (fun _ => 0) n 0 V T0).length ≤ 309 := by decide +kernel
set_option maxRecDepth 100000 in
theorem trl_265 : ∀ n, n < 7 → (trl n (fun _ => 0) n 0 (2 ^ n - 1) T0).length ≤ 265 := by decide +kernel
theorem okB_0 (T : Nat → Nat) : ∀ m p, okB (fun _ => 0) T m p = true
  | 0, _ => rfl
  | m + 1, p => by rw [okB, okB_0 T m, Nat.zero_testBit]; rfl
theorem pow64 {n : Nat} (h6 : n ≤ 6) : 2 ^ n ≤ 64 := Nat.pow_le_pow_right (n := 2) (by omega) h6
/-- fewer, if some are barred -/
theorem trl_less {n V : Nat} (h6 : n ≤ 6) {B : Nat → Nat} (hB : ∀ p, p < n → B p < 2 ^ n) (hV : V < 2 ^ n) : (trl n B n 0 V T0).length ≤ (trl n (fun _ => 0) n 0 V T0).length := by
  have hl : V < 64 := Nat.lt_of_lt_of_le hV (pow64 h6)
  rw [trl_enl h6 hB n 0 V T0 (by omega) hl, trl_enl h6 (B := fun _ => 0) (fun _ _ => Nat.two_pow_pos n) n 0 V T0 (by omega) hl]
  have : (enl n n T0).filter (okM n B n 0 V) = ((enl n n T0).filter (okM n (fun _ => 0) n 0 V)).filter (fun T => okB B T n 0) := by
    rw [List.filter_filter]
    refine List.filter_congr (fun T _ => ?_)
    unfold okM
    rw [okB_0, Bool.and_true, Bool.and_comm]
  rw [this]
  exact List.length_filter_le _ _
