/-! ===== stores read back ===== -/
theorem sI_uI (s : ST) (k : Nat) (v : Int32) (j : Nat) : sI (uI s k v) j = if j = k then v else sI s j := rfl
theorem sI_uL (s : ST) (k : Nat) (v : Int64) : sI (uL s k v) = sI s := rfl
theorem sI_uV (s : ST) (k i : Nat) (v : Int32) : sI (uV s k i v) = sI s := rfl
theorem sI_uA (s : ST) (k : Nat) (f : Nat → Int32) : sI (uA s k f) = sI s := rfl
theorem sI_uS (s : ST) (b : Bool) : sI (uS s b) = sI s := rfl
theorem sL_uI (s : ST) (k : Nat) (v : Int32) : sL (uI s k v) = sL s := rfl
theorem sL_uV (s : ST) (k i : Nat) (v : Int32) : sL (uV s k i v) = sL s := rfl
theorem sL_uA (s : ST) (k : Nat) (f : Nat → Int32) : sL (uA s k f) = sL s := rfl
theorem sL_uL (s : ST) (k : Nat) (v : Int64) (j : Nat) : sL (uL s k v) j = if j = k then v else sL s j := rfl
theorem sV_uI (s : ST) (k : Nat) (v : Int32) : sV (uI s k v) = sV s := rfl
theorem sV_uL (s : ST) (k : Nat) (v : Int64) : sV (uL s k v) = sV s := rfl
theorem sV_uS (s : ST) (b : Bool) : sV (uS s b) = sV s := rfl
theorem sV_uV (s : ST) (k i : Nat) (v : Int32) (j n : Nat) : sV (uV s k i v) j n = if j = k then (if n = i then v else sV s k n) else sV s j n := by
  show (if j = k then (fun n => if n = i then v else sV s k n) else sV s j) n = _
  split <;> rfl
theorem sV_uVne {s : ST} {k i : Nat} {v : Int32} {j : Nat} (h : j ≠ k) : sV (uV s k i v) j = sV s j := by
  show (if j = k then _ else sV s j) = _
  rw [if_neg h]
theorem sV_uA (s : ST) (k : Nat) (f : Nat → Int32) (j : Nat) : sV (uA s k f) j = if j = k then f else sV s j := rfl
theorem sW_uI (s : ST) (k : Nat) (v : Int32) : sW (uI s k v) = sW s := rfl
theorem sW_uL (s : ST) (k : Nat) (v : Int64) : sW (uL s k v) = sW s := rfl
theorem sW_uV (s : ST) (k i : Nat) (v : Int32) : sW (uV s k i v) = sW s := rfl
theorem sW_uA (s : ST) (k : Nat) (f : Nat → Int32) : sW (uA s k f) = sW s := rfl
/-! ===== what each part of the invariant rests on ===== -/
def TyT (k : Nat) : Prop := 16 ≤ k ∧ k < 28 ∨ 5 ≤ k ∧ k < 9 ∨ 48 ≤ k ∧ k < 60 ∨ 61 ≤ k ∧ k < 66
def IdT (k : Nat) : Prop := k = 1921 ∨ k = 1926 ∨ 160 ≤ k ∧ k < 168 ∨ 512 ≤ k ∧ k < 800 ∨ 1536 ≤ k ∧ k < 1920
def SameT (s s' : ST) : Prop := sW s' = sW s ∧ (∀ k, TyT k → sV s' k = sV s k) ∧ ∀ k, IdT k → sI s' k = sI s k
def SameR (s s' : ST) : Prop := (∀ k, (28 ≤ k ∧ k < 48 ∨ 66 ≤ k ∧ k < 70) → sV s' k = sV s k) ∧ ∀ k, (896 ≤ k ∧ k < 1536) → sI s' k = sI s k
def SameM (s s' : ST) : Prop := sI s' 10 = sI s 10 ∧ sI s' 11 = sI s 11 ∧ sI s' 1931 = sI s 1931 ∧ sI s' 1934 = sI s 1934 ∧ sL s' = sL s ∧ sV s' 15 = sV s 15 ∧ sV s' 70 = sV s 70
theorem SameT.rf (s : ST) : SameT s s := ⟨rfl, fun _ _ => rfl, fun _ _ => rfl⟩
theorem SameR.rf (s : ST) : SameR s s := ⟨fun _ _ => rfl, fun _ _ => rfl⟩
theorem SameM.rf (s : ST) : SameM s s := ⟨rfl, rfl, rfl, rfl, rfl, rfl, rfl⟩
theorem SameT.trans {a b c : ST} (h : SameT a b) (k : SameT b c) : SameT a c := ⟨k.1.trans h.1, fun i hi => (k.2.1 i hi).trans (h.2.1 i hi), fun i hi => (k.2.2 i hi).trans (h.2.2 i hi)⟩
theorem SameR.trans {a b c : ST} (h : SameR a b) (k : SameR b c) : SameR a c := ⟨fun i hi => (k.1 i hi).trans (h.1 i hi), fun i hi => (k.2 i hi).trans (h.2 i hi)⟩
theorem SameT.uV {s : ST} {k i : Nat} {v : Int32} (h : ¬ TyT k) : SameT s (uV s k i v) := ⟨rfl, fun j hj => sV_uVne (fun e => h (e ▸ hj)), fun _ _ => rfl⟩
theorem SameT.uA {s : ST} {k : Nat} {f : Nat → Int32} (h : ¬ TyT k) : SameT s (uA s k f) := ⟨rfl, fun j hj => by rw [sV_uA, if_neg (fun e : j = k => h (e ▸ hj))], fun _ _ => rfl⟩
theorem SameT.uI {s : ST} {k : Nat} {v : Int32} (h : ¬ IdT k) : SameT s (uI s k v) := ⟨rfl, fun _ _ => rfl, fun j hj => by rw [sI_uI, if_neg (fun e : j = k => h (e ▸ hj))]⟩
theorem SameT.uL {s : ST} {k : Nat} {v : Int64} : SameT s (uL s k v) := ⟨rfl, fun _ _ => rfl, fun _ _ => rfl⟩
theorem SameR.uV {s : ST} {k i : Nat} {v : Int32} (h : ¬ (28 ≤ k ∧ k < 48 ∨ 66 ≤ k ∧ k < 70)) : SameR s (uV s k i v) := ⟨fun j hj => sV_uVne (fun e => h (e ▸ hj)), fun _ _ => rfl⟩
theorem SameR.uI {s : ST} {k : Nat} {v : Int32} (h : ¬ (896 ≤ k ∧ k < 1536)) : SameR s (uI s k v) := ⟨fun _ _ => rfl, fun j hj => by rw [sI_uI, if_neg (fun e : j = k => h (e ▸ hj))]⟩
theorem SameR.uL {s : ST} {k : Nat} {v : Int64} : SameR s (uL s k v) := ⟨fun _ _ => rfl, fun _ _ => rfl⟩
theorem InvS_same {s s' : ST} {n cv cd cf u b : Nat} (h1 : sV s' cv = sV s cv) (h2 : sV s' cd = sV s cd) (h3 : sV s' cf = sV s cf) (h4 : sV s' 61 = sV s 61) (h5 : sV s' 63 = sV s 63) (h : InvS s n cv cd cf u b) : InvS s' n cv cd cf u b := by
  unfold InvS at h ⊢
  rw [h1, h2, h3, h4, h5]
  exact h
theorem InvT_same {s s' : ST} {n k b : Nat} (hs : SameT s s') (hk : k = 5 ∨ ∃ i, i < 3 ∧ k = 48 + 4 * i) (h : InvT s n k b) : InvT s' n k b := by
  obtain ⟨t, h1, h2, h3, h4, h5⟩ := h
  have hk2 : k = 5 ∨ (48 ≤ k ∧ k ≤ 56) := by
    rcases hk with hk | ⟨i, hi, hk⟩
    · exact Or.inl hk
    · exact Or.inr (by omega)
  have e1 : sV s' (k + 1) = sV s (k + 1) := hs.2.1 _ (by unfold TyT; omega)
  have e2 : sV s' (k + 2) = sV s (k + 2) := hs.2.1 _ (by unfold TyT; omega)
  have e3 : sV s' (k + 3) = sV s (k + 3) := hs.2.1 _ (by unfold TyT; omega)
  have e4 : sV s' 61 = sV s 61 := hs.2.1 _ (by unfold TyT; omega)
  have e5 : sV s' 63 = sV s 63 := hs.2.1 _ (by unfold TyT; omega)
  have e6 : sI s' (32 * k + 3) = sI s (32 * k + 3) := hs.2.2 _ (by unfold IdT; omega)
  exact ⟨t, h1, by rw [e6]; exact h2, by rw [e4]; exact h3, InvS_same e1 e2 e3 e4 e5 h4, fun u hu => InvS_same e1 e2 e3 e4 e5 (h5 u hu)⟩
theorem InvF_same {s s' : ST} {n : Nat} (hs : SameT s s') (h : InvF s n) : InvF s' n := by
  have hF : fA (sW s) = 16 ∨ fA (sW s) = 22 := by cases sW s <;> decide
  unfold InvF at h ⊢
  rw [hs.1]
  generalize fA (sW s) = F at h hF ⊢
  have e1 : sV s' (F + 1) = sV s (F + 1) := hs.2.1 _ (by unfold TyT; omega)
  have e2 : sV s' (F + 2) = sV s (F + 2) := hs.2.1 _ (by unfold TyT; omega)
  have e3 : sV s' (F + 3) = sV s (F + 3) := hs.2.1 _ (by unfold TyT; omega)
  have e4 : sV s' (F + 4) = sV s (F + 4) := hs.2.1 _ (by unfold TyT; omega)
  have f1 : sV s' 62 = sV s 62 := hs.2.1 _ (by unfold TyT; omega)
  have f2 : sV s' 63 = sV s 63 := hs.2.1 _ (by unfold TyT; omega)
  have f3 : sV s' 64 = sV s 64 := hs.2.1 _ (by unfold TyT; omega)
  have f4 : sV s' 65 = sV s 65 := hs.2.1 _ (by unfold TyT; omega)
  have g1 : sI s' 1921 = sI s 1921 := hs.2.2 _ (by unfold IdT; omega)
  have g2 : sI s' 1926 = sI s 1926 := hs.2.2 _ (by unfold IdT; omega)
  have g3 : sI s' (32 * F + 5) = sI s (32 * F + 5) := hs.2.2 _ (by unfold IdT; omega)
  have g4 : sI s' (32 * F + 6) = sI s (32 * F + 6) := hs.2.2 _ (by unfold IdT; omega)
  rw [e1, e2, e3, e4, f1, f2, f3, f4, g1, g2, g3, g4]
  exact h
theorem InvK_same {s s' : ST} {n : Nat} (hs : SameT s s') (h : InvK s n) : InvK s' n := by
  intro k hk
  have e1 : sI s' (32 * (48 + 4 * k) + 4) = sI s (32 * (48 + 4 * k) + 4) := hs.2.2 _ (by unfold IdT; omega)
  have e4 : sV s' 61 = sV s 61 := hs.2.1 _ (by unfold TyT; omega)
  rw [e1, e4]
  rcases h k hk with h | ⟨h, h2⟩
  · exact Or.inl h
  · exact Or.inr ⟨h, InvT_same hs (Or.inr ⟨k, hk, rfl⟩) h2⟩
abbrev InvA (s : ST) : Prop := ∃ n : Nat, InvF s n ∧ InvT s n 5 0 ∧ InvK s n
theorem InvA_same {s s' : ST} (hs : SameT s s') (h : InvA s) : InvA s' := by
  obtain ⟨n, h1, h2, h3⟩ := h
  exact ⟨n, InvF_same hs h1, InvT_same hs (Or.inl rfl) h2, InvK_same hs h3⟩
theorem InvL_same {s s' : ST} {c z i a b m : Nat} (hs : SameR s s') (hc : 28 ≤ c ∧ c + 1 < 48) (hz : 66 ≤ z ∧ z < 70) (ha : 66 ≤ a ∧ a < 70) (h : InvL s c z i a b m) : InvL s' c z i a b m := by
  have e1 : sI s' (32 * c + 1) = sI s (32 * c + 1) := hs.2 _ (by omega)
  have e2 : sV s' z = sV s z := hs.1 _ (by omega)
  have e3 : sV s' (c + 1) = sV s (c + 1) := hs.1 _ (by omega)
  have e4 : sV s' a = sV s a := hs.1 _ (by omega)
  unfold InvL at h ⊢
  rw [e1, e2, e3, e4]
  exact h
theorem InvR_same {s s' : ST} (hs : SameR s s') (h : InvR s) : InvR s' := ⟨fun i hi => InvL_same hs (by omega) (by omega) (by omega) (h.1 i hi), fun i hi => InvL_same hs (by omega) (by omega) (by omega) (h.2 i hi)⟩
theorem InvM_same {s s' : ST} (hs : SameM s s') (h : InvM s) : InvM s' := by
  obtain ⟨a1, a2, a3, a4, a5, a6, a7⟩ := hs
  unfold InvM at h ⊢
  rw [a1, a2, a3, a4, a5, a6, a7]
  exact h
/-! ===== findings ===== -/
def fnd5 (s : ST) (f : Nat) : ST := uV (uI s 10 (nI f)) 15 f (sV s 15 f + 1)
def fnd6 (s : ST) (f : Nat) : ST := uV (uI s 1934 (nI f)) 70 f (sV s 70 f + 1)
theorem p5_find (s : ST) {x : Int32} (f : Nat) (hx : x = nI f) (h1 : 1 ≤ f) (h2 : f ≤ 5) : f_X5_find (some 0) x (HP s) = some (-3, HP (fnd5 s f)) := by
  subst hx
  have e1 : ¬ nI f < 1 := nI_nlt (a := f) (b := 1) h1 (by omega)
  have e2 : ¬ (5 : Int32) < nI f := nI_nlt (a := 5) (b := f) h2 (by omega)
  unfold f_X5_find
  rw [if_neg e1, if_neg e2, sF_0_10, Option.bind_some, gR_0_7, Option.bind_some, HP_gAn _ (show f < hLen 15 by show f < 6; omega) (by omega), Option.bind_some, HP_sAn _ _ (show f < hLen 15 by show f < 6; omega) (by omega), Option.bind_some]
  rfl
theorem p6_find (s : ST) {x : Int32} (f : Nat) (hx : x = nI f) (h2 : f ≤ 5) : f_X6_find (some 60) x (HP s) = some (-3, HP (fnd6 s f)) := by
  subst hx
  unfold f_X6_find
  rw [sF_60_14, Option.bind_some, gR_60_15, Option.bind_some, HP_gAn _ (show f < hLen 70 by show f < 6; omega) (by omega), Option.bind_some, HP_sAn _ _ (show f < hLen 70 by show f < 6; omega) (by omega), Option.bind_some]
  rfl
theorem inv_find {s : ST} (hI : Inv s) (f : Nat) : Inv (fnd6 (fnd5 s f) f) := by
  obtain ⟨hA, hR, hM⟩ := hI
  refine ⟨InvA_same (((SameT.uI (by unfold IdT; omega)).trans (SameT.uV (by unfold TyT; omega))).trans ((SameT.uI (by unfold IdT; omega)).trans (SameT.uV (by unfold TyT; omega)))) hA, InvR_same (((SameR.uI (by omega)).trans (SameR.uV (by omega))).trans ((SameR.uI (by omega)).trans (SameR.uV (by omega)))) hR, ?_⟩
  obtain ⟨a1, a2, a3, a4, a5⟩ := hM
  refine ⟨a1, rfl, a3, a4, fun g h1 h2 => ?_⟩
  show sV (uV (uI (fnd5 s f) 1934 (nI f)) 70 f (sV (fnd5 s f) 70 f + 1)) 15 g = sV (uV (uI (fnd5 s f) 1934 (nI f)) 70 f (sV (fnd5 s f) 70 f + 1)) 70 g
  simp only [fnd5, sV_uV, sV_uI, sI_uI]
  by_cases hg : g = f
  · subst hg
    simp [a5 g h1 h2]
  · simp [hg, a5 g h1 h2]
/-- an answer of both that changes nothing -/
theorem ag_same {s : ST} (hI : Inv s) {α : Type} {v : α} {a b : AH → Option (α × AH)} (h1 : a (HP s) = some (v, HP s)) (h2 : b (HP s) = some (v, HP s)) : ∃ (v : α) (s1 s2 : ST), a (HP s) = some (v, HP s1) ∧ b (HP s1) = some (v, HP s2) ∧ Inv s2 := ⟨v, s, s, h1, h2, hI⟩
theorem ag_asked {s : ST} (hI : Inv s) : ∃ (v : Int32) (s1 s2 : ST), f_X5_asked (some 0) (HP s) = some (v, HP s1) ∧ f_X6_asked (some 60) (HP s1) = some (v, HP s2) ∧ Inv s2 :=
  ⟨sI s 11, s, s, rfl, by rw [hI.2.2.1]; rfl, hI⟩
theorem ag_finding {s : ST} (hI : Inv s) : ∃ (v : Int32) (s1 s2 : ST), f_X5_finding (some 0) (HP s) = some (v, HP s1) ∧ f_X6_finding (some 60) (HP s1) = some (v, HP s2) ∧ Inv s2 :=
  ⟨sI s 10, s, s, rfl, by rw [hI.2.2.2.1]; rfl, hI⟩
theorem ag_upper {s : ST} (hI : Inv s) : ∃ (v : Int64) (s1 s2 : ST), f_X5_upper (some 0) (HP s) = some (v, HP s1) ∧ f_X6_upper (some 60) (HP s1) = some (v, HP s2) ∧ Inv s2 :=
  ⟨sL s 0, s, s, rfl, by rw [hI.2.2.2.2.1]; rfl, hI⟩
theorem ag_lower {s : ST} (hI : Inv s) : ∃ (v : Int64) (s1 s2 : ST), f_X5_lower (some 0) (HP s) = some (v, HP s1) ∧ f_X6_lower (some 60) (HP s1) = some (v, HP s2) ∧ Inv s2 :=
  ⟨sL s 1, s, s, rfl, by rw [hI.2.2.2.2.2.1]; rfl, hI⟩
