/-! ===== the reference: items, the whole TEXT ===== -/
def r01 (o : Nat ⊕ PSt) : Int32 := match o with
  | .inl _ => 0
  | .inr _ => 1
theorem e5n (m : Nat) : 5 * nI m = nI (5 * m) := pk_mul 5 m
theorem nI_4 (a : Nat) : nI a + 4 = nI (a + 4) := nI_add a 4
def addS (s : ST) (m : Nat) (k A Z v x : Int32) : ST := uI (uV (uV (uV (uV (uV s 71 (5 * m) k) 71 (5 * m + 1) A) 71 (5 * m + 2) Z) 71 (5 * m + 3) v) 71 (5 * m + 4) x) 1940 (nI (m + 1))
theorem addS_S {s : ST} {m : Nat} {k A Z v x : Int32} : SameS s (addS s m k A Z v x) := (((((SameS.uV (by unfold ScA; omega)).trans (SameS.uV (by unfold ScA; omega))).trans (SameS.uV (by unfold ScA; omega))).trans (SameS.uV (by unfold ScA; omega))).trans (SameS.uV (by unfold ScA; omega))).trans (SameS.uI (by unfold ScI; omega))
theorem RP_add {s : ST} {b z k' : Nat} {a : PSt} (h : RP s b z a k') (hP : PI a) (h6 : a.1 < 6) (k A Z x : Nat) (v : Int32) : RP (addS s a.1 (nI k) (nI A) (nI Z) v (nI x)) b z (addP a k A Z v x) k' := by
  obtain ⟨r1, r2, r3, r4, r5, r6, r7⟩ := h
  have i0 : ∀ j, j ≠ 1940 → sI (addS s a.1 (nI k) (nI A) (nI Z) v (nI x)) j = sI s j := fun j hj => by unfold addS; rw [sI_uI, if_neg hj]; rfl
  refine ⟨by rw [i0 _ (by omega)]; exact r1, by rw [i0 _ (by omega)]; exact r2, by rw [i0 _ (by omega)]; exact r3, by unfold addS; rw [sI_uI, if_pos rfl]; rfl, by rw [i0 _ (by omega)]; exact r5, fun j hj c hc => ?_, fun j hj => ?_⟩
  · have hj : j < a.1 + 1 := hj
    unfold addS addP
    simp only [sV_uI, sV_uV, if_true]
    by_cases e : j = a.1
    · subst e
      simp only [if_true]
      match c, hc with
      | 0, _ => rw [if_neg (by omega), if_neg (by omega), if_neg (by omega), if_neg (by omega), if_pos (by omega), if_pos rfl]
      | 1, _ => rw [if_neg (by omega), if_neg (by omega), if_neg (by omega), if_pos (by omega), if_neg (by omega), if_pos rfl]
      | 2, _ => rw [if_neg (by omega), if_neg (by omega), if_pos (by omega), if_neg (by omega), if_neg (by omega), if_pos rfl]
      | 3, _ => rw [if_neg (by omega), if_pos (by omega), if_neg (by omega), if_neg (by omega), if_neg (by omega), if_pos rfl]
      | 4, _ => rw [if_pos (by omega), if_neg (by omega), if_neg (by omega), if_neg (by omega), if_neg (by omega)]
      | c + 5, hc => exact absurd hc (by omega)
    · rw [if_neg (by omega), if_neg (by omega), if_neg (by omega), if_neg (by omega), if_neg (by omega), if_neg e]
      exact r6 j (by omega) c hc
  · show _ = nI (upT a.2.2.2 a.1 0 j)
    have e : upT a.2.2.2 a.1 0 j = a.2.2.2 j := by
      unfold upT
      split
      · rename_i e
        rw [e, hP.2.2.2 a.1 (Nat.le_refl _)]
      · rfl
    rw [e]
    unfold addS
    rw [sV_uI, sV_uVne (by omega), sV_uVne (by omega), sV_uVne (by omega), sV_uVne (by omega), sV_uVne (by omega)]
    exact r7 j hj
theorem rdp6 {s : ST} {b z i : Nat} {a : PSt} (hb : b < 4) (h : RP s b z a i) (hz : z ≤ 60) (hi : i < z) (hP : PI a) : ∃ s', f_X6_readsPerson (some 60) (HP s) = some (r01 (rdP (fun p => sV s 69 (60 * b + p)) z i a), HP s') ∧ SameS s s' ∧ (∀ x, rdP (fun p => sV s 69 (60 * b + p)) z i a = .inl x → sI s' 1937 = nI x) ∧ ∀ a', rdP (fun p => sV s 69 (60 * b + p)) z i a = .inr a' → RP s' b z a' (i + 4) := by
  have hh := here6 hb h (show i < 60 by omega)
  have h1 := RP_pl (k' := i + 1) h
  have h2 := RP_pl (k' := i + 2) h1
  have h3 := RP_pl (k' := i + 3) h2
  have h4 := RP_pl (k' := i + 4) h3
  have fA1 : f_X6_figure (some 60) 1 9 (HP (uI s 1937 (nI (i + 1)))) = _ := fig6 (lo := 1) (hi := 9) hb h1 hz (by omega) (by omega) (by omega)
  generalize hW : (fun p => sV s 69 (60 * b + p)) = W
  have hWi : sV s 69 (60 * b + i) = W i := by rw [← hW]
  rw [hWi] at hh
  have eW : ∀ s', sV s' 69 = sV s 69 → (fun p => sV s' 69 (60 * b + p)) = W := fun s' e => by rw [← hW, e]
  rw [eW (uI s 1937 (nI (i + 1))) rfl] at fA1
  obtain ⟨r1, r2, r3, r4, r5, r6, r7⟩ := h
  have e6 : (nI a.1 = 6) = (a.1 = 6) := propext (nI_eq (a := a.1) (b := 6) (by have := hP.1; omega) (by omega))
  have e0 : (nI a.2.1 ≤ 0) = (a.2.1 ≤ 0) := propext (nI_leI (a := a.2.1) (b := 0) (by have := hP.2.1; omega) (by omega))
  unfold rdP
  cases hk : kdF (W i) 6 0 with
  | none =>
    refine ⟨s, ?_, SameS.rf s, fun x e => by cases e; exact r2, fun a' e => by cases e⟩
    simp -implicitDefEqProofs only [f_X6_readsPerson, qO_60, if_true, hh, Option.bind_some, kl6, hk, oI, r01]
  | some k =>
    have hk6 := kdF_lt 6 0 k hk
    have nk : ¬ nI k = -9 := nI_n9 (by omega)
    by_cases c2 : a.1 = 6
    · simp only [if_pos (show 0 < a.2.1 ∨ 6 ≤ a.1 from Or.inr (by omega))]
      refine ⟨s, ?_, SameS.rf s, fun x e => by cases e; exact r2, fun a' e => by cases e⟩
      simp -implicitDefEqProofs only [f_X6_readsPerson, qO_60, if_true, hh, Option.bind_some, kl6, hk, oI, nk, if_false, gI_60_20, r4, c2, if_pos (show nI 6 = 6 from rfl), r01]
    by_cases c1 : a.2.1 ≤ 0
    case neg =>
      simp only [if_pos (show 0 < a.2.1 ∨ 6 ≤ a.1 from Or.inl (by omega))]
      refine ⟨s, ?_, SameS.rf s, fun x e => by cases e; exact r2, fun a' e => by cases e⟩
      simp -implicitDefEqProofs only [f_X6_readsPerson, qO_60, if_true, hh, Option.bind_some, kl6, hk, oI, nk, if_false, gI_60_20, r4, e6, c2, gI_60_22, r5, e0, c1, r01]
    have hm6 : a.1 < 6 := by have := hP.1; omega
    simp only [if_neg (show ¬ (0 < a.2.1 ∨ 6 ≤ a.1) by omega)]
    cases hA : fg W z (i + 1) 1 9 with
    | none =>
      rw [hA] at fA1
      refine ⟨uI s 1937 (nI (i + 1)), ?_, S_pl, fun x e => by cases e; rw [sI_uI, if_pos rfl], fun a' e => by cases e⟩
      simp -implicitDefEqProofs only [f_X6_readsPerson, f_X6_readsPerson_j67, qO_60, if_true, hh, Option.bind_some, kl6, hk, oI, nk, if_false, gI_60_20, r4, e6, c2, gI_60_22, r5, e0, c1, gI_60_17, r2, nI_1, sF_60_17, fA1, r01]
    | some A =>
      rw [hA] at fA1
      obtain ⟨a1, a2, a3, a4⟩ := fg_spec hA
      have nA : ¬ nI A = -9 := nI_n9 (by omega)
      have fZ : f_X6_figure (some 60) 0 5 (HP (uI (uI s 1937 (nI (i + 1))) 1937 (nI (i + 2)))) = _ := fig6 (lo := 0) (hi := 5) hb h2 hz (by omega) (by omega) (by omega)
      rw [eW (uI (uI s 1937 (nI (i + 1))) 1937 (nI (i + 2))) rfl] at fZ
      cases hZ : fg W z (i + 2) 0 5 with
      | none =>
        rw [hZ] at fZ
        refine ⟨uI (uI s 1937 (nI (i + 1))) 1937 (nI (i + 2)), ?_, S_pl.trans S_pl, fun x e => by cases e; rw [sI_uI, if_pos rfl], fun a' e => by cases e⟩
        simp -implicitDefEqProofs only [f_X6_readsPerson, f_X6_readsPerson_j67, qO_60, if_true, hh, Option.bind_some, kl6, hk, oI, nk, if_false, gI_60_20, r4, e6, c2, gI_60_22, r5, e0, c1, gI_60_17, r2, nI_1, sF_60_17, fA1, nA, fZ, r01]
      | some Z =>
        rw [hZ] at fZ
        obtain ⟨z1, z2, z3, z4⟩ := fg_spec hZ
        have nZ : ¬ nI Z = -9 := nI_n9 (by omega)
        generalize hs3 : uI (uI (uI s 1937 (nI (i + 1))) 1937 (nI (i + 2))) 1937 (nI (i + 2 + 1)) = s3 at fZ
        have h3 : RP s3 b z a (i + 3) := by rw [← hs3]; exact RP_pl h2
        have S3 : SameS s s3 := by rw [← hs3]; exact (S_pl.trans S_pl).trans S_pl
        have V3 : sV s3 = sV s := by rw [← hs3]; rfl
        have to67 : f_X6_readsPerson (some 60) (HP s) = f_X6_readsPerson_j67 (some 60) (nI k) (nI A) (nI Z) (HP s3) := by
          simp -implicitDefEqProofs only [f_X6_readsPerson, qO_60, if_true, hh, Option.bind_some, kl6, hk, oI, nk, if_false, gI_60_20, r4, e6, c2, gI_60_22, r5, e0, c1, gI_60_17, r2, nI_1, sF_60_17, fA1, nA, fZ]
        rw [to67]
        have ez : (nI (i + 3) = nI z) = (i + 3 = z) := propext (nI_eq (by omega) (by omega))
        obtain ⟨t1, t2, t3, t4, t5, t6, t7⟩ := id h3
        have fin : ∀ (s4 : ST) (v : Int32), RP s4 b z a (i + 4) → f_X6_readsPerson_j161 (some 60) (nI k) (nI A) (nI Z) (nI (i + 3)) v (HP s4) = some (1, HP (addS s4 a.1 (nI k) (nI A) (nI Z) v (nI (i + 3)))) := fun s4 v q => by
          have q4 : ∀ k1 k2 k3 k4 k5 : Int32, sI (uV (uV (uV (uV (uV s4 71 (5 * a.1) k1) 71 (5 * a.1 + 1) k2) 71 (5 * a.1 + 2) k3) 71 (5 * a.1 + 3) k4) 71 (5 * a.1 + 4) k5) 1940 = nI a.1 := fun _ _ _ _ _ => q.2.2.2.1
          simp -implicitDefEqProofs only [f_X6_readsPerson_j161, gI_60_20, q.2.2.2.1, Option.bind_some, gR_60_19, e5n, nI_1, nI_2, nI_3, nI_4, s71 _ (show 5 * a.1 < 30 by omega), s71 _ (show 5 * a.1 + 1 < 30 by omega), s71 _ (show 5 * a.1 + 2 < 30 by omega), s71 _ (show 5 * a.1 + 3 < 30 by omega), s71 _ (show 5 * a.1 + 4 < 30 by omega), q4, sF_60_20, addS]
        by_cases c4 : i + 3 = z
        · have hno : fg W z (i + 3) 0 9 = none := by unfold fg; rw [if_neg (by omega)]
          simp only [if_neg (show ¬ (i + 3 < z ∧ W (i + 3) = 45) by omega), hno]
          refine ⟨s3, ?_, S3, fun x e => by cases e; exact t2, fun a' e => by cases e⟩
          simp -implicitDefEqProofs only [f_X6_readsPerson_j67, nZ, if_false, gI_60_17, gI_60_18, Option.bind_some, t2, t3, ez, c4, if_true, r01]
        · have hh3 := here6 hb h3 (show i + 3 < 60 by omega)
          have hW3 : sV s3 69 (60 * b + (i + 3)) = W (i + 3) := by rw [V3, ← hW]
          rw [hW3] at hh3
          by_cases c5 : W (i + 3) = 45
          · simp only [if_pos (show i + 3 < z ∧ W (i + 3) = 45 from ⟨by omega, c5⟩)]
            have h4' : RP (uI s3 1937 (nI (i + 3 + 1))) b z a (i + 4) := RP_pl h3
            refine ⟨addS (uI s3 1937 (nI (i + 3 + 1))) a.1 (nI k) (nI A) (nI Z) (-9) (nI (i + 3)), ?_, (S3.trans S_pl).trans addS_S, (fun x e => by cases e), fun a' e => by cases e; exact RP_add h4' hP hm6 k A Z (i + 3) (-9)⟩
            simp -implicitDefEqProofs only [f_X6_readsPerson_j67, f_X6_readsPerson_j107, f_X6_readsPerson_j124, f_X6_readsPerson_j145, nZ, if_false, gI_60_17, gI_60_18, Option.bind_some, t2, t3, ez, c4, qO_60, if_true, hh3, c5, n10, nI_1, sF_60_17, fin _ _ h4', r01]
          · simp only [if_neg (show ¬ (i + 3 < z ∧ W (i + 3) = 45) from fun q => c5 q.2)]
            have h3' : RP (uI s3 1937 (nI (i + 3))) b z a (i + 3) := RP_pl h3
            have fV : f_X6_figure (some 60) 0 9 (HP (uI s3 1937 (nI (i + 3)))) = _ := fig6 (lo := 0) (hi := 9) hb h3' hz (by omega) (by omega) (by omega)
            rw [eW (uI s3 1937 (nI (i + 3))) (by rw [sV_uI, V3])] at fV
            cases hv : fg W z (i + 3) 0 9 with
            | none =>
              rw [hv] at fV
              refine ⟨uI s3 1937 (nI (i + 3)), ?_, S3.trans S_pl, fun x e => by cases e; rw [sI_uI, if_pos rfl], fun a' e => by cases e⟩
              simp -implicitDefEqProofs only [f_X6_readsPerson_j67, f_X6_readsPerson_j107, f_X6_readsPerson_j124, f_X6_readsPerson_j145, nZ, if_false, gI_60_17, gI_60_18, Option.bind_some, t2, t3, ez, c4, qO_60, if_true, hh3, c5, Int32.add_zero, sF_60_17, fV, r01]
            | some v =>
              rw [hv] at fV
              obtain ⟨v1, v2, v3, v4⟩ := fg_spec hv
              have nv : ¬ nI v = -9 := nI_n9 (by omega)
              have h4' : RP (uI (uI s3 1937 (nI (i + 3))) 1937 (nI (i + 3 + 1))) b z a (i + 4) := RP_pl h3'
              refine ⟨addS (uI (uI s3 1937 (nI (i + 3))) 1937 (nI (i + 3 + 1))) a.1 (nI k) (nI A) (nI Z) (nI v) (nI (i + 3)), ?_, ((S3.trans S_pl).trans S_pl).trans addS_S, (fun x e => by cases e), fun a' e => by cases e; exact RP_add h4' hP hm6 k A Z (i + 3) (nI v)⟩
              simp -implicitDefEqProofs only [f_X6_readsPerson_j67, f_X6_readsPerson_j107, f_X6_readsPerson_j124, f_X6_readsPerson_j145, nZ, if_false, gI_60_17, gI_60_18, Option.bind_some, t2, t3, ez, c4, qO_60, if_true, hh3, c5, Int32.add_zero, sF_60_17, fV, nv, fin _ _ h4', r01]
theorem rdl6 {s : ST} {b z i : Nat} {a : PSt} (hb : b < 4) (h : RP s b z a i) (hz : z ≤ 60) (hi : i < z) (hP : PI a) : ∃ s', f_X6_readsLove (some 60) (HP s) = some (r01 (rdL (fun p => sV s 69 (60 * b + p)) z i a), HP s') ∧ SameS s s' ∧ (∀ x, rdL (fun p => sV s 69 (60 * b + p)) z i a = .inl x → sI s' 1937 = nI x) ∧ ∀ a', rdL (fun p => sV s 69 (60 * b + p)) z i a = .inr a' → RP s' b z a' (i + 3) := by
  obtain ⟨h6, h8, hb3, -⟩ := hP
  have h1 := RP_pl (k' := i + 1) h
  have h2 := RP_pl (k' := i + 1 + 1) h1
  have fP := fig6 (lo := 0) (hi := a.1 - 1) hb h1 hz (by omega) (by omega) (by omega)
  generalize hW : (fun p => sV s 69 (60 * b + p)) = W
  have eW : ∀ s', sV s' 69 = sV s 69 → (fun p => sV s' 69 (60 * b + p)) = W := fun s' e => by rw [← hW, e]
  rw [eW (uI s 1937 (nI (i + 1))) rfl] at fP
  have fP : f_X6_figure (some 60) 0 (nI (a.1 - 1)) (HP (uI s 1937 (nI (i + 1)))) = _ := fP
  obtain ⟨r1, r2, r3, r4, r5, r6, r7⟩ := h
  have e2 : (nI a.1 < 2) = (a.1 < 2) := propext (nI_ltI (a := a.1) (b := 2) (by omega) (by omega))
  have e8 : (nI a.2.1 = 8) = (a.2.1 = 8) := propext (nI_eq (a := a.2.1) (b := 8) (by omega) (by omega))
  unfold rdL
  by_cases c1 : a.1 < 2
  · simp only [if_pos (show a.1 < 2 ∨ 8 ≤ a.2.1 from Or.inl c1)]
    refine ⟨s, ?_, SameS.rf s, fun x e => by cases e; exact r2, fun a' e => by cases e⟩
    simp -implicitDefEqProofs only [f_X6_readsLove, gI_60_20, Option.bind_some, r4, e2, c1, if_true, r01]
  by_cases c2 : a.2.1 = 8
  · simp only [if_pos (show a.1 < 2 ∨ 8 ≤ a.2.1 from Or.inr (by omega))]
    refine ⟨s, ?_, SameS.rf s, fun x e => by cases e; exact r2, fun a' e => by cases e⟩
    simp -implicitDefEqProofs only [f_X6_readsLove, gI_60_20, gI_60_22, Option.bind_some, r4, r5, e2, c1, c2, if_pos (show nI 8 = 8 from rfl), if_false, r01]
  simp only [if_neg (show ¬ (a.1 < 2 ∨ 8 ≤ a.2.1) by omega)]
  have es : nI a.1 - 1 = nI (a.1 - 1) := pk_sub (a := a.1) (b := 1) (by omega)
  have q4 : ∀ v, sI (uI s 1937 v) 1940 = nI a.1 := fun v => by rw [sI_uI, if_neg (by omega)]; exact r4
  cases hp : fg W z (i + 1) 0 (a.1 - 1) with
  | none =>
    rw [hp] at fP
    refine ⟨uI s 1937 (nI (i + 1)), ?_, S_pl, fun x e => by cases e; rw [sI_uI, if_pos rfl], fun a' e => by cases e⟩
    simp -implicitDefEqProofs only [f_X6_readsLove, gI_60_20, gI_60_22, Option.bind_some, r4, r5, e2, e8, c1, c2, if_true, if_false, gI_60_17, r2, nI_1, sF_60_17, q4, es, qO_60, fP, r01]
  | some p =>
    rw [hp] at fP
    obtain ⟨p1, p2, p3, p4⟩ := fg_spec hp
    have np : ¬ nI p = -9 := nI_n9 (by omega)
    have fQ : f_X6_figure (some 60) 0 (nI (a.1 - 1)) (HP (uI (uI s 1937 (nI (i + 1))) 1937 (nI (i + 1 + 1)))) = _ := fig6 (lo := 0) (hi := a.1 - 1) hb h2 hz (by omega) (by omega) (by omega)
    rw [eW (uI (uI s 1937 (nI (i + 1))) 1937 (nI (i + 1 + 1))) rfl] at fQ
    have q5 : ∀ v w, sI (uI (uI s 1937 v) 1937 w) 1940 = nI a.1 := fun v w => by rw [sI_uI, if_neg (by omega)]; exact q4 v
    cases hq : fg W z (i + 2) 0 (a.1 - 1) with
    | none =>
      rw [show i + 1 + 1 = i + 2 by omega, hq] at fQ
      refine ⟨uI (uI s 1937 (nI (i + 1))) 1937 (nI (i + 2)), ?_, S_pl.trans S_pl, fun x e => by cases e; rw [sI_uI, if_pos rfl], fun a' e => by cases e⟩
      simp -implicitDefEqProofs only [f_X6_readsLove, gI_60_20, gI_60_22, Option.bind_some, r4, r5, e2, e8, c1, c2, if_true, if_false, gI_60_17, r2, nI_1, sF_60_17, q4, q5, es, qO_60, fP, np, show i + 1 + 1 = i + 2 by omega, fQ, r01]
    | some q =>
      rw [show i + 1 + 1 = i + 2 by omega, hq] at fQ
      obtain ⟨q1, q2, q3, q4'⟩ := fg_spec hq
      have nq : ¬ nI q = -9 := nI_n9 (by omega)
      generalize hs3 : uI (uI (uI s 1937 (nI (i + 1))) 1937 (nI (i + 2))) 1937 (nI (i + 2 + 1)) = s3 at fQ
      have h3 : RP s3 b z a (i + 3) := by rw [← hs3]; exact RP_pl (RP_pl h1)
      have S3 : SameS s s3 := by rw [← hs3]; exact (S_pl.trans S_pl).trans S_pl
      obtain ⟨t1, t2, t3, t4, t5, t6, t7⟩ := id h3
      have epq : (nI p = nI q) = (p = q) := propext (nI_eq (by omega) (by omega))
      have hb64 : a.2.2.2 p < 64 := Nat.lt_of_lt_of_le (hb3 p (by omega)).2.2.2.2.2 (pow64 h6)
      have hb64q : a.2.2.2 q < 64 := Nat.lt_of_lt_of_le (hb3 q (by omega)).2.2.2.2.2 (pow64 h6)
      have eb := bit_dec (a.2.2.2 p) hb64 q (by omega)
      have j87 : f_X6_readsLove_j87 (some 60) (HP s3) = some (0, HP (uI s3 1937 (nI (i + 2)))) := by
        have ep : nI (i + 3) - 1 = nI (i + 2) := nI_pred (i + 2)
        simp -implicitDefEqProofs only [f_X6_readsLove_j87, gI_60_17, t2, Option.bind_some, ep, sF_60_17]
      by_cases c3 : q = p
      · simp only [if_pos (show q = p ∨ (a.2.2.2 p).testBit q = true from Or.inl c3)]
        refine ⟨uI s3 1937 (nI (i + 2)), ?_, S3.trans S_pl, fun x e => by cases e; rw [sI_uI, if_pos rfl], fun a' e => by cases e⟩
        simp -implicitDefEqProofs only [f_X6_readsLove, gI_60_20, gI_60_22, Option.bind_some, r4, r5, e2, e8, c1, c2, if_true, if_false, gI_60_17, r2, nI_1, sF_60_17, q4, q5, es, qO_60, fP, np, show i + 1 + 1 = i + 2 by omega, fQ, nq, epq, c3.symm, j87, r01]
      · have c3' : ¬ p = q := fun e => c3 e.symm
        by_cases c4 : (a.2.2.2 p).testBit q = true
        · simp only [if_pos (show q = p ∨ (a.2.2.2 p).testBit q = true from Or.inr c4)]
          refine ⟨uI s3 1937 (nI (i + 2)), ?_, S3.trans S_pl, fun x e => by cases e; rw [sI_uI, if_pos rfl], fun a' e => by cases e⟩
          simp -implicitDefEqProofs only [f_X6_readsLove, gI_60_20, gI_60_22, Option.bind_some, r4, r5, e2, e8, c1, c2, if_true, if_false, gI_60_17, r2, nI_1, sF_60_17, q4, q5, es, qO_60, fP, np, show i + 1 + 1 = i + 2 by omega, fQ, nq, epq, c3', gR_60_21, g72 _ (show p < 6 by omega), t7 p (by omega), p6_has, if_pos (eb.mpr c4), n10, j87, r01]
        · have eb' : ¬ (nI (a.2.2.2 p) >>> (nI q &&& 31)) &&& 1 = 1 := fun w => c4 (eb.mp w)
          simp only [if_neg (show ¬ (q = p ∨ (a.2.2.2 p).testBit q = true) from fun w => w.elim c3 c4)]
          have g2 : sV (uV s3 72 p (nI (a.2.2.2 p ||| 2 ^ q))) 72 q = nI (a.2.2.2 q) := by rw [sV_uVp c3]; exact t7 q (by omega)
          have l2 : sI (uV (uV s3 72 p (nI (a.2.2.2 p ||| 2 ^ q))) 72 q (nI (a.2.2.2 q ||| 2 ^ p))) 1942 = nI a.2.1 := t5
          refine ⟨uI (uV (uV s3 72 p (nI (a.2.2.2 p ||| 2 ^ q))) 72 q (nI (a.2.2.2 q ||| 2 ^ p))) 1942 (nI (a.2.1 + 1)), ?_, ((S3.trans (SameS.uV (by unfold ScA; omega))).trans (SameS.uV (by unfold ScA; omega))).trans (SameS.uI (by unfold ScI; omega)), (fun x e => by cases e), fun a' e => ?_⟩
          · simp -implicitDefEqProofs only [f_X6_readsLove, gI_60_20, gI_60_22, Option.bind_some, r4, r5, e2, e8, c1, c2, if_true, if_false, gI_60_17, r2, nI_1, sF_60_17, q4, q5, es, qO_60, fP, np, show i + 1 + 1 = i + 2 by omega, fQ, nq, epq, c3', gR_60_21, g72 _ (show p < 6 by omega), g72 _ (show q < 6 by omega), t7 p (by omega), p6_has, if_neg eb', or_dec _ hb64 q (by omega), s72 _ (show p < 6 by omega), s72 _ (show q < 6 by omega), g2, or_dec _ hb64q p (by omega), l2, sF_60_22, r01]
          · cases e
            refine ⟨?_, ?_, ?_, ?_, ?_, fun j hj c hc => ?_, fun j hj => ?_⟩
            · rw [sI_uI, if_neg (by omega)]; exact t1
            · rw [sI_uI, if_neg (by omega)]; exact t2
            · rw [sI_uI, if_neg (by omega)]; exact t3
            · rw [sI_uI, if_neg (by omega)]; exact t4
            · rw [sI_uI, if_pos rfl]
            · rw [sV_uI, sV_uVne (by omega), sV_uVne (by omega)]; exact t6 j hj c hc
            · show _ = nI (upT (upT a.2.2.2 p (a.2.2.2 p ||| 2 ^ q)) q (a.2.2.2 q ||| 2 ^ p) j)
              unfold upT
              rw [sV_uI, sV_uV, if_pos rfl]
              by_cases e1 : j = q
              · rw [if_pos e1, if_pos e1]
              · rw [if_neg e1, if_neg e1, sV_uV, if_pos rfl]
                by_cases e2 : j = p
                · rw [if_pos e2, if_pos e2]
                · rw [if_neg e2, if_neg e2]
                  exact t7 j hj
