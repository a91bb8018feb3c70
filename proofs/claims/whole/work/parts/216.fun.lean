def f_X6_safe_b14_j39 (k0 : Option Nat) (x2 : Int32) (y0 : Int32) (ah : AH) : Option ((Unit × AH) ⊕ (((Int32) × AH) ⊕ ((Int32 × Int32) × AH))) :=
  some (.inr (.inr ((y0 ||| (1 <<< (x2 &&& 31)), x2 + 1), ah)))
set_option maxRecDepth 100000 in
set_option maxHeartbeats 4000000 in
theorem k_X6_safe_b14_j39 {l : Launch} {g : GX} (d : Nat) {Q : jQ} {k0 : Option Nat} {x2 : Int32} {y0 : Int32} (ah : AH) (out : (Unit × AH) ⊕ (((Int32) × AH) ⊕ ((Int32 × Int32) × AH))) (h : f_X6_safe_b14_j39 k0 x2 y0 ah = some out) (hR : ∀ q, out = .inl q → jRetN q.1 q.2) (hX : ∀ q, out = .inr (.inl q) → J l g md_X6_safe (jRm (d + 3) md_X6_safe) Q 54 [(1, .inl q.1)] [] q.2 (0, 0)) (hN : ∀ q, out = .inr (.inr q) → J l g md_X6_safe (jRm (d + 3) md_X6_safe) Q 14 [(0, .inr (.inr (.inl k0))), (1, .inl q.1.1), (2, .inl q.1.2)] [] q.2 (0, 0)) : J l g md_X6_safe (jRm (d + 3) md_X6_safe) Q 39 [(0, .inr (.inr (.inl k0))), (2, .inl x2)] [.inl y0] ah (0, 0) := by
  unfold f_X6_safe_b14_j39 at h
  refine J_seg ok_X6_safe 22 4 (pc' := 46) (ls' := [(0, .inr (.inr (.inl k0))), (2, .inl x2)]) (st' := [.inl (1 <<< (x2 &&& 31)), .inl y0]) rfl ?_
  refine J_seg ok_X6_safe 27 4 (pc' := 14) (ls' := [(2, .inl (x2 + 1)), (1, .inl (y0 ||| (1 <<< (x2 &&& 31)))), (0, .inr (.inr (.inl k0)))]) (st' := []) rfl ?_
  exact J_sub (ls' := [(0, .inr (.inr (.inl k0))), (1, .inl (y0 ||| (1 <<< (x2 &&& 31)))), (2, .inl (x2 + 1))]) [2, 1, 0] rfl (hN ((y0 ||| (1 <<< (x2 &&& 31)), x2 + 1), ah) (Option.some.inj h).symm)
def f_X6_safe_b14 (k0 : Option Nat) (s14 : Int32 × Int32) (ah : AH) : Option ((Unit × AH) ⊕ (((Int32) × AH) ⊕ ((Int32 × Int32) × AH))) :=
  (gI ah k0 6 1).bind fun v3 => if v3 ≤ s14.2 then (some (.inr (.inl (s14.1, ah)))) else (if qO ah k0 6 = true then ((f_X6_isReached k0 s14.2 ah).bind fun q5 => if q5.1 = 0 then (if qO q5.2 k0 6 = true then ((f_X6_against k0 s14.2 q5.2).bind fun q8 => if q8.1 = 0 then (f_X6_safe_b14_j39 k0 s14.2 s14.1 q8.2) else (some (.inr (.inr ((s14.1 ||| 0, s14.2 + 1), q8.2))))) else none) else (f_X6_safe_b14_j39 k0 s14.2 s14.1 q5.2)) else none)
set_option maxRecDepth 100000 in
set_option maxHeartbeats 4000000 in
theorem k_X6_safe_b14 {l : Launch} {g : GX} (d : Nat) {Q : jQ} {k0 : Option Nat} (s14 : Int32 × Int32) (ah : AH) (out : (Unit × AH) ⊕ (((Int32) × AH) ⊕ ((Int32 × Int32) × AH))) (h : f_X6_safe_b14 k0 s14 ah = some out) (hR : ∀ q, out = .inl q → jRetN q.1 q.2) (hX : ∀ q, out = .inr (.inl q) → J l g md_X6_safe (jRm (d + 3) md_X6_safe) Q 54 [(1, .inl q.1)] [] q.2 (0, 0)) (hN : ∀ q, out = .inr (.inr q) → J l g md_X6_safe (jRm (d + 3) md_X6_safe) Q 14 [(0, .inr (.inr (.inl k0))), (1, .inl q.1.1), (2, .inl q.1.2)] [] q.2 (0, 0)) : J l g md_X6_safe (jRm (d + 3) md_X6_safe) Q 14 [(0, .inr (.inr (.inl k0))), (1, .inl s14.1), (2, .inl s14.2)] [] ah (0, 0) := by
  unfold f_X6_safe_b14 at h
  refine J_seg ok_X6_safe 9 2 (pc' := 16) (ls' := [(0, .inr (.inr (.inl k0))), (1, .inl s14.1), (2, .inl s14.2)]) (st' := [.inr (.inr (.inl k0)), .inl s14.2]) rfl ?_
  obtain ⟨v3, h4, h⟩ := Option.bind_eq_some_iff.mp h
  refine J_getI (jat ok_X6_safe 11 (pc := 16) (i := .getfield 148) (n := 3) rfl rfl) fl_RX6_148 h4 ?_
  refine J_ge (jat ok_X6_safe 12 (pc := 19) (i := .if_icmp .ge 35) (n := 3) rfl rfl) (tgt := 54) (by decide) (fun c => ?_) (fun c => ?_)
  · have h := (if_pos c).symm.trans h
    exact J_sub (ls' := [(1, .inl s14.1)]) [1] rfl (hX (s14.1, ah) (Option.some.inj h).symm)
  · have h := (if_neg c).symm.trans h
    refine J_seg ok_X6_safe 13 3 (pc' := 25) (ls' := [(0, .inr (.inr (.inl k0))), (1, .inl s14.1), (2, .inl s14.2)]) (st' := [.inl s14.2, .inr (.inr (.inl k0)), .inl s14.1]) rfl ?_
    by_cases c7 : qO ah k0 6 = true
    case neg => exact absurd ((if_neg c7).symm.trans h) (by simp)
    have h := (if_pos c7).symm.trans h
    obtain ⟨q5, h6, h⟩ := Option.bind_eq_some_iff.mp h
    refine J_callV (md' := md_X6_isReached) (As := [.inl s14.2]) (st := [.inl s14.1]) (cs' := (0, 0)) (st' := [.inl q5.1, .inl s14.1]) (jat ok_X6_safe 16 (pc := 25) (i := .invokevirtual 169) (n := 3) rfl rfl) ml_RX6_169 yv_X6_isReached c7 (c_X6_isReached l g (d + 1) h6) (jRo_of (by decide)) (Nat.le_of_ble_eq_true rfl) ⟨Nat.le_of_ble_eq_true rfl, Nat.le_of_ble_eq_true rfl⟩ rfl rfl rfl ?_
    refine J_ne0 (jat ok_X6_safe 17 (pc := 28) (i := .ifCond .ne 11) (n := 3) rfl rfl) (tgt := 39) (by decide) (fun c => ?_) (fun c => ?_)
    · have h := (if_neg c).symm.trans h
      refine J_sub (ls' := [(0, .inr (.inr (.inl k0))), (2, .inl s14.2)]) [0, 2] rfl ?_
      exact k_X6_safe_b14_j39 d _ _ h hR hX hN
    · have h := (if_pos c).symm.trans h
      refine J_seg ok_X6_safe 18 2 (pc' := 33) (ls' := [(0, .inr (.inr (.inl k0))), (1, .inl s14.1), (2, .inl s14.2)]) (st' := [.inl s14.2, .inr (.inr (.inl k0)), .inl s14.1]) rfl ?_
      by_cases c10 : qO q5.2 k0 6 = true
      case neg => exact absurd ((if_neg c10).symm.trans h) (by simp)
      have h := (if_pos c10).symm.trans h
      obtain ⟨q8, h9, h⟩ := Option.bind_eq_some_iff.mp h
      refine J_callV (md' := md_X6_against) (As := [.inl s14.2]) (st := [.inl s14.1]) (cs' := (0, 0)) (st' := [.inl q8.1, .inl s14.1]) (jat ok_X6_safe 20 (pc := 33) (i := .invokevirtual 215) (n := 3) rfl rfl) ml_RX6_215 yv_X6_against c10 (c_X6_against l g (d + 0) h9) (jRo_of (by decide)) (Nat.le_of_ble_eq_true rfl) ⟨Nat.le_of_ble_eq_true rfl, Nat.le_of_ble_eq_true rfl⟩ rfl rfl rfl ?_
      refine J_ne0 (jat ok_X6_safe 21 (pc := 36) (i := .ifCond .ne 9) (n := 3) rfl rfl) (tgt := 45) (by decide) (fun c => ?_) (fun c => ?_)
      · have h := (if_neg c).symm.trans h
        refine J_seg ok_X6_safe 26 5 (pc' := 14) (ls' := [(2, .inl (s14.2 + 1)), (1, .inl (s14.1 ||| 0)), (0, .inr (.inr (.inl k0)))]) (st' := []) rfl ?_
        exact J_sub (ls' := [(0, .inr (.inr (.inl k0))), (1, .inl (s14.1 ||| 0)), (2, .inl (s14.2 + 1))]) [2, 1, 0] rfl (hN ((s14.1 ||| 0, s14.2 + 1), q8.2) (Option.some.inj h).symm)
      · have h := (if_pos c).symm.trans h
        refine J_sub (ls' := [(0, .inr (.inr (.inl k0))), (2, .inl s14.2)]) [0, 2] rfl ?_
        exact k_X6_safe_b14_j39 d _ _ h hR hX hN
def f_X6_safe (x0 : Option Nat) (ah : AH) : Option (Int32 × AH) :=
  (gI ah x0 6 1).bind fun v1 => if v1 = 0 then (some ((-4), ah)) else ((jloop (f_X6_safe_b14 x0) jfuel (0, 0) ah).bind fun q11 => match q11 with | .inl r => none | .inr z13 => some (z13.1, z13.2))
set_option maxRecDepth 100000 in
set_option maxHeartbeats 4000000 in
theorem k_X6_safe {l : Launch} {g : GX} (d : Nat) {Q : jQ} {x0 : Option Nat} (ah : AH) (out : Int32 × AH) (h : f_X6_safe x0 ah = some out) (hR : jRetI l g md_X6_safe (jRm (d + 3) md_X6_safe) Q (0, 0) out.1 out.2) : J l g md_X6_safe (jRm (d + 3) md_X6_safe) Q 0 [(0, .inr (.inr (.inl x0)))] [] ah (0, 0) := by
  unfold f_X6_safe at h
  refine J_seg ok_X6_safe 0 1 (pc' := 1) (ls' := [(0, .inr (.inr (.inl x0)))]) (st' := [.inr (.inr (.inl x0))]) rfl ?_
  obtain ⟨v1, h2, h⟩ := Option.bind_eq_some_iff.mp h
  refine J_getI (jat ok_X6_safe 1 (pc := 1) (i := .getfield 148) (n := 3) rfl rfl) fl_RX6_148 h2 ?_
  refine J_ne0 (jat ok_X6_safe 2 (pc := 4) (i := .ifCond .ne 6) (n := 3) rfl rfl) (tgt := 10) (by decide) (fun c => ?_) (fun c => ?_)
  · have h := (if_neg c).symm.trans h
    refine J_seg ok_X6_safe 5 4 (pc' := 14) (ls' := [(2, .inl 0), (1, .inl 0), (0, .inr (.inr (.inl x0)))]) (st' := []) rfl ?_
    obtain ⟨q11, h12, h⟩ := Option.bind_eq_some_iff.mp h
    refine J_sub (ls' := [(0, .inr (.inr (.inl x0))), (1, .inl 0), (2, .inl 0)]) [2, 1, 0] rfl ?_
    refine J_loop (pE := 54) (lh := fun t14 => [(0, .inr (.inr (.inl x0))), (1, .inl t14.1), (2, .inl t14.2)]) (lx := fun z13 => [(1, .inl z13)]) (P := jRetN) (fun s ah out hb hR hX hN => k_X6_safe_b14 d s ah out hb hR hX hN) jfuel (0, 0) _ _ h12 (fun r e => ?_) (fun z13 e => ?_)
    · subst e
      dsimp only at h
      cases h
    · subst e
      dsimp only at h
      refine J_seg ok_X6_safe 31 1 (pc' := 55) (ls' := [(1, .inl z13.1)]) (st' := [.inl z13.1]) rfl ?_
      have h := Option.some.inj h
      subst h
      exact hR _ _ (jat ok_X6_safe 32 (pc := 55) (i := .ireturn) (n := 1) rfl rfl)
  · have h := (if_pos c).symm.trans h
    refine J_seg ok_X6_safe 3 1 (pc' := 9) (ls' := [(0, .inr (.inr (.inl x0)))]) (st' := [.inl (-4)]) rfl ?_
    have h := Option.some.inj h
    subst h
    exact hR _ _ (jat ok_X6_safe 4 (pc := 9) (i := .ireturn) (n := 1) rfl rfl)
theorem c_X6_safe (l : Launch) (g : GX) (d : Nat) {x0 : Option Nat} {ah : AH} {q : Int32 × AH} (h : f_X6_safe x0 ah = some q) : jM l g (d + 3) md_X6_safe [.inr (.inr (.inl x0))] ah (some (.inl q.1)) q.2 :=
  jM_of (by decide) (Nat.le_of_ble_eq_true rfl) (k_X6_safe d ah q h (fun pc ls hd => J_reti hd rfl (jPV_int _) rfl (Nat.le_refl _) rfl rfl))
def f_X6_weeksOf_b31_j73 (k0 : Option Nat) (k1 : Int32) (k2 : Int32) (k3 : Int32) (k5 : Int32) (x6 : Int32) (y0 : Int32) (ah : AH) : Option ((Int32 × AH) ⊕ (((Unit) × AH) ⊕ ((Int32 × Int32) × AH))) :=
  (gR ah k0 6 3).bind fun v11 => (gA ah v11 k1).bind fun v13 => if y0 < v13 then (some (.inr (.inr ((y0, x6 + 1), ah)))) else (some (.inl (x6, ah)))
set_option maxRecDepth 100000 in
set_option maxHeartbeats 4000000 in
theorem k_X6_weeksOf_b31_j73 {l : Launch} {g : GX} (d : Nat) {Q : jQ} {k0 : Option Nat} {k1 : Int32} {k2 : Int32} {k3 : Int32} {k5 : Int32} {x6 : Int32} {y0 : Int32} (ah : AH) (out : (Int32 × AH) ⊕ (((Unit) × AH) ⊕ ((Int32 × Int32) × AH))) (h : f_X6_weeksOf_b31_j73 k0 k1 k2 k3 k5 x6 y0 ah = some out) (hR : ∀ q, out = .inl q → jRetI l g md_X6_weeksOf (jRm (d + 3) md_X6_weeksOf) Q (0, 0) q.1 q.2) (hX : ∀ q, out = .inr (.inl q) → J l g md_X6_weeksOf (jRm (d + 3) md_X6_weeksOf) Q 95 [] [] q.2 (0, 0)) (hN : ∀ q, out = .inr (.inr q) → J l g md_X6_weeksOf (jRm (d + 3) md_X6_weeksOf) Q 31 [(0, .inr (.inr (.inl k0))), (1, .inl k1), (2, .inl k2), (3, .inl k3), (4, .inl q.1.1), (5, .inl k5), (6, .inl q.1.2)] [] q.2 (0, 0)) : J l g md_X6_weeksOf (jRm (d + 3) md_X6_weeksOf) Q 73 [(0, .inr (.inr (.inl k0))), (1, .inl k1), (2, .inl k2), (3, .inl k3), (5, .inl k5), (6, .inl x6)] [.inl y0] ah (0, 0) := by
  unfold f_X6_weeksOf_b31_j73 at h
  refine J_seg ok_X6_weeksOf 40 3 (pc' := 78) (ls' := [(4, .inl y0), (0, .inr (.inr (.inl k0))), (1, .inl k1), (2, .inl k2), (3, .inl k3), (5, .inl k5), (6, .inl x6)]) (st' := [.inr (.inr (.inl k0)), .inl y0]) rfl ?_
  obtain ⟨v11, h12, h⟩ := Option.bind_eq_some_iff.mp h
  refine J_getR (jat ok_X6_weeksOf 43 (pc := 78) (i := .getfield 16) (n := 3) rfl rfl) fl_RX6_16 h12 ?_
  refine J_seg ok_X6_weeksOf 44 1 (pc' := 82) (ls' := [(4, .inl y0), (0, .inr (.inr (.inl k0))), (1, .inl k1), (2, .inl k2), (3, .inl k3), (5, .inl k5), (6, .inl x6)]) (st' := [.inl k1, .inr (.inr (.inl v11)), .inl y0]) rfl ?_
  obtain ⟨v13, h14, h⟩ := Option.bind_eq_some_iff.mp h
  refine J_iald (jat ok_X6_weeksOf 45 (pc := 82) (i := .iaload) (n := 1) rfl rfl) h14 ?_
  refine J_lt (jat ok_X6_weeksOf 46 (pc := 83) (i := .if_icmp .lt 6) (n := 3) rfl rfl) (tgt := 89) (by decide) (fun c => ?_) (fun c => ?_)
  · have h := (if_pos c).symm.trans h
    refine J_seg ok_X6_weeksOf 49 2 (pc' := 31) (ls' := [(6, .inl (x6 + 1)), (4, .inl y0), (0, .inr (.inr (.inl k0))), (1, .inl k1), (2, .inl k2), (3, .inl k3), (5, .inl k5)]) (st' := []) rfl ?_
    exact J_sub (ls' := [(0, .inr (.inr (.inl k0))), (1, .inl k1), (2, .inl k2), (3, .inl k3), (4, .inl y0), (5, .inl k5), (6, .inl (x6 + 1))]) [2, 3, 4, 5, 1, 6, 0] rfl (hN ((y0, x6 + 1), ah) (Option.some.inj h).symm)
  · have h := (if_neg c).symm.trans h
    refine J_seg ok_X6_weeksOf 47 1 (pc' := 88) (ls' := [(4, .inl y0), (0, .inr (.inr (.inl k0))), (1, .inl k1), (2, .inl k2), (3, .inl k3), (5, .inl k5), (6, .inl x6)]) (st' := [.inl x6]) rfl ?_
    exact hR _ (Option.some.inj h).symm _ _ (jat ok_X6_weeksOf 48 (pc := 88) (i := .ireturn) (n := 1) rfl rfl)
def f_X6_weeksOf_b31_j59 (k0 : Option Nat) (k1 : Int32) (k2 : Int32) (k3 : Int32) (k5 : Int32) (x6 : Int32) (y0 : Int32) (y1 : Int32) (ah : AH) : Option ((Int32 × AH) ⊕ (((Unit) × AH) ⊕ ((Int32 × Int32) × AH))) :=
  if 0 ≤ (y1 - y0) then (f_X6_weeksOf_b31_j73 k0 k1 k2 k3 k5 x6 (y1 - y0) ah) else (f_X6_weeksOf_b31_j73 k0 k1 k2 k3 k5 x6 0 ah)
set_option maxRecDepth 100000 in
set_option maxHeartbeats 4000000 in
theorem k_X6_weeksOf_b31_j59 {l : Launch} {g : GX} (d : Nat) {Q : jQ} {k0 : Option Nat} {k1 : Int32} {k2 : Int32} {k3 : Int32} {k5 : Int32} {x6 : Int32} {y0 : Int32} {y1 : Int32} (ah : AH) (out : (Int32 × AH) ⊕ (((Unit) × AH) ⊕ ((Int32 × Int32) × AH))) (h : f_X6_weeksOf_b31_j59 k0 k1 k2 k3 k5 x6 y0 y1 ah = some out) (hR : ∀ q, out = .inl q → jRetI l g md_X6_weeksOf (jRm (d + 3) md_X6_weeksOf) Q (0, 0) q.1 q.2) (hX : ∀ q, out = .inr (.inl q) → J l g md_X6_weeksOf (jRm (d + 3) md_X6_weeksOf) Q 95 [] [] q.2 (0, 0)) (hN : ∀ q, out = .inr (.inr q) → J l g md_X6_weeksOf (jRm (d + 3) md_X6_weeksOf) Q 31 [(0, .inr (.inr (.inl k0))), (1, .inl k1), (2, .inl k2), (3, .inl k3), (4, .inl q.1.1), (5, .inl k5), (6, .inl q.1.2)] [] q.2 (0, 0)) : J l g md_X6_weeksOf (jRm (d + 3) md_X6_weeksOf) Q 59 [(0, .inr (.inr (.inl k0))), (1, .inl k1), (2, .inl k2), (3, .inl k3), (5, .inl k5), (6, .inl x6)] [.inl y0, .inl y1] ah (0, 0) := by
  unfold f_X6_weeksOf_b31_j59 at h
  refine J_seg ok_X6_weeksOf 33 3 (pc' := 64) (ls' := [(4, .inl (y1 - y0)), (0, .inr (.inr (.inl k0))), (1, .inl k1), (2, .inl k2), (3, .inl k3), (5, .inl k5), (6, .inl x6)]) (st' := [.inl (y1 - y0)]) rfl ?_
  refine J_ge0 (jat ok_X6_weeksOf 36 (pc := 64) (i := .ifCond .ge 7) (n := 3) rfl rfl) (tgt := 71) (by decide) (fun c => ?_) (fun c => ?_)
  · have h := (if_pos c).symm.trans h
    refine J_seg ok_X6_weeksOf 39 1 (pc' := 73) (ls' := [(4, .inl (y1 - y0)), (0, .inr (.inr (.inl k0))), (1, .inl k1), (2, .inl k2), (3, .inl k3), (5, .inl k5), (6, .inl x6)]) (st' := [.inl (y1 - y0)]) rfl ?_
    refine J_sub (ls' := [(0, .inr (.inr (.inl k0))), (1, .inl k1), (2, .inl k2), (3, .inl k3), (5, .inl k5), (6, .inl x6)]) [1, 2, 3, 4, 5, 6] rfl ?_
    exact k_X6_weeksOf_b31_j73 d _ _ h hR hX hN
  · have h := (if_neg c).symm.trans h
    refine J_seg ok_X6_weeksOf 37 2 (pc' := 73) (ls' := [(4, .inl (y1 - y0)), (0, .inr (.inr (.inl k0))), (1, .inl k1), (2, .inl k2), (3, .inl k3), (5, .inl k5), (6, .inl x6)]) (st' := [.inl 0]) rfl ?_
    refine J_sub (ls' := [(0, .inr (.inr (.inl k0))), (1, .inl k1), (2, .inl k2), (3, .inl k3), (5, .inl k5), (6, .inl x6)]) [1, 2, 3, 4, 5, 6] rfl ?_
    exact k_X6_weeksOf_b31_j73 d _ _ h hR hX hN
def f_X6_weeksOf_b31_j58 (k0 : Option Nat) (k1 : Int32) (k2 : Int32) (k3 : Int32) (k5 : Int32) (x6 : Int32) (y0 : Int32) (ah : AH) : Option ((Int32 × AH) ⊕ (((Unit) × AH) ⊕ ((Int32 × Int32) × AH))) :=
  f_X6_weeksOf_b31_j59 k0 k1 k2 k3 k5 x6 0 y0 ah
set_option maxRecDepth 100000 in
set_option maxHeartbeats 4000000 in
theorem k_X6_weeksOf_b31_j58 {l : Launch} {g : GX} (d : Nat) {Q : jQ} {k0 : Option Nat} {k1 : Int32} {k2 : Int32} {k3 : Int32} {k5 : Int32} {x6 : Int32} {y0 : Int32} (ah : AH) (out : (Int32 × AH) ⊕ (((Unit) × AH) ⊕ ((Int32 × Int32) × AH))) (h : f_X6_weeksOf_b31_j58 k0 k1 k2 k3 k5 x6 y0 ah = some out) (hR : ∀ q, out = .inl q → jRetI l g md_X6_weeksOf (jRm (d + 3) md_X6_weeksOf) Q (0, 0) q.1 q.2) (hX : ∀ q, out = .inr (.inl q) → J l g md_X6_weeksOf (jRm (d + 3) md_X6_weeksOf) Q 95 [] [] q.2 (0, 0)) (hN : ∀ q, out = .inr (.inr q) → J l g md_X6_weeksOf (jRm (d + 3) md_X6_weeksOf) Q 31 [(0, .inr (.inr (.inl k0))), (1, .inl k1), (2, .inl k2), (3, .inl k3), (4, .inl q.1.1), (5, .inl k5), (6, .inl q.1.2)] [] q.2 (0, 0)) : J l g md_X6_weeksOf (jRm (d + 3) md_X6_weeksOf) Q 58 [(0, .inr (.inr (.inl k0))), (1, .inl k1), (2, .inl k2), (3, .inl k3), (5, .inl k5), (6, .inl x6)] [.inl y0] ah (0, 0) := by
  unfold f_X6_weeksOf_b31_j58 at h
  refine J_seg ok_X6_weeksOf 32 1 (pc' := 59) (ls' := [(0, .inr (.inr (.inl k0))), (1, .inl k1), (2, .inl k2), (3, .inl k3), (5, .inl k5), (6, .inl x6)]) (st' := [.inl 0, .inl y0]) rfl ?_
  refine J_sub (ls' := [(0, .inr (.inr (.inl k0))), (1, .inl k1), (2, .inl k2), (3, .inl k3), (5, .inl k5), (6, .inl x6)]) [0, 1, 2, 3, 4, 5] rfl ?_
  exact k_X6_weeksOf_b31_j59 d _ _ h hR hX hN
def f_X6_weeksOf_b31 (k0 : Option Nat) (k1 : Int32) (k2 : Int32) (k3 : Int32) (k5 : Int32) (s31 : Int32 × Int32) (ah : AH) : Option ((Int32 × AH) ⊕ (((Unit) × AH) ⊕ ((Int32 × Int32) × AH))) :=
  if k3 < s31.2 then (some (.inr (.inl ((), ah)))) else (if k2 ≤ 0 then (f_X6_weeksOf_b31_j58 k0 k1 k2 k3 k5 s31.2 (s31.1 + 1) ah) else (if k2 = 0 then none else (if (s31.2 - s31.2 / k2 * k2) = 0 then (f_X6_weeksOf_b31_j59 k0 k1 k2 k3 k5 s31.2 k5 (s31.1 + 1) ah) else (f_X6_weeksOf_b31_j58 k0 k1 k2 k3 k5 s31.2 (s31.1 + 1) ah))))
set_option maxRecDepth 100000 in
set_option maxHeartbeats 4000000 in
theorem k_X6_weeksOf_b31 {l : Launch} {g : GX} (d : Nat) {Q : jQ} {k0 : Option Nat} {k1 : Int32} {k2 : Int32} {k3 : Int32} {k5 : Int32} (s31 : Int32 × Int32) (ah : AH) (out : (Int32 × AH) ⊕ (((Unit) × AH) ⊕ ((Int32 × Int32) × AH))) (h : f_X6_weeksOf_b31 k0 k1 k2 k3 k5 s31 ah = some out) (hR : ∀ q, out = .inl q → jRetI l g md_X6_weeksOf (jRm (d + 3) md_X6_weeksOf) Q (0, 0) q.1 q.2) (hX : ∀ q, out = .inr (.inl q) → J l g md_X6_weeksOf (jRm (d + 3) md_X6_weeksOf) Q 95 [] [] q.2 (0, 0)) (hN : ∀ q, out = .inr (.inr q) → J l g md_X6_weeksOf (jRm (d + 3) md_X6_weeksOf) Q 31 [(0, .inr (.inr (.inl k0))), (1, .inl k1), (2, .inl k2), (3, .inl k3), (4, .inl q.1.1), (5, .inl k5), (6, .inl q.1.2)] [] q.2 (0, 0)) : J l g md_X6_weeksOf (jRm (d + 3) md_X6_weeksOf) Q 31 [(0, .inr (.inr (.inl k0))), (1, .inl k1), (2, .inl k2), (3, .inl k3), (4, .inl s31.1), (5, .inl k5), (6, .inl s31.2)] [] ah (0, 0) := by
  unfold f_X6_weeksOf_b31 at h
  refine J_seg ok_X6_weeksOf 19 2 (pc' := 34) (ls' := [(0, .inr (.inr (.inl k0))), (1, .inl k1), (2, .inl k2), (3, .inl k3), (4, .inl s31.1), (5, .inl k5), (6, .inl s31.2)]) (st' := [.inl k3, .inl s31.2]) rfl ?_
  refine J_gt (jat ok_X6_weeksOf 21 (pc := 34) (i := .if_icmp .gt 61) (n := 3) rfl rfl) (tgt := 95) (by decide) (fun c => ?_) (fun c => ?_)
  · have h := (if_pos c).symm.trans h
    exact J_sub (ls' := []) [] rfl (hX ((), ah) (Option.some.inj h).symm)
  · have h := (if_neg c).symm.trans h
    refine J_seg ok_X6_weeksOf 22 3 (pc' := 43) (ls' := [(4, .inl (s31.1 + 1)), (0, .inr (.inr (.inl k0))), (1, .inl k1), (2, .inl k2), (3, .inl k3), (5, .inl k5), (6, .inl s31.2)]) (st' := [.inl k2, .inl (s31.1 + 1)]) rfl ?_
    refine J_le0 (jat ok_X6_weeksOf 25 (pc := 43) (i := .ifCond .le 15) (n := 3) rfl rfl) (tgt := 58) (by decide) (fun c => ?_) (fun c => ?_)
    · have h := (if_pos c).symm.trans h
      refine J_sub (ls' := [(0, .inr (.inr (.inl k0))), (1, .inl k1), (2, .inl k2), (3, .inl k3), (5, .inl k5), (6, .inl s31.2)]) [1, 2, 3, 4, 5, 6] rfl ?_
      exact k_X6_weeksOf_b31_j58 d _ _ h hR hX hN
    · have h := (if_neg c).symm.trans h
      refine J_seg ok_X6_weeksOf 26 2 (pc' := 49) (ls' := [(4, .inl (s31.1 + 1)), (0, .inr (.inr (.inl k0))), (1, .inl k1), (2, .inl k2), (3, .inl k3), (5, .inl k5), (6, .inl s31.2)]) (st' := [.inl k2, .inl s31.2, .inl (s31.1 + 1)]) rfl ?_
      by_cases e15 : k2 = 0
      · exact absurd ((if_pos e15).symm.trans h) (by simp)
      have h := (if_neg e15).symm.trans h
      refine J_irem (jat ok_X6_weeksOf 28 (pc := 49) (i := .irem) (n := 1) rfl rfl) e15 ?_
      refine J_ne0 (jat ok_X6_weeksOf 29 (pc := 50) (i := .ifCond .ne 8) (n := 3) rfl rfl) (tgt := 58) (by decide) (fun c => ?_) (fun c => ?_)
      · have h := (if_neg c).symm.trans h
        refine J_sub (ls' := [(0, .inr (.inr (.inl k0))), (1, .inl k1), (2, .inl k2), (3, .inl k3), (5, .inl k5), (6, .inl s31.2)]) [1, 2, 3, 4, 5, 6] rfl ?_
        exact k_X6_weeksOf_b31_j58 d _ _ h hR hX hN
      · have h := (if_pos c).symm.trans h
        refine J_seg ok_X6_weeksOf 30 2 (pc' := 59) (ls' := [(4, .inl (s31.1 + 1)), (0, .inr (.inr (.inl k0))), (1, .inl k1), (2, .inl k2), (3, .inl k3), (5, .inl k5), (6, .inl s31.2)]) (st' := [.inl k5, .inl (s31.1 + 1)]) rfl ?_
        refine J_sub (ls' := [(0, .inr (.inr (.inl k0))), (1, .inl k1), (2, .inl k2), (3, .inl k3), (5, .inl k5), (6, .inl s31.2)]) [1, 2, 3, 4, 5, 6] rfl ?_
        exact k_X6_weeksOf_b31_j59 d _ _ h hR hX hN
def f_X6_weeksOf (x0 : Option Nat) (x1 : Int32) (x2 : Int32) (x3 : Int32) (ah : AH) : Option (Int32 × AH) :=
  (gR ah x0 6 0).bind fun v1 => (gA ah v1 (7 + x1)).bind fun v3 => if qO ah x0 6 = true then ((f_X6_against x0 x1 ah).bind fun q5 => if qO q5.2 x0 6 = true then ((f_X6_isReached x0 x1 q5.2).bind fun q8 => if q8.1 = 0 then ((jloop (f_X6_weeksOf_b31 x0 x1 x2 x3 q5.1) jfuel (v3, 1) q8.2).bind fun q16 => match q16 with | .inl r => some r | .inr z18 => some ((-9), z18.2)) else (some (0, q8.2))) else none) else none
set_option maxRecDepth 100000 in
set_option maxHeartbeats 4000000 in
theorem k_X6_weeksOf {l : Launch} {g : GX} (d : Nat) {Q : jQ} {x0 : Option Nat} {x1 : Int32} {x2 : Int32} {x3 : Int32} (ah : AH) (out : Int32 × AH) (h : f_X6_weeksOf x0 x1 x2 x3 ah = some out) (hR : jRetI l g md_X6_weeksOf (jRm (d + 3) md_X6_weeksOf) Q (0, 0) out.1 out.2) : J l g md_X6_weeksOf (jRm (d + 3) md_X6_weeksOf) Q 0 [(0, .inr (.inr (.inl x0))), (1, .inl x1), (2, .inl x2), (3, .inl x3)] [] ah (0, 0) := by
  unfold f_X6_weeksOf at h
  refine J_seg ok_X6_weeksOf 0 1 (pc' := 1) (ls' := [(0, .inr (.inr (.inl x0))), (1, .inl x1), (2, .inl x2), (3, .inl x3)]) (st' := [.inr (.inr (.inl x0))]) rfl ?_
  obtain ⟨v1, h2, h⟩ := Option.bind_eq_some_iff.mp h
  refine J_getR (jat ok_X6_weeksOf 1 (pc := 1) (i := .getfield 7) (n := 3) rfl rfl) fl_RX6_7 h2 ?_
  refine J_seg ok_X6_weeksOf 2 3 (pc' := 8) (ls' := [(0, .inr (.inr (.inl x0))), (1, .inl x1), (2, .inl x2), (3, .inl x3)]) (st' := [.inl (7 + x1), .inr (.inr (.inl v1))]) rfl ?_
  obtain ⟨v3, h4, h⟩ := Option.bind_eq_some_iff.mp h
  refine J_iald (jat ok_X6_weeksOf 5 (pc := 8) (i := .iaload) (n := 1) rfl rfl) h4 ?_
  refine J_seg ok_X6_weeksOf 6 3 (pc' := 13) (ls' := [(4, .inl v3), (0, .inr (.inr (.inl x0))), (1, .inl x1), (2, .inl x2), (3, .inl x3)]) (st' := [.inl x1, .inr (.inr (.inl x0))]) rfl ?_
  by_cases c7 : qO ah x0 6 = true
  case neg => exact absurd ((if_neg c7).symm.trans h) (by simp)
  have h := (if_pos c7).symm.trans h
  obtain ⟨q5, h6, h⟩ := Option.bind_eq_some_iff.mp h
  refine J_callV (md' := md_X6_against) (As := [.inl x1]) (st := []) (cs' := (0, 0)) (st' := [.inl q5.1]) (jat ok_X6_weeksOf 9 (pc := 13) (i := .invokevirtual 215) (n := 3) rfl rfl) ml_RX6_215 yv_X6_against c7 (c_X6_against l g (d + 0) h6) (jRo_of (by decide)) (Nat.le_of_ble_eq_true rfl) ⟨Nat.le_of_ble_eq_true rfl, Nat.le_of_ble_eq_true rfl⟩ rfl rfl rfl ?_
  refine J_seg ok_X6_weeksOf 10 3 (pc' := 20) (ls' := [(5, .inl q5.1), (4, .inl v3), (0, .inr (.inr (.inl x0))), (1, .inl x1), (2, .inl x2), (3, .inl x3)]) (st' := [.inl x1, .inr (.inr (.inl x0))]) rfl ?_
  by_cases c10 : qO q5.2 x0 6 = true
  case neg => exact absurd ((if_neg c10).symm.trans h) (by simp)
  have h := (if_pos c10).symm.trans h
  obtain ⟨q8, h9, h⟩ := Option.bind_eq_some_iff.mp h
  refine J_callV (md' := md_X6_isReached) (As := [.inl x1]) (st := []) (cs' := (0, 0)) (st' := [.inl q8.1]) (jat ok_X6_weeksOf 13 (pc := 20) (i := .invokevirtual 169) (n := 3) rfl rfl) ml_RX6_169 yv_X6_isReached c10 (c_X6_isReached l g (d + 1) h9) (jRo_of (by decide)) (Nat.le_of_ble_eq_true rfl) ⟨Nat.le_of_ble_eq_true rfl, Nat.le_of_ble_eq_true rfl⟩ rfl rfl rfl ?_
  refine J_eq0 (jat ok_X6_weeksOf 14 (pc := 23) (i := .ifCond .eq 5) (n := 3) rfl rfl) (tgt := 28) (by decide) (fun c => ?_) (fun c => ?_)
  · have h := (if_pos c).symm.trans h
    refine J_seg ok_X6_weeksOf 17 2 (pc' := 31) (ls' := [(6, .inl 1), (5, .inl q5.1), (4, .inl v3), (0, .inr (.inr (.inl x0))), (1, .inl x1), (2, .inl x2), (3, .inl x3)]) (st' := []) rfl ?_
    obtain ⟨q16, h17, h⟩ := Option.bind_eq_some_iff.mp h
    refine J_sub (ls' := [(0, .inr (.inr (.inl x0))), (1, .inl x1), (2, .inl x2), (3, .inl x3), (4, .inl v3), (5, .inl q5.1), (6, .inl 1)]) [3, 4, 5, 6, 2, 1, 0] rfl ?_
    refine J_loop (pE := 95) (lh := fun t19 => [(0, .inr (.inr (.inl x0))), (1, .inl x1), (2, .inl x2), (3, .inl x3), (4, .inl t19.1), (5, .inl q5.1), (6, .inl t19.2)]) (lx := fun z18 => []) (P := jRetI l g md_X6_weeksOf (jRm (d + 3) md_X6_weeksOf) Q (0, 0)) (fun s ah out hb hR hX hN => k_X6_weeksOf_b31 d s ah out hb hR hX hN) jfuel (v3, 1) _ _ h17 (fun r e => ?_) (fun z18 e => ?_)
    · subst e
      dsimp only at h
      have h := Option.some.inj h
      subst h
      exact hR
    · subst e
      dsimp only at h
      refine J_seg ok_X6_weeksOf 51 1 (pc' := 97) (ls' := []) (st' := [.inl (-9)]) rfl ?_
      have h := Option.some.inj h
      subst h
      exact hR _ _ (jat ok_X6_weeksOf 52 (pc := 97) (i := .ireturn) (n := 1) rfl rfl)
  · have h := (if_neg c).symm.trans h
    refine J_seg ok_X6_weeksOf 15 1 (pc' := 27) (ls' := [(5, .inl q5.1), (4, .inl v3), (0, .inr (.inr (.inl x0))), (1, .inl x1), (2, .inl x2), (3, .inl x3)]) (st' := [.inl 0]) rfl ?_
    have h := Option.some.inj h
    subst h
    exact hR _ _ (jat ok_X6_weeksOf 16 (pc := 27) (i := .ireturn) (n := 1) rfl rfl)
theorem c_X6_weeksOf (l : Launch) (g : GX) (d : Nat) {x0 : Option Nat} {x1 : Int32} {x2 : Int32} {x3 : Int32} {ah : AH} {q : Int32 × AH} (h : f_X6_weeksOf x0 x1 x2 x3 ah = some q) : jM l g (d + 3) md_X6_weeksOf [.inr (.inr (.inl x0)), .inl x1, .inl x2, .inl x3] ah (some (.inl q.1)) q.2 :=
  jM_of (by decide) (Nat.le_of_ble_eq_true rfl) (k_X6_weeksOf d ah q h (fun pc ls hd => J_reti hd rfl (jPV_int _) rfl (Nat.le_refl _) rfl rfl))
def f_X6_weeks (x0 : Option Nat) (x1 : Int32) (x2 : Int32) (ah : AH) : Option (Int32 × AH) :=
  if qO ah x0 6 = true then ((f_X6_isPerson x0 x1 ah).bind fun q1 => if q1.1 = 0 then (some ((-1), q1.2)) else ((f_X6_in (Int32.toInt64 x2) 0 9 q1.2).bind fun q4 => if q4.1 = 0 then (some ((-1), q4.2)) else (if qO q4.2 x0 6 = true then ((f_X6_weeksOf x0 x1 x2 30 q4.2).bind fun q6 => some (q6.1, q6.2)) else none))) else none
set_option maxRecDepth 100000 in
set_option maxHeartbeats 4000000 in
theorem k_X6_weeks {l : Launch} {g : GX} (d : Nat) {Q : jQ} {x0 : Option Nat} {x1 : Int32} {x2 : Int32} (ah : AH) (out : Int32 × AH) (h : f_X6_weeks x0 x1 x2 ah = some out) (hR : jRetI l g md_X6_weeks (jRm (d + 4) md_X6_weeks) Q (0, 0) out.1 out.2) : J l g md_X6_weeks (jRm (d + 4) md_X6_weeks) Q 0 [(0, .inr (.inr (.inl x0))), (1, .inl x1), (2, .inl x2)] [] ah (0, 0) := by
  unfold f_X6_weeks at h
  refine J_seg ok_X6_weeks 0 2 (pc' := 2) (ls' := [(0, .inr (.inr (.inl x0))), (1, .inl x1), (2, .inl x2)]) (st' := [.inl x1, .inr (.inr (.inl x0))]) rfl ?_
  by_cases c3 : qO ah x0 6 = true
  case neg => exact absurd ((if_neg c3).symm.trans h) (by simp)
  have h := (if_pos c3).symm.trans h
  obtain ⟨q1, h2, h⟩ := Option.bind_eq_some_iff.mp h
  refine J_callV (md' := md_X6_isPerson) (As := [.inl x1]) (st := []) (cs' := (0, 0)) (st' := [.inl q1.1]) (jat ok_X6_weeks 2 (pc := 2) (i := .invokevirtual 154) (n := 3) rfl rfl) ml_RX6_154 yv_X6_isPerson c3 (c_X6_isPerson l g (d + 2) h2) (jRo_of (by decide)) (Nat.le_of_ble_eq_true rfl) ⟨Nat.le_of_ble_eq_true rfl, Nat.le_of_ble_eq_true rfl⟩ rfl rfl rfl ?_
  refine J_eq0 (jat ok_X6_weeks 3 (pc := 5) (i := .ifCond .eq 26) (n := 3) rfl rfl) (tgt := 31) (by decide) (fun c => ?_) (fun c => ?_)
  · have h := (if_pos c).symm.trans h
    refine J_seg ok_X6_weeks 16 1 (pc' := 32) (ls' := [(0, .inr (.inr (.inl x0))), (1, .inl x1), (2, .inl x2)]) (st' := [.inl (-1)]) rfl ?_
    have h := Option.some.inj h
    subst h
    exact hR _ _ (jat ok_X6_weeks 17 (pc := 32) (i := .ireturn) (n := 1) rfl rfl)
  · have h := (if_neg c).symm.trans h
    refine J_seg ok_X6_weeks 4 3 (pc' := 11) (ls' := [(0, .inr (.inr (.inl x0))), (1, .inl x1), (2, .inl x2)]) (st' := [.inr (.inl 0), .inr (.inl (Int32.toInt64 x2))]) rfl ?_
    refine J_ldc2 (jat ok_X6_weeks 7 (pc := 11) (i := .ldc2_w 218) (n := 3) rfl rfl) lc_RX6_218 ?_
    obtain ⟨q4, h5, h⟩ := Option.bind_eq_some_iff.mp h
    refine J_callS (md' := md_X6_in) (As := [.inr (.inl (Int32.toInt64 x2)), .inr (.inl 0), .inr (.inl 9)]) (st := []) (cs' := (0, 0)) (st' := [.inl q4.1]) (jat ok_X6_weeks 8 (pc := 14) (i := .invokestatic 71) (n := 3) rfl rfl) (Or.inl ml_RX6_71) ys_X6_in (c_X6_in l g (d + 3) h5) (jRo_of (by decide)) (Nat.le_of_ble_eq_true rfl) ⟨Nat.le_of_ble_eq_true rfl, Nat.le_of_ble_eq_true rfl⟩ rfl rfl rfl ?_
    refine J_eq0 (jat ok_X6_weeks 9 (pc := 17) (i := .ifCond .eq 14) (n := 3) rfl rfl) (tgt := 31) (by decide) (fun c => ?_) (fun c => ?_)
    · have h := (if_pos c).symm.trans h
      refine J_seg ok_X6_weeks 16 1 (pc' := 32) (ls' := [(0, .inr (.inr (.inl x0))), (1, .inl x1), (2, .inl x2)]) (st' := [.inl (-1)]) rfl ?_
      have h := Option.some.inj h
      subst h
      exact hR _ _ (jat ok_X6_weeks 17 (pc := 32) (i := .ireturn) (n := 1) rfl rfl)
    · have h := (if_neg c).symm.trans h
      refine J_seg ok_X6_weeks 10 4 (pc' := 25) (ls' := [(0, .inr (.inr (.inl x0))), (1, .inl x1), (2, .inl x2)]) (st' := [.inl 30, .inl x2, .inl x1, .inr (.inr (.inl x0))]) rfl ?_
      by_cases c8 : qO q4.2 x0 6 = true
      case neg => exact absurd ((if_neg c8).symm.trans h) (by simp)
      have h := (if_pos c8).symm.trans h
      obtain ⟨q6, h7, h⟩ := Option.bind_eq_some_iff.mp h
      refine J_callV (md' := md_X6_weeksOf) (As := [.inl x1, .inl x2, .inl 30]) (st := []) (cs' := (0, 0)) (st' := [.inl q6.1]) (jat ok_X6_weeks 14 (pc := 25) (i := .invokevirtual 220) (n := 3) rfl rfl) ml_RX6_220 yv_X6_weeksOf c8 (c_X6_weeksOf l g (d + 0) h7) (jRo_of (by decide)) (Nat.le_of_ble_eq_true rfl) ⟨Nat.le_of_ble_eq_true rfl, Nat.le_of_ble_eq_true rfl⟩ rfl rfl rfl ?_
      refine J_seg ok_X6_weeks 15 1 (pc' := 32) (ls' := [(0, .inr (.inr (.inl x0))), (1, .inl x1), (2, .inl x2)]) (st' := [.inl q6.1]) rfl ?_
      have h := Option.some.inj h
      subst h
      exact hR _ _ (jat ok_X6_weeks 17 (pc := 32) (i := .ireturn) (n := 1) rfl rfl)
theorem c_X6_weeks (l : Launch) (g : GX) (d : Nat) {x0 : Option Nat} {x1 : Int32} {x2 : Int32} {ah : AH} {q : Int32 × AH} (h : f_X6_weeks x0 x1 x2 ah = some q) : jM l g (d + 4) md_X6_weeks [.inr (.inr (.inl x0)), .inl x1, .inl x2] ah (some (.inl q.1)) q.2 :=
  jM_of (by decide) (Nat.le_of_ble_eq_true rfl) (k_X6_weeks d ah q h (fun pc ls hd => J_reti hd rfl (jPV_int _) rfl (Nat.le_refl _) rfl rfl))
def f_X6_thwart_b25 (k0 : Option Nat) (k1 : Int32) (k2 : Int32) (s25 : Int32) (ah : AH) : Option ((Int32 × AH) ⊕ (((Unit) × AH) ⊕ ((Int32) × AH))) :=
  if s25 ≤ 0 then (some (.inr (.inl ((), ah)))) else (if qO ah k0 6 = true then ((f_X6_weeksOf k0 k1 s25 k2 ah).bind fun q6 => if q6.1 = (-9) then (some (.inl (s25, q6.2))) else (some (.inr (.inr (s25 + (-1), q6.2))))) else none)
set_option maxRecDepth 100000 in
set_option maxHeartbeats 4000000 in
theorem k_X6_thwart_b25 {l : Launch} {g : GX} (d : Nat) {Q : jQ} {k0 : Option Nat} {k1 : Int32} {k2 : Int32} (s25 : Int32) (ah : AH) (out : (Int32 × AH) ⊕ (((Unit) × AH) ⊕ ((Int32) × AH))) (h : f_X6_thwart_b25 k0 k1 k2 s25 ah = some out) (hR : ∀ q, out = .inl q → jRetI l g md_X6_thwart (jRm (d + 4) md_X6_thwart) Q (0, 0) q.1 q.2) (hX : ∀ q, out = .inr (.inl q) → J l g md_X6_thwart (jRm (d + 4) md_X6_thwart) Q 49 [] [] q.2 (0, 0)) (hN : ∀ q, out = .inr (.inr q) → J l g md_X6_thwart (jRm (d + 4) md_X6_thwart) Q 25 [(0, .inr (.inr (.inl k0))), (1, .inl k1), (2, .inl k2), (3, .inl q.1)] [] q.2 (0, 0)) : J l g md_X6_thwart (jRm (d + 4) md_X6_thwart) Q 25 [(0, .inr (.inr (.inl k0))), (1, .inl k1), (2, .inl k2), (3, .inl s25)] [] ah (0, 0) := by
  unfold f_X6_thwart_b25 at h
  refine J_seg ok_X6_thwart 14 1 (pc' := 26) (ls' := [(0, .inr (.inr (.inl k0))), (1, .inl k1), (2, .inl k2), (3, .inl s25)]) (st' := [.inl s25]) rfl ?_
  refine J_le0 (jat ok_X6_thwart 15 (pc := 26) (i := .ifCond .le 23) (n := 3) rfl rfl) (tgt := 49) (by decide) (fun c => ?_) (fun c => ?_)
  · have h := (if_pos c).symm.trans h
    exact J_sub (ls' := []) [] rfl (hX ((), ah) (Option.some.inj h).symm)
  · have h := (if_neg c).symm.trans h
    refine J_seg ok_X6_thwart 16 4 (pc' := 33) (ls' := [(0, .inr (.inr (.inl k0))), (1, .inl k1), (2, .inl k2), (3, .inl s25)]) (st' := [.inl k2, .inl s25, .inl k1, .inr (.inr (.inl k0))]) rfl ?_
    by_cases c8 : qO ah k0 6 = true
    case neg => exact absurd ((if_neg c8).symm.trans h) (by simp)
    have h := (if_pos c8).symm.trans h
    obtain ⟨q6, h7, h⟩ := Option.bind_eq_some_iff.mp h
    refine J_callV (md' := md_X6_weeksOf) (As := [.inl k1, .inl s25, .inl k2]) (st := []) (cs' := (0, 0)) (st' := [.inl q6.1]) (jat ok_X6_thwart 20 (pc := 33) (i := .invokevirtual 220) (n := 3) rfl rfl) ml_RX6_220 yv_X6_weeksOf c8 (c_X6_weeksOf l g (d + 0) h7) (jRo_of (by decide)) (Nat.le_of_ble_eq_true rfl) ⟨Nat.le_of_ble_eq_true rfl, Nat.le_of_ble_eq_true rfl⟩ rfl rfl rfl ?_
    refine J_seg ok_X6_thwart 21 1 (pc' := 38) (ls' := [(0, .inr (.inr (.inl k0))), (1, .inl k1), (2, .inl k2), (3, .inl s25)]) (st' := [.inl (-9), .inl q6.1]) rfl ?_
    refine J_ne (jat ok_X6_thwart 22 (pc := 38) (i := .if_icmp .ne 5) (n := 3) rfl rfl) (tgt := 43) (by decide) (fun c => ?_) (fun c => ?_)
    · have h := (if_neg c).symm.trans h
      refine J_seg ok_X6_thwart 25 2 (pc' := 25) (ls' := [(3, .inl (s25 + (-1))), (0, .inr (.inr (.inl k0))), (1, .inl k1), (2, .inl k2)]) (st' := []) rfl ?_
      exact J_sub (ls' := [(0, .inr (.inr (.inl k0))), (1, .inl k1), (2, .inl k2), (3, .inl (s25 + (-1)))]) [1, 2, 3, 0] rfl (hN (s25 + (-1), q6.2) (Option.some.inj h).symm)
    · have h := (if_pos c).symm.trans h
      refine J_seg ok_X6_thwart 23 1 (pc' := 42) (ls' := [(0, .inr (.inr (.inl k0))), (1, .inl k1), (2, .inl k2), (3, .inl s25)]) (st' := [.inl s25]) rfl ?_
      exact hR _ (Option.some.inj h).symm _ _ (jat ok_X6_thwart 24 (pc := 42) (i := .ireturn) (n := 1) rfl rfl)
def f_X6_thwart (x0 : Option Nat) (x1 : Int32) (x2 : Int32) (ah : AH) : Option (Int32 × AH) :=
  if qO ah x0 6 = true then ((f_X6_isPerson x0 x1 ah).bind fun q1 => if q1.1 = 0 then (some ((-1), q1.2)) else ((f_X6_in (Int32.toInt64 x2) 1 30 q1.2).bind fun q4 => if q4.1 = 0 then (some ((-1), q4.2)) else ((jloop (f_X6_thwart_b25 x0 x1 x2) jfuel 9 q4.2).bind fun q9 => match q9 with | .inl r => some r | .inr z11 => some ((-9), z11.2)))) else none
set_option maxRecDepth 100000 in
set_option maxHeartbeats 4000000 in
theorem k_X6_thwart {l : Launch} {g : GX} (d : Nat) {Q : jQ} {x0 : Option Nat} {x1 : Int32} {x2 : Int32} (ah : AH) (out : Int32 × AH) (h : f_X6_thwart x0 x1 x2 ah = some out) (hR : jRetI l g md_X6_thwart (jRm (d + 4) md_X6_thwart) Q (0, 0) out.1 out.2) : J l g md_X6_thwart (jRm (d + 4) md_X6_thwart) Q 0 [(0, .inr (.inr (.inl x0))), (1, .inl x1), (2, .inl x2)] [] ah (0, 0) := by
  unfold f_X6_thwart at h
  refine J_seg ok_X6_thwart 0 2 (pc' := 2) (ls' := [(0, .inr (.inr (.inl x0))), (1, .inl x1), (2, .inl x2)]) (st' := [.inl x1, .inr (.inr (.inl x0))]) rfl ?_
  by_cases c3 : qO ah x0 6 = true
  case neg => exact absurd ((if_neg c3).symm.trans h) (by simp)
  have h := (if_pos c3).symm.trans h
  obtain ⟨q1, h2, h⟩ := Option.bind_eq_some_iff.mp h
  refine J_callV (md' := md_X6_isPerson) (As := [.inl x1]) (st := []) (cs' := (0, 0)) (st' := [.inl q1.1]) (jat ok_X6_thwart 2 (pc := 2) (i := .invokevirtual 154) (n := 3) rfl rfl) ml_RX6_154 yv_X6_isPerson c3 (c_X6_isPerson l g (d + 2) h2) (jRo_of (by decide)) (Nat.le_of_ble_eq_true rfl) ⟨Nat.le_of_ble_eq_true rfl, Nat.le_of_ble_eq_true rfl⟩ rfl rfl rfl ?_
  refine J_eq0 (jat ok_X6_thwart 3 (pc := 5) (i := .ifCond .eq 15) (n := 3) rfl rfl) (tgt := 20) (by decide) (fun c => ?_) (fun c => ?_)
  · have h := (if_pos c).symm.trans h
    refine J_seg ok_X6_thwart 10 1 (pc' := 21) (ls' := [(0, .inr (.inr (.inl x0))), (1, .inl x1), (2, .inl x2)]) (st' := [.inl (-1)]) rfl ?_
    have h := Option.some.inj h
    subst h
    exact hR _ _ (jat ok_X6_thwart 11 (pc := 21) (i := .ireturn) (n := 1) rfl rfl)
  · have h := (if_neg c).symm.trans h
    refine J_seg ok_X6_thwart 4 3 (pc' := 11) (ls' := [(0, .inr (.inr (.inl x0))), (1, .inl x1), (2, .inl x2)]) (st' := [.inr (.inl 1), .inr (.inl (Int32.toInt64 x2))]) rfl ?_
    refine J_ldc2 (jat ok_X6_thwart 7 (pc := 11) (i := .ldc2_w 224) (n := 3) rfl rfl) lc_RX6_224 ?_
    obtain ⟨q4, h5, h⟩ := Option.bind_eq_some_iff.mp h
    refine J_callS (md' := md_X6_in) (As := [.inr (.inl (Int32.toInt64 x2)), .inr (.inl 1), .inr (.inl 30)]) (st := []) (cs' := (0, 0)) (st' := [.inl q4.1]) (jat ok_X6_thwart 8 (pc := 14) (i := .invokestatic 71) (n := 3) rfl rfl) (Or.inl ml_RX6_71) ys_X6_in (c_X6_in l g (d + 3) h5) (jRo_of (by decide)) (Nat.le_of_ble_eq_true rfl) ⟨Nat.le_of_ble_eq_true rfl, Nat.le_of_ble_eq_true rfl⟩ rfl rfl rfl ?_
    refine J_ne0 (jat ok_X6_thwart 9 (pc := 17) (i := .ifCond .ne 5) (n := 3) rfl rfl) (tgt := 22) (by decide) (fun c => ?_) (fun c => ?_)
    · have h := (if_neg c).symm.trans h
      refine J_seg ok_X6_thwart 12 2 (pc' := 25) (ls' := [(3, .inl 9), (0, .inr (.inr (.inl x0))), (1, .inl x1), (2, .inl x2)]) (st' := []) rfl ?_
      obtain ⟨q9, h10, h⟩ := Option.bind_eq_some_iff.mp h
      refine J_sub (ls' := [(0, .inr (.inr (.inl x0))), (1, .inl x1), (2, .inl x2), (3, .inl 9)]) [1, 2, 3, 0] rfl ?_
      refine J_loop (pE := 49) (lh := fun t12 => [(0, .inr (.inr (.inl x0))), (1, .inl x1), (2, .inl x2), (3, .inl t12)]) (lx := fun z11 => []) (P := jRetI l g md_X6_thwart (jRm (d + 4) md_X6_thwart) Q (0, 0)) (fun s ah out hb hR hX hN => k_X6_thwart_b25 d s ah out hb hR hX hN) jfuel 9 _ _ h10 (fun r e => ?_) (fun z11 e => ?_)
      · subst e
        dsimp only at h
        have h := Option.some.inj h
        subst h
        exact hR
      · subst e
        dsimp only at h
        refine J_seg ok_X6_thwart 27 1 (pc' := 51) (ls' := []) (st' := [.inl (-9)]) rfl ?_
        have h := Option.some.inj h
        subst h
        exact hR _ _ (jat ok_X6_thwart 28 (pc := 51) (i := .ireturn) (n := 1) rfl rfl)
    · have h := (if_pos c).symm.trans h
      refine J_seg ok_X6_thwart 10 1 (pc' := 21) (ls' := [(0, .inr (.inr (.inl x0))), (1, .inl x1), (2, .inl x2)]) (st' := [.inl (-1)]) rfl ?_
      have h := Option.some.inj h
      subst h
      exact hR _ _ (jat ok_X6_thwart 11 (pc := 21) (i := .ireturn) (n := 1) rfl rfl)
theorem c_X6_thwart (l : Launch) (g : GX) (d : Nat) {x0 : Option Nat} {x1 : Int32} {x2 : Int32} {ah : AH} {q : Int32 × AH} (h : f_X6_thwart x0 x1 x2 ah = some q) : jM l g (d + 4) md_X6_thwart [.inr (.inr (.inl x0)), .inl x1, .inl x2] ah (some (.inl q.1)) q.2 :=
  jM_of (by decide) (Nat.le_of_ble_eq_true rfl) (k_X6_thwart d ah q h (fun pc ls hd => J_reti hd rfl (jPV_int _) rfl (Nat.le_refl _) rfl rfl))
def f_X6_isReachedBy_b21_j68 (k0 : Option Nat) (k1 : Int32) (k2 : Int32) (k3 : Int32) (x6 : Int32) (y0 : Int32) (ah : AH) : Option ((Unit × AH) ⊕ (((Int32) × AH) ⊕ ((Int32 × Int32 × Int32) × AH))) :=
  (gR ah k0 6 3).bind fun v10 => (gA ah v10 k1).bind fun v12 => if y0 < v12 then (some (.inr (.inr ((y0, 0, x6 + 1), ah)))) else (some (.inr (.inr ((y0, 1, x6 + 1), ah))))
set_option maxRecDepth 100000 in
set_option maxHeartbeats 4000000 in
theorem k_X6_isReachedBy_b21_j68 {l : Launch} {g : GX} (d : Nat) {Q : jQ} {k0 : Option Nat} {k1 : Int32} {k2 : Int32} {k3 : Int32} {x6 : Int32} {y0 : Int32} (ah : AH) (out : (Unit × AH) ⊕ (((Int32) × AH) ⊕ ((Int32 × Int32 × Int32) × AH))) (h : f_X6_isReachedBy_b21_j68 k0 k1 k2 k3 x6 y0 ah = some out) (hR : ∀ q, out = .inl q → jRetN q.1 q.2) (hX : ∀ q, out = .inr (.inl q) → J l g md_X6_isReachedBy (jRm (d + 3) md_X6_isReachedBy) Q 94 [(5, .inl q.1)] [] q.2 (0, 0)) (hN : ∀ q, out = .inr (.inr q) → J l g md_X6_isReachedBy (jRm (d + 3) md_X6_isReachedBy) Q 21 [(0, .inr (.inr (.inl k0))), (1, .inl k1), (2, .inl k2), (3, .inl k3), (4, .inl q.1.1), (5, .inl q.1.2.1), (6, .inl q.1.2.2)] [] q.2 (0, 0)) : J l g md_X6_isReachedBy (jRm (d + 3) md_X6_isReachedBy) Q 68 [(0, .inr (.inr (.inl k0))), (1, .inl k1), (2, .inl k2), (3, .inl k3), (6, .inl x6)] [.inl y0] ah (0, 0) := by
  unfold f_X6_isReachedBy_b21_j68 at h
  refine J_seg ok_X6_isReachedBy 37 3 (pc' := 73) (ls' := [(4, .inl y0), (0, .inr (.inr (.inl k0))), (1, .inl k1), (2, .inl k2), (3, .inl k3), (6, .inl x6)]) (st' := [.inr (.inr (.inl k0)), .inl y0]) rfl ?_
  obtain ⟨v10, h11, h⟩ := Option.bind_eq_some_iff.mp h
  refine J_getR (jat ok_X6_isReachedBy 40 (pc := 73) (i := .getfield 16) (n := 3) rfl rfl) fl_RX6_16 h11 ?_
  refine J_seg ok_X6_isReachedBy 41 1 (pc' := 77) (ls' := [(4, .inl y0), (0, .inr (.inr (.inl k0))), (1, .inl k1), (2, .inl k2), (3, .inl k3), (6, .inl x6)]) (st' := [.inl k1, .inr (.inr (.inl v10)), .inl y0]) rfl ?_
  obtain ⟨v12, h13, h⟩ := Option.bind_eq_some_iff.mp h
  refine J_iald (jat ok_X6_isReachedBy 42 (pc := 77) (i := .iaload) (n := 1) rfl rfl) h13 ?_
  refine J_lt (jat ok_X6_isReachedBy 43 (pc := 78) (i := .if_icmp .lt 7) (n := 3) rfl rfl) (tgt := 85) (by decide) (fun c => ?_) (fun c => ?_)
  · have h := (if_pos c).symm.trans h
    refine J_seg ok_X6_isReachedBy 46 4 (pc' := 21) (ls' := [(6, .inl (x6 + 1)), (5, .inl 0), (4, .inl y0), (0, .inr (.inr (.inl k0))), (1, .inl k1), (2, .inl k2), (3, .inl k3)]) (st' := []) rfl ?_
    exact J_sub (ls' := [(0, .inr (.inr (.inl k0))), (1, .inl k1), (2, .inl k2), (3, .inl k3), (4, .inl y0), (5, .inl 0), (6, .inl (x6 + 1))]) [3, 4, 5, 6, 2, 1, 0] rfl (hN ((y0, 0, x6 + 1), ah) (Option.some.inj h).symm)
  · have h := (if_neg c).symm.trans h
    refine J_seg ok_X6_isReachedBy 44 2 (pc' := 86) (ls' := [(4, .inl y0), (0, .inr (.inr (.inl k0))), (1, .inl k1), (2, .inl k2), (3, .inl k3), (6, .inl x6)]) (st' := [.inl 1]) rfl ?_
    refine J_seg ok_X6_isReachedBy 47 3 (pc' := 21) (ls' := [(6, .inl (x6 + 1)), (5, .inl 1), (4, .inl y0), (0, .inr (.inr (.inl k0))), (1, .inl k1), (2, .inl k2), (3, .inl k3)]) (st' := []) rfl ?_
    exact J_sub (ls' := [(0, .inr (.inr (.inl k0))), (1, .inl k1), (2, .inl k2), (3, .inl k3), (4, .inl y0), (5, .inl 1), (6, .inl (x6 + 1))]) [3, 4, 5, 6, 2, 1, 0] rfl (hN ((y0, 1, x6 + 1), ah) (Option.some.inj h).symm)
def f_X6_isReachedBy_b21_j53 (k0 : Option Nat) (k1 : Int32) (k2 : Int32) (k3 : Int32) (x6 : Int32) (y0 : Int32) (y1 : Int32) (y2 : Int32) (ah : AH) : Option ((Unit × AH) ⊕ (((Int32) × AH) ⊕ ((Int32 × Int32 × Int32) × AH))) :=
  if 0 ≤ (y2 + (y1 - y0)) then (f_X6_isReachedBy_b21_j68 k0 k1 k2 k3 x6 (y2 + (y1 - y0)) ah) else (f_X6_isReachedBy_b21_j68 k0 k1 k2 k3 x6 0 ah)
set_option maxRecDepth 100000 in
set_option maxHeartbeats 4000000 in
theorem k_X6_isReachedBy_b21_j53 {l : Launch} {g : GX} (d : Nat) {Q : jQ} {k0 : Option Nat} {k1 : Int32} {k2 : Int32} {k3 : Int32} {x6 : Int32} {y0 : Int32} {y1 : Int32} {y2 : Int32} (ah : AH) (out : (Unit × AH) ⊕ (((Int32) × AH) ⊕ ((Int32 × Int32 × Int32) × AH))) (h : f_X6_isReachedBy_b21_j53 k0 k1 k2 k3 x6 y0 y1 y2 ah = some out) (hR : ∀ q, out = .inl q → jRetN q.1 q.2) (hX : ∀ q, out = .inr (.inl q) → J l g md_X6_isReachedBy (jRm (d + 3) md_X6_isReachedBy) Q 94 [(5, .inl q.1)] [] q.2 (0, 0)) (hN : ∀ q, out = .inr (.inr q) → J l g md_X6_isReachedBy (jRm (d + 3) md_X6_isReachedBy) Q 21 [(0, .inr (.inr (.inl k0))), (1, .inl k1), (2, .inl k2), (3, .inl k3), (4, .inl q.1.1), (5, .inl q.1.2.1), (6, .inl q.1.2.2)] [] q.2 (0, 0)) : J l g md_X6_isReachedBy (jRm (d + 3) md_X6_isReachedBy) Q 53 [(0, .inr (.inr (.inl k0))), (1, .inl k1), (2, .inl k2), (3, .inl k3), (6, .inl x6)] [.inl y0, .inl y1, .inl y2] ah (0, 0) := by
  unfold f_X6_isReachedBy_b21_j53 at h
  refine J_seg ok_X6_isReachedBy 29 4 (pc' := 59) (ls' := [(4, .inl (y2 + (y1 - y0))), (0, .inr (.inr (.inl k0))), (1, .inl k1), (2, .inl k2), (3, .inl k3), (6, .inl x6)]) (st' := [.inl (y2 + (y1 - y0))]) rfl ?_
  refine J_ge0 (jat ok_X6_isReachedBy 33 (pc := 59) (i := .ifCond .ge 7) (n := 3) rfl rfl) (tgt := 66) (by decide) (fun c => ?_) (fun c => ?_)
  · have h := (if_pos c).symm.trans h
    refine J_seg ok_X6_isReachedBy 36 1 (pc' := 68) (ls' := [(4, .inl (y2 + (y1 - y0))), (0, .inr (.inr (.inl k0))), (1, .inl k1), (2, .inl k2), (3, .inl k3), (6, .inl x6)]) (st' := [.inl (y2 + (y1 - y0))]) rfl ?_
    refine J_sub (ls' := [(0, .inr (.inr (.inl k0))), (1, .inl k1), (2, .inl k2), (3, .inl k3), (6, .inl x6)]) [1, 2, 3, 4, 5] rfl ?_
    exact k_X6_isReachedBy_b21_j68 d _ _ h hR hX hN
  · have h := (if_neg c).symm.trans h
    refine J_seg ok_X6_isReachedBy 34 2 (pc' := 68) (ls' := [(4, .inl (y2 + (y1 - y0))), (0, .inr (.inr (.inl k0))), (1, .inl k1), (2, .inl k2), (3, .inl k3), (6, .inl x6)]) (st' := [.inl 0]) rfl ?_
    refine J_sub (ls' := [(0, .inr (.inr (.inl k0))), (1, .inl k1), (2, .inl k2), (3, .inl k3), (6, .inl x6)]) [1, 2, 3, 4, 5] rfl ?_
    exact k_X6_isReachedBy_b21_j68 d _ _ h hR hX hN
def f_X6_isReachedBy_b21 (k0 : Option Nat) (k1 : Int32) (k2 : Int32) (k3 : Int32) (s21 : Int32 × Int32 × Int32) (ah : AH) : Option ((Unit × AH) ⊕ (((Int32) × AH) ⊕ ((Int32 × Int32 × Int32) × AH))) :=
  if k2 ≤ s21.2.2 then (some (.inr (.inl (s21.2.1, ah)))) else (if s21.2.1 = 0 then ((f_X6_has k3 s21.2.2 ah).bind fun q8 => if q8.1 = 0 then (f_X6_isReachedBy_b21_j53 k0 k1 k2 k3 s21.2.2 0 1 s21.1 q8.2) else (if qO q8.2 k0 6 = true then ((f_X6_against k0 k1 q8.2).bind fun q14 => f_X6_isReachedBy_b21_j53 k0 k1 k2 k3 s21.2.2 q14.1 1 s21.1 q14.2) else none)) else (some (.inr (.inl (s21.2.1, ah)))))
set_option maxRecDepth 100000 in
set_option maxHeartbeats 4000000 in
theorem k_X6_isReachedBy_b21 {l : Launch} {g : GX} (d : Nat) {Q : jQ} {k0 : Option Nat} {k1 : Int32} {k2 : Int32} {k3 : Int32} (s21 : Int32 × Int32 × Int32) (ah : AH) (out : (Unit × AH) ⊕ (((Int32) × AH) ⊕ ((Int32 × Int32 × Int32) × AH))) (h : f_X6_isReachedBy_b21 k0 k1 k2 k3 s21 ah = some out) (hR : ∀ q, out = .inl q → jRetN q.1 q.2) (hX : ∀ q, out = .inr (.inl q) → J l g md_X6_isReachedBy (jRm (d + 3) md_X6_isReachedBy) Q 94 [(5, .inl q.1)] [] q.2 (0, 0)) (hN : ∀ q, out = .inr (.inr q) → J l g md_X6_isReachedBy (jRm (d + 3) md_X6_isReachedBy) Q 21 [(0, .inr (.inr (.inl k0))), (1, .inl k1), (2, .inl k2), (3, .inl k3), (4, .inl q.1.1), (5, .inl q.1.2.1), (6, .inl q.1.2.2)] [] q.2 (0, 0)) : J l g md_X6_isReachedBy (jRm (d + 3) md_X6_isReachedBy) Q 21 [(0, .inr (.inr (.inl k0))), (1, .inl k1), (2, .inl k2), (3, .inl k3), (4, .inl s21.1), (5, .inl s21.2.1), (6, .inl s21.2.2)] [] ah (0, 0) := by
  unfold f_X6_isReachedBy_b21 at h
  refine J_seg ok_X6_isReachedBy 13 2 (pc' := 24) (ls' := [(0, .inr (.inr (.inl k0))), (1, .inl k1), (2, .inl k2), (3, .inl k3), (4, .inl s21.1), (5, .inl s21.2.1), (6, .inl s21.2.2)]) (st' := [.inl k2, .inl s21.2.2]) rfl ?_
  refine J_ge (jat ok_X6_isReachedBy 15 (pc := 24) (i := .if_icmp .ge 70) (n := 3) rfl rfl) (tgt := 94) (by decide) (fun c => ?_) (fun c => ?_)
  · have h := (if_pos c).symm.trans h
    exact J_sub (ls' := [(5, .inl s21.2.1)]) [5] rfl (hX (s21.2.1, ah) (Option.some.inj h).symm)
  · have h := (if_neg c).symm.trans h
    refine J_seg ok_X6_isReachedBy 16 1 (pc' := 29) (ls' := [(0, .inr (.inr (.inl k0))), (1, .inl k1), (2, .inl k2), (3, .inl k3), (4, .inl s21.1), (5, .inl s21.2.1), (6, .inl s21.2.2)]) (st' := [.inl s21.2.1]) rfl ?_
    refine J_ne0 (jat ok_X6_isReachedBy 17 (pc := 29) (i := .ifCond .ne 65) (n := 3) rfl rfl) (tgt := 94) (by decide) (fun c => ?_) (fun c => ?_)
    · have h := (if_neg c).symm.trans h
      exact J_sub (ls' := [(5, .inl s21.2.1)]) [5] rfl (hX (s21.2.1, ah) (Option.some.inj h).symm)
    · have h := (if_pos c).symm.trans h
      refine J_seg ok_X6_isReachedBy 18 4 (pc' := 38) (ls' := [(0, .inr (.inr (.inl k0))), (1, .inl k1), (2, .inl k2), (3, .inl k3), (4, .inl s21.1), (5, .inl s21.2.1), (6, .inl s21.2.2)]) (st' := [.inl s21.2.2, .inl k3, .inl 1, .inl s21.1]) rfl ?_
      obtain ⟨q8, h9, h⟩ := Option.bind_eq_some_iff.mp h
      refine J_callS (md' := md_X6_has) (As := [.inl k3, .inl s21.2.2]) (st := [.inl 1, .inl s21.1]) (cs' := (0, 0)) (st' := [.inl q8.1, .inl 1, .inl s21.1]) (jat ok_X6_isReachedBy 22 (pc := 38) (i := .invokestatic 128) (n := 3) rfl rfl) (Or.inl ml_RX6_128) ys_X6_has (c_X6_has l g (d + 2) h9) (jRo_of (by decide)) (Nat.le_of_ble_eq_true rfl) ⟨Nat.le_of_ble_eq_true rfl, Nat.le_of_ble_eq_true rfl⟩ rfl rfl rfl ?_
      refine J_eq0 (jat ok_X6_isReachedBy 23 (pc := 41) (i := .ifCond .eq 11) (n := 3) rfl rfl) (tgt := 52) (by decide) (fun c => ?_) (fun c => ?_)
      · have h := (if_pos c).symm.trans h
        refine J_seg ok_X6_isReachedBy 28 1 (pc' := 53) (ls' := [(0, .inr (.inr (.inl k0))), (1, .inl k1), (2, .inl k2), (3, .inl k3), (4, .inl s21.1), (5, .inl s21.2.1), (6, .inl s21.2.2)]) (st' := [.inl 0, .inl 1, .inl s21.1]) rfl ?_
        refine J_sub (ls' := [(0, .inr (.inr (.inl k0))), (1, .inl k1), (2, .inl k2), (3, .inl k3), (6, .inl s21.2.2)]) [0, 1, 2, 3, 6] rfl ?_
        exact k_X6_isReachedBy_b21_j53 d _ _ h hR hX hN
      · have h := (if_neg c).symm.trans h
        refine J_seg ok_X6_isReachedBy 24 2 (pc' := 46) (ls' := [(0, .inr (.inr (.inl k0))), (1, .inl k1), (2, .inl k2), (3, .inl k3), (4, .inl s21.1), (5, .inl s21.2.1), (6, .inl s21.2.2)]) (st' := [.inl k1, .inr (.inr (.inl k0)), .inl 1, .inl s21.1]) rfl ?_
        by_cases c16 : qO q8.2 k0 6 = true
        case neg => exact absurd ((if_neg c16).symm.trans h) (by simp)
        have h := (if_pos c16).symm.trans h
        obtain ⟨q14, h15, h⟩ := Option.bind_eq_some_iff.mp h
        refine J_callV (md' := md_X6_against) (As := [.inl k1]) (st := [.inl 1, .inl s21.1]) (cs' := (0, 0)) (st' := [.inl q14.1, .inl 1, .inl s21.1]) (jat ok_X6_isReachedBy 26 (pc := 46) (i := .invokevirtual 215) (n := 3) rfl rfl) ml_RX6_215 yv_X6_against c16 (c_X6_against l g (d + 0) h15) (jRo_of (by decide)) (Nat.le_of_ble_eq_true rfl) ⟨Nat.le_of_ble_eq_true rfl, Nat.le_of_ble_eq_true rfl⟩ rfl rfl rfl ?_
        refine J_seg ok_X6_isReachedBy 27 1 (pc' := 53) (ls' := [(0, .inr (.inr (.inl k0))), (1, .inl k1), (2, .inl k2), (3, .inl k3), (4, .inl s21.1), (5, .inl s21.2.1), (6, .inl s21.2.2)]) (st' := [.inl q14.1, .inl 1, .inl s21.1]) rfl ?_
        refine J_sub (ls' := [(0, .inr (.inr (.inl k0))), (1, .inl k1), (2, .inl k2), (3, .inl k3), (6, .inl s21.2.2)]) [0, 1, 2, 3, 6] rfl ?_
        exact k_X6_isReachedBy_b21_j53 d _ _ h hR hX hN
def f_X6_isReachedBy (x0 : Option Nat) (x1 : Int32) (x2 : Int32) (x3 : Int32) (ah : AH) : Option (Int32 × AH) :=
  (gR ah x0 6 0).bind fun v1 => (gA ah v1 (7 + x1)).bind fun v3 => if qO ah x0 6 = true then ((f_X6_isReached x0 x1 ah).bind fun q5 => (jloop (f_X6_isReachedBy_b21 x0 x1 x2 x3) jfuel (v3, q5.1, 0) q5.2).bind fun q17 => match q17 with | .inl r => none | .inr z19 => if z19.1 = 0 ∨ z19.1 = 1 then some (z19.1, z19.2) else none) else none
set_option maxRecDepth 100000 in
set_option maxHeartbeats 4000000 in
theorem k_X6_isReachedBy {l : Launch} {g : GX} (d : Nat) {Q : jQ} {x0 : Option Nat} {x1 : Int32} {x2 : Int32} {x3 : Int32} (ah : AH) (out : Int32 × AH) (h : f_X6_isReachedBy x0 x1 x2 x3 ah = some out) (hR : jRetZ l g md_X6_isReachedBy (jRm (d + 3) md_X6_isReachedBy) Q (0, 0) out.1 out.2) : J l g md_X6_isReachedBy (jRm (d + 3) md_X6_isReachedBy) Q 0 [(0, .inr (.inr (.inl x0))), (1, .inl x1), (2, .inl x2), (3, .inl x3)] [] ah (0, 0) := by
  unfold f_X6_isReachedBy at h
  refine J_seg ok_X6_isReachedBy 0 1 (pc' := 1) (ls' := [(0, .inr (.inr (.inl x0))), (1, .inl x1), (2, .inl x2), (3, .inl x3)]) (st' := [.inr (.inr (.inl x0))]) rfl ?_
  obtain ⟨v1, h2, h⟩ := Option.bind_eq_some_iff.mp h
  refine J_getR (jat ok_X6_isReachedBy 1 (pc := 1) (i := .getfield 7) (n := 3) rfl rfl) fl_RX6_7 h2 ?_
  refine J_seg ok_X6_isReachedBy 2 3 (pc' := 8) (ls' := [(0, .inr (.inr (.inl x0))), (1, .inl x1), (2, .inl x2), (3, .inl x3)]) (st' := [.inl (7 + x1), .inr (.inr (.inl v1))]) rfl ?_
  obtain ⟨v3, h4, h⟩ := Option.bind_eq_some_iff.mp h
  refine J_iald (jat ok_X6_isReachedBy 5 (pc := 8) (i := .iaload) (n := 1) rfl rfl) h4 ?_
  refine J_seg ok_X6_isReachedBy 6 3 (pc' := 13) (ls' := [(4, .inl v3), (0, .inr (.inr (.inl x0))), (1, .inl x1), (2, .inl x2), (3, .inl x3)]) (st' := [.inl x1, .inr (.inr (.inl x0))]) rfl ?_
  by_cases c7 : qO ah x0 6 = true
  case neg => exact absurd ((if_neg c7).symm.trans h) (by simp)
  have h := (if_pos c7).symm.trans h
  obtain ⟨q5, h6, h⟩ := Option.bind_eq_some_iff.mp h
  refine J_callV (md' := md_X6_isReached) (As := [.inl x1]) (st := []) (cs' := (0, 0)) (st' := [.inl q5.1]) (jat ok_X6_isReachedBy 9 (pc := 13) (i := .invokevirtual 169) (n := 3) rfl rfl) ml_RX6_169 yv_X6_isReached c7 (c_X6_isReached l g (d + 1) h6) (jRo_of (by decide)) (Nat.le_of_ble_eq_true rfl) ⟨Nat.le_of_ble_eq_true rfl, Nat.le_of_ble_eq_true rfl⟩ rfl rfl rfl ?_
  refine J_seg ok_X6_isReachedBy 10 3 (pc' := 21) (ls' := [(6, .inl 0), (5, .inl q5.1), (4, .inl v3), (0, .inr (.inr (.inl x0))), (1, .inl x1), (2, .inl x2), (3, .inl x3)]) (st' := []) rfl ?_
  obtain ⟨q17, h18, h⟩ := Option.bind_eq_some_iff.mp h
  refine J_sub (ls' := [(0, .inr (.inr (.inl x0))), (1, .inl x1), (2, .inl x2), (3, .inl x3), (4, .inl v3), (5, .inl q5.1), (6, .inl 0)]) [3, 4, 5, 6, 2, 1, 0] rfl ?_
  refine J_loop (pE := 94) (lh := fun t20 => [(0, .inr (.inr (.inl x0))), (1, .inl x1), (2, .inl x2), (3, .inl x3), (4, .inl t20.1), (5, .inl t20.2.1), (6, .inl t20.2.2)]) (lx := fun z19 => [(5, .inl z19)]) (P := jRetN) (fun s ah out hb hR hX hN => k_X6_isReachedBy_b21 d s ah out hb hR hX hN) jfuel (v3, q5.1, 0) _ _ h18 (fun r e => ?_) (fun z19 e => ?_)
  · subst e
    dsimp only at h
    cases h
  · subst e
    dsimp only at h
    refine J_seg ok_X6_isReachedBy 50 1 (pc' := 96) (ls' := [(5, .inl z19.1)]) (st' := [.inl z19.1]) rfl ?_
    by_cases c : z19.1 = 0 ∨ z19.1 = 1
    · have h := (if_pos c).symm.trans h
      have h := Option.some.inj h
      subst h
      exact hR _ _ (jat ok_X6_isReachedBy 51 (pc := 96) (i := .ireturn) (n := 1) rfl rfl) c
    · have h := (if_neg c).symm.trans h
      cases h
theorem c_X6_isReachedBy (l : Launch) (g : GX) (d : Nat) {x0 : Option Nat} {x1 : Int32} {x2 : Int32} {x3 : Int32} {ah : AH} {q : Int32 × AH} (h : f_X6_isReachedBy x0 x1 x2 x3 ah = some q) : jM l g (d + 3) md_X6_isReachedBy [.inr (.inr (.inl x0)), .inl x1, .inl x2, .inl x3] ah (some (.inl q.1)) q.2 :=
  jM_of (by decide) (Nat.le_of_ble_eq_true rfl) (k_X6_isReachedBy d ah q h (fun pc ls hd c => J_reti hd rfl (jPV_z c) rfl (Nat.le_refl _) rfl rfl))
def f_X6_ways_b31_j85 (k0 : Option Nat) (k1 : Int32) (k2 : Int32) (x3 : Int32) (x5 : Int32) (x6 : Int32) (ah : AH) : Option ((Unit × AH) ⊕ (((Int32 × Int32) × AH) ⊕ ((Int32 × Int32 × Int32) × AH))) :=
  some (.inr (.inr ((x3 + 1, x6, x5 + 1), ah)))
set_option maxRecDepth 100000 in
set_option maxHeartbeats 4000000 in
theorem k_X6_ways_b31_j85 {l : Launch} {g : GX} (d : Nat) {Q : jQ} {k0 : Option Nat} {k1 : Int32} {k2 : Int32} {x3 : Int32} {x5 : Int32} {x6 : Int32} (ah : AH) (out : (Unit × AH) ⊕ (((Int32 × Int32) × AH) ⊕ ((Int32 × Int32 × Int32) × AH))) (h : f_X6_ways_b31_j85 k0 k1 k2 x3 x5 x6 ah = some out) (hR : ∀ q, out = .inl q → jRetN q.1 q.2) (hX : ∀ q, out = .inr (.inl q) → J l g md_X6_ways (jRm (d + 4) md_X6_ways) Q 103 [(0, .inr (.inr (.inl k0))), (3, .inl q.1.1), (4, .inl q.1.2)] [] q.2 (0, 0)) (hN : ∀ q, out = .inr (.inr q) → J l g md_X6_ways (jRm (d + 4) md_X6_ways) Q 31 [(0, .inr (.inr (.inl k0))), (1, .inl k1), (2, .inl k2), (3, .inl q.1.1), (4, .inl q.1.2.1), (5, .inl q.1.2.2)] [] q.2 (0, 0)) : J l g md_X6_ways (jRm (d + 4) md_X6_ways) Q 85 [(0, .inr (.inr (.inl k0))), (1, .inl k1), (2, .inl k2), (3, .inl x3), (5, .inl x5), (6, .inl x6)] [] ah (0, 0) := by
  unfold f_X6_ways_b31_j85 at h
  refine J_seg ok_X6_ways 48 2 (pc' := 92) (ls' := [(0, .inr (.inr (.inl k0))), (1, .inl k1), (2, .inl k2), (3, .inl x3), (5, .inl x5), (6, .inl x6)]) (st' := [.inl x6]) rfl ?_
  refine J_seg ok_X6_ways 51 4 (pc' := 31) (ls' := [(5, .inl (x5 + 1)), (3, .inl (x3 + 1)), (4, .inl x6), (0, .inr (.inr (.inl k0))), (1, .inl k1), (2, .inl k2), (6, .inl x6)]) (st' := []) rfl ?_
  exact J_sub (ls' := [(0, .inr (.inr (.inl k0))), (1, .inl k1), (2, .inl k2), (3, .inl (x3 + 1)), (4, .inl x6), (5, .inl (x5 + 1))]) [3, 4, 5, 1, 2, 0] rfl (hN ((x3 + 1, x6, x5 + 1), ah) (Option.some.inj h).symm)
def f_X6_ways_b31 (k0 : Option Nat) (k1 : Int32) (k2 : Int32) (s31 : Int32 × Int32 × Int32) (ah : AH) : Option ((Unit × AH) ⊕ (((Int32 × Int32) × AH) ⊕ ((Int32 × Int32 × Int32) × AH))) :=
  if (1 <<< (k2 &&& 31)) ≤ s31.2.2 then (some (.inr (.inl ((s31.1, s31.2.1), ah)))) else (if qO ah k0 6 = true then ((f_X6_isReachedBy k0 k1 k2 s31.2.2 ah).bind fun q6 => if q6.1 = 0 then ((f_X6_bits s31.2.2 q6.2).bind fun q9 => if s31.2.1 = (-9) then (f_X6_ways_b31_j85 k0 k1 k2 s31.1 s31.2.2 ((q9.1 + ((s31.2.2 >>> ((6 : Int32) &&& 31)) &&& 1)) + (s31.2.2 >>> ((7 : Int32) &&& 31))) q9.2) else (if s31.2.1 ≤ ((q9.1 + ((s31.2.2 >>> ((6 : Int32) &&& 31)) &&& 1)) + (s31.2.2 >>> ((7 : Int32) &&& 31))) then (some (.inr (.inr ((s31.1 + 1, s31.2.1, s31.2.2 + 1), q9.2)))) else (f_X6_ways_b31_j85 k0 k1 k2 s31.1 s31.2.2 ((q9.1 + ((s31.2.2 >>> ((6 : Int32) &&& 31)) &&& 1)) + (s31.2.2 >>> ((7 : Int32) &&& 31))) q9.2))) else (some (.inr (.inr ((s31.1, s31.2.1, s31.2.2 + 1), q6.2))))) else none)
set_option maxRecDepth 100000 in
set_option maxHeartbeats 4000000 in
theorem k_X6_ways_b31 {l : Launch} {g : GX} (d : Nat) {Q : jQ} {k0 : Option Nat} {k1 : Int32} {k2 : Int32} (s31 : Int32 × Int32 × Int32) (ah : AH) (out : (Unit × AH) ⊕ (((Int32 × Int32) × AH) ⊕ ((Int32 × Int32 × Int32) × AH))) (h : f_X6_ways_b31 k0 k1 k2 s31 ah = some out) (hR : ∀ q, out = .inl q → jRetN q.1 q.2) (hX : ∀ q, out = .inr (.inl q) → J l g md_X6_ways (jRm (d + 4) md_X6_ways) Q 103 [(0, .inr (.inr (.inl k0))), (3, .inl q.1.1), (4, .inl q.1.2)] [] q.2 (0, 0)) (hN : ∀ q, out = .inr (.inr q) → J l g md_X6_ways (jRm (d + 4) md_X6_ways) Q 31 [(0, .inr (.inr (.inl k0))), (1, .inl k1), (2, .inl k2), (3, .inl q.1.1), (4, .inl q.1.2.1), (5, .inl q.1.2.2)] [] q.2 (0, 0)) : J l g md_X6_ways (jRm (d + 4) md_X6_ways) Q 31 [(0, .inr (.inr (.inl k0))), (1, .inl k1), (2, .inl k2), (3, .inl s31.1), (4, .inl s31.2.1), (5, .inl s31.2.2)] [] ah (0, 0) := by
  unfold f_X6_ways_b31 at h
  refine J_seg ok_X6_ways 18 4 (pc' := 36) (ls' := [(0, .inr (.inr (.inl k0))), (1, .inl k1), (2, .inl k2), (3, .inl s31.1), (4, .inl s31.2.1), (5, .inl s31.2.2)]) (st' := [.inl (1 <<< (k2 &&& 31)), .inl s31.2.2]) rfl ?_
  refine J_ge (jat ok_X6_ways 22 (pc := 36) (i := .if_icmp .ge 67) (n := 3) rfl rfl) (tgt := 103) (by decide) (fun c => ?_) (fun c => ?_)
  · have h := (if_pos c).symm.trans h
    exact J_sub (ls' := [(0, .inr (.inr (.inl k0))), (3, .inl s31.1), (4, .inl s31.2.1)]) [0, 3, 4] rfl (hX ((s31.1, s31.2.1), ah) (Option.some.inj h).symm)
  · have h := (if_neg c).symm.trans h
    refine J_seg ok_X6_ways 23 4 (pc' := 44) (ls' := [(0, .inr (.inr (.inl k0))), (1, .inl k1), (2, .inl k2), (3, .inl s31.1), (4, .inl s31.2.1), (5, .inl s31.2.2)]) (st' := [.inl s31.2.2, .inl k2, .inl k1, .inr (.inr (.inl k0))]) rfl ?_
    by_cases c8 : qO ah k0 6 = true
    case neg => exact absurd ((if_neg c8).symm.trans h) (by simp)
    have h := (if_pos c8).symm.trans h
    obtain ⟨q6, h7, h⟩ := Option.bind_eq_some_iff.mp h
    refine J_callV (md' := md_X6_isReachedBy) (As := [.inl k1, .inl k2, .inl s31.2.2]) (st := []) (cs' := (0, 0)) (st' := [.inl q6.1]) (jat ok_X6_ways 27 (pc := 44) (i := .invokevirtual 226) (n := 3) rfl rfl) ml_RX6_226 yv_X6_isReachedBy c8 (c_X6_isReachedBy l g (d + 0) h7) (jRo_of (by decide)) (Nat.le_of_ble_eq_true rfl) ⟨Nat.le_of_ble_eq_true rfl, Nat.le_of_ble_eq_true rfl⟩ rfl rfl rfl ?_
    refine J_ne0 (jat ok_X6_ways 28 (pc := 47) (i := .ifCond .ne 50) (n := 3) rfl rfl) (tgt := 97) (by decide) (fun c => ?_) (fun c => ?_)
    · have h := (if_neg c).symm.trans h
      refine J_seg ok_X6_ways 53 2 (pc' := 31) (ls' := [(5, .inl (s31.2.2 + 1)), (0, .inr (.inr (.inl k0))), (1, .inl k1), (2, .inl k2), (3, .inl s31.1), (4, .inl s31.2.1)]) (st' := []) rfl ?_
      exact J_sub (ls' := [(0, .inr (.inr (.inl k0))), (1, .inl k1), (2, .inl k2), (3, .inl s31.1), (4, .inl s31.2.1), (5, .inl (s31.2.2 + 1))]) [1, 2, 3, 4, 5, 0] rfl (hN ((s31.1, s31.2.1, s31.2.2 + 1), q6.2) (Option.some.inj h).symm)
    · have h := (if_pos c).symm.trans h
      refine J_seg ok_X6_ways 29 1 (pc' := 52) (ls' := [(0, .inr (.inr (.inl k0))), (1, .inl k1), (2, .inl k2), (3, .inl s31.1), (4, .inl s31.2.1), (5, .inl s31.2.2)]) (st' := [.inl s31.2.2]) rfl ?_
      obtain ⟨q9, h10, h⟩ := Option.bind_eq_some_iff.mp h
      refine J_callS (md' := md_X6_bits) (As := [.inl s31.2.2]) (st := []) (cs' := (0, 0)) (st' := [.inl q9.1]) (jat ok_X6_ways 30 (pc := 52) (i := .invokestatic 183) (n := 3) rfl rfl) (Or.inl ml_RX6_183) ys_X6_bits (c_X6_bits l g (d + 3) h10) (jRo_of (by decide)) (Nat.le_of_ble_eq_true rfl) ⟨Nat.le_of_ble_eq_true rfl, Nat.le_of_ble_eq_true rfl⟩ rfl rfl rfl ?_
      refine J_seg ok_X6_ways 31 13 (pc' := 75) (ls' := [(6, .inl ((q9.1 + ((s31.2.2 >>> ((6 : Int32) &&& 31)) &&& 1)) + (s31.2.2 >>> ((7 : Int32) &&& 31)))), (0, .inr (.inr (.inl k0))), (1, .inl k1), (2, .inl k2), (3, .inl s31.1), (4, .inl s31.2.1), (5, .inl s31.2.2)]) (st' := [.inl (-9), .inl s31.2.1]) rfl ?_
      refine J_eq (jat ok_X6_ways 44 (pc := 75) (i := .if_icmp .eq 10) (n := 3) rfl rfl) (tgt := 85) (by decide) (fun c => ?_) (fun c => ?_)
      · have h := (if_pos c).symm.trans h
        refine J_sub (ls' := [(0, .inr (.inr (.inl k0))), (1, .inl k1), (2, .inl k2), (3, .inl s31.1), (5, .inl s31.2.2), (6, .inl ((q9.1 + ((s31.2.2 >>> ((6 : Int32) &&& 31)) &&& 1)) + (s31.2.2 >>> ((7 : Int32) &&& 31))))]) [1, 2, 3, 4, 6, 0] rfl ?_
        exact k_X6_ways_b31_j85 d _ _ h hR hX hN
      · have h := (if_neg c).symm.trans h
        refine J_seg ok_X6_ways 45 2 (pc' := 82) (ls' := [(6, .inl ((q9.1 + ((s31.2.2 >>> ((6 : Int32) &&& 31)) &&& 1)) + (s31.2.2 >>> ((7 : Int32) &&& 31)))), (0, .inr (.inr (.inl k0))), (1, .inl k1), (2, .inl k2), (3, .inl s31.1), (4, .inl s31.2.1), (5, .inl s31.2.2)]) (st' := [.inl s31.2.1, .inl ((q9.1 + ((s31.2.2 >>> ((6 : Int32) &&& 31)) &&& 1)) + (s31.2.2 >>> ((7 : Int32) &&& 31)))]) rfl ?_
        refine J_ge (jat ok_X6_ways 47 (pc := 82) (i := .if_icmp .ge 8) (n := 3) rfl rfl) (tgt := 90) (by decide) (fun c => ?_) (fun c => ?_)
        · have h := (if_pos c).symm.trans h
          refine J_seg ok_X6_ways 50 5 (pc' := 31) (ls' := [(5, .inl (s31.2.2 + 1)), (3, .inl (s31.1 + 1)), (4, .inl s31.2.1), (6, .inl ((q9.1 + ((s31.2.2 >>> ((6 : Int32) &&& 31)) &&& 1)) + (s31.2.2 >>> ((7 : Int32) &&& 31)))), (0, .inr (.inr (.inl k0))), (1, .inl k1), (2, .inl k2)]) (st' := []) rfl ?_
          exact J_sub (ls' := [(0, .inr (.inr (.inl k0))), (1, .inl k1), (2, .inl k2), (3, .inl (s31.1 + 1)), (4, .inl s31.2.1), (5, .inl (s31.2.2 + 1))]) [4, 5, 6, 1, 2, 0] rfl (hN ((s31.1 + 1, s31.2.1, s31.2.2 + 1), q9.2) (Option.some.inj h).symm)
        · have h := (if_neg c).symm.trans h
          refine J_sub (ls' := [(0, .inr (.inr (.inl k0))), (1, .inl k1), (2, .inl k2), (3, .inl s31.1), (5, .inl s31.2.2), (6, .inl ((q9.1 + ((s31.2.2 >>> ((6 : Int32) &&& 31)) &&& 1)) + (s31.2.2 >>> ((7 : Int32) &&& 31))))]) [1, 2, 3, 4, 6, 0] rfl ?_
          exact k_X6_ways_b31_j85 d _ _ h hR hX hN
def f_X6_ways (x0 : Option Nat) (x1 : Int32) (x2 : Int32) (ah : AH) : Option (Int32 × AH) :=
  if qO ah x0 6 = true then ((f_X6_isPerson x0 x1 ah).bind fun q1 => if q1.1 = 0 then (some ((-1), q1.2)) else ((f_X6_in (Int32.toInt64 x2) 0 8 q1.2).bind fun q4 => if q4.1 = 0 then (some ((-1), q4.2)) else ((jloop (f_X6_ways_b31 x0 x1 x2) jfuel (0, (-9), 0) q4.2).bind fun q11 => match q11 with | .inl r => none | .inr z13 => (sF z13.2 x0 6 11 (.inl z13.1.2)).bind fun a15 => some (z13.1.1, a15)))) else none
set_option maxRecDepth 100000 in
set_option maxHeartbeats 4000000 in
theorem k_X6_ways {l : Launch} {g : GX} (d : Nat) {Q : jQ} {x0 : Option Nat} {x1 : Int32} {x2 : Int32} (ah : AH) (out : Int32 × AH) (h : f_X6_ways x0 x1 x2 ah = some out) (hR : jRetI l g md_X6_ways (jRm (d + 4) md_X6_ways) Q (0, 0) out.1 out.2) : J l g md_X6_ways (jRm (d + 4) md_X6_ways) Q 0 [(0, .inr (.inr (.inl x0))), (1, .inl x1), (2, .inl x2)] [] ah (0, 0) := by
  unfold f_X6_ways at h
  refine J_seg ok_X6_ways 0 2 (pc' := 2) (ls' := [(0, .inr (.inr (.inl x0))), (1, .inl x1), (2, .inl x2)]) (st' := [.inl x1, .inr (.inr (.inl x0))]) rfl ?_
  by_cases c3 : qO ah x0 6 = true
  case neg => exact absurd ((if_neg c3).symm.trans h) (by simp)
  have h := (if_pos c3).symm.trans h
  obtain ⟨q1, h2, h⟩ := Option.bind_eq_some_iff.mp h
  refine J_callV (md' := md_X6_isPerson) (As := [.inl x1]) (st := []) (cs' := (0, 0)) (st' := [.inl q1.1]) (jat ok_X6_ways 2 (pc := 2) (i := .invokevirtual 154) (n := 3) rfl rfl) ml_RX6_154 yv_X6_isPerson c3 (c_X6_isPerson l g (d + 2) h2) (jRo_of (by decide)) (Nat.le_of_ble_eq_true rfl) ⟨Nat.le_of_ble_eq_true rfl, Nat.le_of_ble_eq_true rfl⟩ rfl rfl rfl ?_
  refine J_eq0 (jat ok_X6_ways 3 (pc := 5) (i := .ifCond .eq 15) (n := 3) rfl rfl) (tgt := 20) (by decide) (fun c => ?_) (fun c => ?_)
  · have h := (if_pos c).symm.trans h
    refine J_seg ok_X6_ways 10 1 (pc' := 21) (ls' := [(0, .inr (.inr (.inl x0))), (1, .inl x1), (2, .inl x2)]) (st' := [.inl (-1)]) rfl ?_
    have h := Option.some.inj h
    subst h
    exact hR _ _ (jat ok_X6_ways 11 (pc := 21) (i := .ireturn) (n := 1) rfl rfl)
  · have h := (if_neg c).symm.trans h
    refine J_seg ok_X6_ways 4 3 (pc' := 11) (ls' := [(0, .inr (.inr (.inl x0))), (1, .inl x1), (2, .inl x2)]) (st' := [.inr (.inl 0), .inr (.inl (Int32.toInt64 x2))]) rfl ?_
    refine J_ldc2 (jat ok_X6_ways 7 (pc := 11) (i := .ldc2_w 172) (n := 3) rfl rfl) lc_RX6_172 ?_
    obtain ⟨q4, h5, h⟩ := Option.bind_eq_some_iff.mp h
    refine J_callS (md' := md_X6_in) (As := [.inr (.inl (Int32.toInt64 x2)), .inr (.inl 0), .inr (.inl 8)]) (st := []) (cs' := (0, 0)) (st' := [.inl q4.1]) (jat ok_X6_ways 8 (pc := 14) (i := .invokestatic 71) (n := 3) rfl rfl) (Or.inl ml_RX6_71) ys_X6_in (c_X6_in l g (d + 3) h5) (jRo_of (by decide)) (Nat.le_of_ble_eq_true rfl) ⟨Nat.le_of_ble_eq_true rfl, Nat.le_of_ble_eq_true rfl⟩ rfl rfl rfl ?_
    refine J_ne0 (jat ok_X6_ways 9 (pc := 17) (i := .ifCond .ne 5) (n := 3) rfl rfl) (tgt := 22) (by decide) (fun c => ?_) (fun c => ?_)
    · have h := (if_neg c).symm.trans h
      refine J_seg ok_X6_ways 12 6 (pc' := 31) (ls' := [(5, .inl 0), (4, .inl (-9)), (3, .inl 0), (0, .inr (.inr (.inl x0))), (1, .inl x1), (2, .inl x2)]) (st' := []) rfl ?_
      obtain ⟨q11, h12, h⟩ := Option.bind_eq_some_iff.mp h
      refine J_sub (ls' := [(0, .inr (.inr (.inl x0))), (1, .inl x1), (2, .inl x2), (3, .inl 0), (4, .inl (-9)), (5, .inl 0)]) [3, 4, 5, 2, 1, 0] rfl ?_
      refine J_loop (pE := 103) (lh := fun t14 => [(0, .inr (.inr (.inl x0))), (1, .inl x1), (2, .inl x2), (3, .inl t14.1), (4, .inl t14.2.1), (5, .inl t14.2.2)]) (lx := fun z13 => [(0, .inr (.inr (.inl x0))), (3, .inl z13.1), (4, .inl z13.2)]) (P := jRetN) (fun s ah out hb hR hX hN => k_X6_ways_b31 d s ah out hb hR hX hN) jfuel (0, (-9), 0) _ _ h12 (fun r e => ?_) (fun z13 e => ?_)
      · subst e
        dsimp only at h
        cases h
      · subst e
        dsimp only at h
        refine J_seg ok_X6_ways 55 2 (pc' := 106) (ls' := [(0, .inr (.inr (.inl x0))), (3, .inl z13.1.1), (4, .inl z13.1.2)]) (st' := [.inl z13.1.2, .inr (.inr (.inl x0))]) rfl ?_
        obtain ⟨a15, h16, h⟩ := Option.bind_eq_some_iff.mp h
        refine J_put (jat ok_X6_ways 57 (pc := 106) (i := .putfield 66) (n := 3) rfl rfl) (fp_RX6_66 _) (jPV_int _) h16 ?_
        refine J_seg ok_X6_ways 58 1 (pc' := 110) (ls' := [(0, .inr (.inr (.inl x0))), (3, .inl z13.1.1), (4, .inl z13.1.2)]) (st' := [.inl z13.1.1]) rfl ?_
        have h := Option.some.inj h
        subst h
        exact hR _ _ (jat ok_X6_ways 59 (pc := 110) (i := .ireturn) (n := 1) rfl rfl)
    · have h := (if_pos c).symm.trans h
      refine J_seg ok_X6_ways 10 1 (pc' := 21) (ls' := [(0, .inr (.inr (.inl x0))), (1, .inl x1), (2, .inl x2)]) (st' := [.inl (-1)]) rfl ?_
      have h := Option.some.inj h
      subst h
      exact hR _ _ (jat ok_X6_ways 11 (pc := 21) (i := .ireturn) (n := 1) rfl rfl)
theorem c_X6_ways (l : Launch) (g : GX) (d : Nat) {x0 : Option Nat} {x1 : Int32} {x2 : Int32} {ah : AH} {q : Int32 × AH} (h : f_X6_ways x0 x1 x2 ah = some q) : jM l g (d + 4) md_X6_ways [.inr (.inr (.inl x0)), .inl x1, .inl x2] ah (some (.inl q.1)) q.2 :=
  jM_of (by decide) (Nat.le_of_ble_eq_true rfl) (k_X6_ways d ah q h (fun pc ls hd => J_reti hd rfl (jPV_int _) rfl (Nat.le_refl _) rfl rfl))
def f_X6_wish_j84 (x5 : Int32) (y0 : Int32) (ah : AH) : Option (Int32 × AH) :=
  if 0 < x5 then (some (0, ah)) else (if 0 < y0 then (some (0, ah)) else (if 0 ≤ (x5 + y0) then (some (0, ah)) else (some (1, ah))))
set_option maxRecDepth 100000 in
set_option maxHeartbeats 4000000 in
theorem k_X6_wish_j84 {l : Launch} {g : GX} (d : Nat) {Q : jQ} {x5 : Int32} {y0 : Int32} (ah : AH) (out : Int32 × AH) (h : f_X6_wish_j84 x5 y0 ah = some out) (hR : jRetZ l g md_X6_wish (jRm (d + 2) md_X6_wish) Q (0, 0) out.1 out.2) : J l g md_X6_wish (jRm (d + 2) md_X6_wish) Q 84 [(5, .inl x5)] [.inl y0] ah (0, 0) := by
  unfold f_X6_wish_j84 at h
  refine J_seg ok_X6_wish 49 2 (pc' := 88) (ls' := [(6, .inl y0), (5, .inl x5)]) (st' := [.inl x5]) rfl ?_
  refine J_gt0 (jat ok_X6_wish 51 (pc := 88) (i := .ifCond .gt 20) (n := 3) rfl rfl) (tgt := 108) (by decide) (fun c => ?_) (fun c => ?_)
  · have h := (if_pos c).symm.trans h
    refine J_seg ok_X6_wish 60 1 (pc' := 109) (ls' := [(6, .inl y0), (5, .inl x5)]) (st' := [.inl 0]) rfl ?_
    have h := Option.some.inj h
    subst h
    exact hR _ _ (jat ok_X6_wish 61 (pc := 109) (i := .ireturn) (n := 1) rfl rfl) (Or.inl rfl)
  · have h := (if_neg c).symm.trans h
    refine J_seg ok_X6_wish 52 1 (pc' := 93) (ls' := [(6, .inl y0), (5, .inl x5)]) (st' := [.inl y0]) rfl ?_
    refine J_gt0 (jat ok_X6_wish 53 (pc := 93) (i := .ifCond .gt 15) (n := 3) rfl rfl) (tgt := 108) (by decide) (fun c => ?_) (fun c => ?_)
    · have h := (if_pos c).symm.trans h
      refine J_seg ok_X6_wish 60 1 (pc' := 109) (ls' := [(6, .inl y0), (5, .inl x5)]) (st' := [.inl 0]) rfl ?_
      have h := Option.some.inj h
      subst h
      exact hR _ _ (jat ok_X6_wish 61 (pc := 109) (i := .ireturn) (n := 1) rfl rfl) (Or.inl rfl)
    · have h := (if_neg c).symm.trans h
      refine J_seg ok_X6_wish 54 3 (pc' := 101) (ls' := [(6, .inl y0), (5, .inl x5)]) (st' := [.inl (x5 + y0)]) rfl ?_
      refine J_ge0 (jat ok_X6_wish 57 (pc := 101) (i := .ifCond .ge 7) (n := 3) rfl rfl) (tgt := 108) (by decide) (fun c => ?_) (fun c => ?_)
      · have h := (if_pos c).symm.trans h
        refine J_seg ok_X6_wish 60 1 (pc' := 109) (ls' := [(6, .inl y0), (5, .inl x5)]) (st' := [.inl 0]) rfl ?_
        have h := Option.some.inj h
        subst h
        exact hR _ _ (jat ok_X6_wish 61 (pc := 109) (i := .ireturn) (n := 1) rfl rfl) (Or.inl rfl)
      · have h := (if_neg c).symm.trans h
        refine J_seg ok_X6_wish 58 2 (pc' := 109) (ls' := [(6, .inl y0), (5, .inl x5)]) (st' := [.inl 1]) rfl ?_
        have h := Option.some.inj h
        subst h
        exact hR _ _ (jat ok_X6_wish 61 (pc := 109) (i := .ireturn) (n := 1) rfl rfl) (Or.inr rfl)
def f_X6_wish_j56 (x0 : Option Nat) (x1 : Int32) (x2 : Int32) (x4 : Int32) (y0 : Int32) (ah : AH) : Option (Int32 × AH) :=
  if x4 = (-9) then (f_X6_wish_j84 y0 0 ah) else (if qO ah x0 6 = true then ((f_X6_strengthOf x0 x1 x4 ah).bind fun q19 => if qO q19.2 x0 6 = true then ((f_X6_strengthOf x0 x2 x4 q19.2).bind fun q22 => f_X6_wish_j84 y0 (q19.1 - q22.1) q22.2) else none) else none)
set_option maxRecDepth 100000 in
set_option maxHeartbeats 4000000 in
theorem k_X6_wish_j56 {l : Launch} {g : GX} (d : Nat) {Q : jQ} {x0 : Option Nat} {x1 : Int32} {x2 : Int32} {x4 : Int32} {y0 : Int32} (ah : AH) (out : Int32 × AH) (h : f_X6_wish_j56 x0 x1 x2 x4 y0 ah = some out) (hR : jRetZ l g md_X6_wish (jRm (d + 2) md_X6_wish) Q (0, 0) out.1 out.2) : J l g md_X6_wish (jRm (d + 2) md_X6_wish) Q 56 [(0, .inr (.inr (.inl x0))), (1, .inl x1), (2, .inl x2), (4, .inl x4)] [.inl y0] ah (0, 0) := by
  unfold f_X6_wish_j56 at h
  refine J_seg ok_X6_wish 34 3 (pc' := 62) (ls' := [(5, .inl y0), (0, .inr (.inr (.inl x0))), (1, .inl x1), (2, .inl x2), (4, .inl x4)]) (st' := [.inl (-9), .inl x4]) rfl ?_
  refine J_ne (jat ok_X6_wish 37 (pc := 62) (i := .if_icmp .ne 7) (n := 3) rfl rfl) (tgt := 69) (by decide) (fun c => ?_) (fun c => ?_)
  · have h := (if_neg c).symm.trans h
    refine J_seg ok_X6_wish 40 3 (pc' := 73) (ls' := [(5, .inl y0), (0, .inr (.inr (.inl x0))), (1, .inl x1), (2, .inl x2), (4, .inl x4)]) (st' := [.inl x4, .inl x1, .inr (.inr (.inl x0))]) rfl ?_
    by_cases c21 : qO ah x0 6 = true
    case neg => exact absurd ((if_neg c21).symm.trans h) (by simp)
    have h := (if_pos c21).symm.trans h
    obtain ⟨q19, h20, h⟩ := Option.bind_eq_some_iff.mp h
    refine J_callV (md' := md_X6_strengthOf) (As := [.inl x1, .inl x4]) (st := []) (cs' := (0, 0)) (st' := [.inl q19.1]) (jat ok_X6_wish 43 (pc := 73) (i := .invokevirtual 166) (n := 3) rfl rfl) ml_RX6_166 yv_X6_strengthOf c21 (c_X6_strengthOf l g (d + 0) h20) (jRo_of (by decide)) (Nat.le_of_ble_eq_true rfl) ⟨Nat.le_of_ble_eq_true rfl, Nat.le_of_ble_eq_true rfl⟩ rfl rfl rfl ?_
    refine J_seg ok_X6_wish 44 3 (pc' := 80) (ls' := [(5, .inl y0), (0, .inr (.inr (.inl x0))), (1, .inl x1), (2, .inl x2), (4, .inl x4)]) (st' := [.inl x4, .inl x2, .inr (.inr (.inl x0)), .inl q19.1]) rfl ?_
    by_cases c24 : qO q19.2 x0 6 = true
    case neg => exact absurd ((if_neg c24).symm.trans h) (by simp)
    have h := (if_pos c24).symm.trans h
    obtain ⟨q22, h23, h⟩ := Option.bind_eq_some_iff.mp h
    refine J_callV (md' := md_X6_strengthOf) (As := [.inl x2, .inl x4]) (st := [.inl q19.1]) (cs' := (0, 0)) (st' := [.inl q22.1, .inl q19.1]) (jat ok_X6_wish 47 (pc := 80) (i := .invokevirtual 166) (n := 3) rfl rfl) ml_RX6_166 yv_X6_strengthOf c24 (c_X6_strengthOf l g (d + 0) h23) (jRo_of (by decide)) (Nat.le_of_ble_eq_true rfl) ⟨Nat.le_of_ble_eq_true rfl, Nat.le_of_ble_eq_true rfl⟩ rfl rfl rfl ?_
    refine J_seg ok_X6_wish 48 1 (pc' := 84) (ls' := [(5, .inl y0), (0, .inr (.inr (.inl x0))), (1, .inl x1), (2, .inl x2), (4, .inl x4)]) (st' := [.inl (q19.1 - q22.1)]) rfl ?_
    refine J_sub (ls' := [(5, .inl y0)]) [0] rfl ?_
    exact k_X6_wish_j84 d _ _ h hR
  · have h := (if_pos c).symm.trans h
    refine J_seg ok_X6_wish 38 2 (pc' := 84) (ls' := [(5, .inl y0), (0, .inr (.inr (.inl x0))), (1, .inl x1), (2, .inl x2), (4, .inl x4)]) (st' := [.inl 0]) rfl ?_
    refine J_sub (ls' := [(5, .inl y0)]) [0] rfl ?_
    exact k_X6_wish_j84 d _ _ h hR
def f_X6_wish (x0 : Option Nat) (x1 : Int32) (x2 : Int32) (ah : AH) : Option (Int32 × AH) :=
  if qO ah x0 6 = true then ((f_X6_victim x0 x1 ah).bind fun q1 => if q1.1 = x2 then (some (0, q1.2)) else (if qO q1.2 x0 6 = true then ((f_X6_victim x0 x2 q1.2).bind fun q4 => if q4.1 = x1 then (some (0, q4.2)) else (if qO q4.2 x0 6 = true then ((f_X6_victim x0 x1 q4.2).bind fun q7 => if qO q7.2 x0 6 = true then ((f_X6_victim x0 x2 q7.2).bind fun q10 => if q7.1 = (-9) then (f_X6_wish_j56 x0 x1 x2 q10.1 0 q10.2) else (if qO q10.2 x0 6 = true then ((f_X6_strengthOf x0 x2 q7.1 q10.2).bind fun q13 => if qO q13.2 x0 6 = true then ((f_X6_strengthOf x0 x1 q7.1 q13.2).bind fun q16 => f_X6_wish_j56 x0 x1 x2 q10.1 (q13.1 - q16.1) q16.2) else none) else none)) else none) else none)) else none)) else none
set_option maxRecDepth 100000 in
set_option maxHeartbeats 4000000 in
theorem k_X6_wish {l : Launch} {g : GX} (d : Nat) {Q : jQ} {x0 : Option Nat} {x1 : Int32} {x2 : Int32} (ah : AH) (out : Int32 × AH) (h : f_X6_wish x0 x1 x2 ah = some out) (hR : jRetZ l g md_X6_wish (jRm (d + 2) md_X6_wish) Q (0, 0) out.1 out.2) : J l g md_X6_wish (jRm (d + 2) md_X6_wish) Q 0 [(0, .inr (.inr (.inl x0))), (1, .inl x1), (2, .inl x2)] [] ah (0, 0) := by
  unfold f_X6_wish at h
  refine J_seg ok_X6_wish 0 2 (pc' := 2) (ls' := [(0, .inr (.inr (.inl x0))), (1, .inl x1), (2, .inl x2)]) (st' := [.inl x1, .inr (.inr (.inl x0))]) rfl ?_
  by_cases c3 : qO ah x0 6 = true
  case neg => exact absurd ((if_neg c3).symm.trans h) (by simp)
  have h := (if_pos c3).symm.trans h
  obtain ⟨q1, h2, h⟩ := Option.bind_eq_some_iff.mp h
  refine J_callV (md' := md_X6_victim) (As := [.inl x1]) (st := []) (cs' := (0, 0)) (st' := [.inl q1.1]) (jat ok_X6_wish 2 (pc := 2) (i := .invokevirtual 157) (n := 3) rfl rfl) ml_RX6_157 yv_X6_victim c3 (c_X6_victim l g (d + 1) h2) (jRo_of (by decide)) (Nat.le_of_ble_eq_true rfl) ⟨Nat.le_of_ble_eq_true rfl, Nat.le_of_ble_eq_true rfl⟩ rfl rfl rfl ?_
  refine J_seg ok_X6_wish 3 1 (pc' := 6) (ls' := [(0, .inr (.inr (.inl x0))), (1, .inl x1), (2, .inl x2)]) (st' := [.inl x2, .inl q1.1]) rfl ?_
  refine J_eq (jat ok_X6_wish 4 (pc := 6) (i := .if_icmp .eq 12) (n := 3) rfl rfl) (tgt := 18) (by decide) (fun c => ?_) (fun c => ?_)
  · have h := (if_pos c).symm.trans h
    refine J_seg ok_X6_wish 10 1 (pc' := 19) (ls' := [(0, .inr (.inr (.inl x0))), (1, .inl x1), (2, .inl x2)]) (st' := [.inl 0]) rfl ?_
    have h := Option.some.inj h
    subst h
    exact hR _ _ (jat ok_X6_wish 11 (pc := 19) (i := .ireturn) (n := 1) rfl rfl) (Or.inl rfl)
  · have h := (if_neg c).symm.trans h
    refine J_seg ok_X6_wish 5 2 (pc' := 11) (ls' := [(0, .inr (.inr (.inl x0))), (1, .inl x1), (2, .inl x2)]) (st' := [.inl x2, .inr (.inr (.inl x0))]) rfl ?_
    by_cases c6 : qO q1.2 x0 6 = true
    case neg => exact absurd ((if_neg c6).symm.trans h) (by simp)
    have h := (if_pos c6).symm.trans h
    obtain ⟨q4, h5, h⟩ := Option.bind_eq_some_iff.mp h
    refine J_callV (md' := md_X6_victim) (As := [.inl x2]) (st := []) (cs' := (0, 0)) (st' := [.inl q4.1]) (jat ok_X6_wish 7 (pc := 11) (i := .invokevirtual 157) (n := 3) rfl rfl) ml_RX6_157 yv_X6_victim c6 (c_X6_victim l g (d + 1) h5) (jRo_of (by decide)) (Nat.le_of_ble_eq_true rfl) ⟨Nat.le_of_ble_eq_true rfl, Nat.le_of_ble_eq_true rfl⟩ rfl rfl rfl ?_
    refine J_seg ok_X6_wish 8 1 (pc' := 15) (ls' := [(0, .inr (.inr (.inl x0))), (1, .inl x1), (2, .inl x2)]) (st' := [.inl x1, .inl q4.1]) rfl ?_
    refine J_ne (jat ok_X6_wish 9 (pc := 15) (i := .if_icmp .ne 5) (n := 3) rfl rfl) (tgt := 20) (by decide) (fun c => ?_) (fun c => ?_)
    · have h := (if_neg c).symm.trans h
      refine J_seg ok_X6_wish 12 2 (pc' := 22) (ls' := [(0, .inr (.inr (.inl x0))), (1, .inl x1), (2, .inl x2)]) (st' := [.inl x1, .inr (.inr (.inl x0))]) rfl ?_
      by_cases c9 : qO q4.2 x0 6 = true
      case neg => exact absurd ((if_neg c9).symm.trans h) (by simp)
      have h := (if_pos c9).symm.trans h
      obtain ⟨q7, h8, h⟩ := Option.bind_eq_some_iff.mp h
      refine J_callV (md' := md_X6_victim) (As := [.inl x1]) (st := []) (cs' := (0, 0)) (st' := [.inl q7.1]) (jat ok_X6_wish 14 (pc := 22) (i := .invokevirtual 157) (n := 3) rfl rfl) ml_RX6_157 yv_X6_victim c9 (c_X6_victim l g (d + 1) h8) (jRo_of (by decide)) (Nat.le_of_ble_eq_true rfl) ⟨Nat.le_of_ble_eq_true rfl, Nat.le_of_ble_eq_true rfl⟩ rfl rfl rfl ?_
      refine J_seg ok_X6_wish 15 3 (pc' := 28) (ls' := [(3, .inl q7.1), (0, .inr (.inr (.inl x0))), (1, .inl x1), (2, .inl x2)]) (st' := [.inl x2, .inr (.inr (.inl x0))]) rfl ?_
      by_cases c12 : qO q7.2 x0 6 = true
      case neg => exact absurd ((if_neg c12).symm.trans h) (by simp)
      have h := (if_pos c12).symm.trans h
      obtain ⟨q10, h11, h⟩ := Option.bind_eq_some_iff.mp h
      refine J_callV (md' := md_X6_victim) (As := [.inl x2]) (st := []) (cs' := (0, 0)) (st' := [.inl q10.1]) (jat ok_X6_wish 18 (pc := 28) (i := .invokevirtual 157) (n := 3) rfl rfl) ml_RX6_157 yv_X6_victim c12 (c_X6_victim l g (d + 1) h11) (jRo_of (by decide)) (Nat.le_of_ble_eq_true rfl) ⟨Nat.le_of_ble_eq_true rfl, Nat.le_of_ble_eq_true rfl⟩ rfl rfl rfl ?_
      refine J_seg ok_X6_wish 19 3 (pc' := 36) (ls' := [(4, .inl q10.1), (3, .inl q7.1), (0, .inr (.inr (.inl x0))), (1, .inl x1), (2, .inl x2)]) (st' := [.inl (-9), .inl q7.1]) rfl ?_
      refine J_ne (jat ok_X6_wish 22 (pc := 36) (i := .if_icmp .ne 7) (n := 3) rfl rfl) (tgt := 43) (by decide) (fun c => ?_) (fun c => ?_)
      · have h := (if_neg c).symm.trans h
        refine J_seg ok_X6_wish 25 3 (pc' := 46) (ls' := [(4, .inl q10.1), (3, .inl q7.1), (0, .inr (.inr (.inl x0))), (1, .inl x1), (2, .inl x2)]) (st' := [.inl q7.1, .inl x2, .inr (.inr (.inl x0))]) rfl ?_
        by_cases c15 : qO q10.2 x0 6 = true
        case neg => exact absurd ((if_neg c15).symm.trans h) (by simp)
        have h := (if_pos c15).symm.trans h
        obtain ⟨q13, h14, h⟩ := Option.bind_eq_some_iff.mp h
        refine J_callV (md' := md_X6_strengthOf) (As := [.inl x2, .inl q7.1]) (st := []) (cs' := (0, 0)) (st' := [.inl q13.1]) (jat ok_X6_wish 28 (pc := 46) (i := .invokevirtual 166) (n := 3) rfl rfl) ml_RX6_166 yv_X6_strengthOf c15 (c_X6_strengthOf l g (d + 0) h14) (jRo_of (by decide)) (Nat.le_of_ble_eq_true rfl) ⟨Nat.le_of_ble_eq_true rfl, Nat.le_of_ble_eq_true rfl⟩ rfl rfl rfl ?_
        refine J_seg ok_X6_wish 29 3 (pc' := 52) (ls' := [(4, .inl q10.1), (3, .inl q7.1), (0, .inr (.inr (.inl x0))), (1, .inl x1), (2, .inl x2)]) (st' := [.inl q7.1, .inl x1, .inr (.inr (.inl x0)), .inl q13.1]) rfl ?_
        by_cases c18 : qO q13.2 x0 6 = true
        case neg => exact absurd ((if_neg c18).symm.trans h) (by simp)
        have h := (if_pos c18).symm.trans h
        obtain ⟨q16, h17, h⟩ := Option.bind_eq_some_iff.mp h
        refine J_callV (md' := md_X6_strengthOf) (As := [.inl x1, .inl q7.1]) (st := [.inl q13.1]) (cs' := (0, 0)) (st' := [.inl q16.1, .inl q13.1]) (jat ok_X6_wish 32 (pc := 52) (i := .invokevirtual 166) (n := 3) rfl rfl) ml_RX6_166 yv_X6_strengthOf c18 (c_X6_strengthOf l g (d + 0) h17) (jRo_of (by decide)) (Nat.le_of_ble_eq_true rfl) ⟨Nat.le_of_ble_eq_true rfl, Nat.le_of_ble_eq_true rfl⟩ rfl rfl rfl ?_
        refine J_seg ok_X6_wish 33 1 (pc' := 56) (ls' := [(4, .inl q10.1), (3, .inl q7.1), (0, .inr (.inr (.inl x0))), (1, .inl x1), (2, .inl x2)]) (st' := [.inl (q13.1 - q16.1)]) rfl ?_
        refine J_sub (ls' := [(0, .inr (.inr (.inl x0))), (1, .inl x1), (2, .inl x2), (4, .inl q10.1)]) [2, 3, 4, 0] rfl ?_
        exact k_X6_wish_j56 d _ _ h hR
      · have h := (if_pos c).symm.trans h
        refine J_seg ok_X6_wish 23 2 (pc' := 56) (ls' := [(4, .inl q10.1), (3, .inl q7.1), (0, .inr (.inr (.inl x0))), (1, .inl x1), (2, .inl x2)]) (st' := [.inl 0]) rfl ?_
        refine J_sub (ls' := [(0, .inr (.inr (.inl x0))), (1, .inl x1), (2, .inl x2), (4, .inl q10.1)]) [2, 3, 4, 0] rfl ?_
        exact k_X6_wish_j56 d _ _ h hR
    · have h := (if_pos c).symm.trans h
      refine J_seg ok_X6_wish 10 1 (pc' := 19) (ls' := [(0, .inr (.inr (.inl x0))), (1, .inl x1), (2, .inl x2)]) (st' := [.inl 0]) rfl ?_
      have h := Option.some.inj h
      subst h
      exact hR _ _ (jat ok_X6_wish 11 (pc := 19) (i := .ireturn) (n := 1) rfl rfl) (Or.inl rfl)
theorem c_X6_wish (l : Launch) (g : GX) (d : Nat) {x0 : Option Nat} {x1 : Int32} {x2 : Int32} {ah : AH} {q : Int32 × AH} (h : f_X6_wish x0 x1 x2 ah = some q) : jM l g (d + 2) md_X6_wish [.inr (.inr (.inl x0)), .inl x1, .inl x2] ah (some (.inl q.1)) q.2 :=
  jM_of (by decide) (Nat.le_of_ble_eq_true rfl) (k_X6_wish d ah q h (fun pc ls hd c => J_reti hd rfl (jPV_z c) rfl (Nat.le_refl _) rfl rfl))
def f_X6_wishes_b32_j71 (k0 : Option Nat) (k2 : Int32) (x1 : Int32) (x3 : Int32) (x4 : Int32) (y0 : Int32) (y1 : Option Nat) (ah : AH) : Option ((Unit × AH) ⊕ (((Int32) × AH) ⊕ ((Int32 × Int32) × AH))) :=
  (sF ah y1 6 11 (.inl y0)).bind fun a14 => if x4 = 0 then (some (.inr (.inr ((x1 + 0, x3 + 1), a14)))) else (some (.inr (.inr ((x1 + 1, x3 + 1), a14))))
set_option maxRecDepth 100000 in
set_option maxHeartbeats 4000000 in
theorem k_X6_wishes_b32_j71 {l : Launch} {g : GX} (d : Nat) {Q : jQ} {k0 : Option Nat} {k2 : Int32} {x1 : Int32} {x3 : Int32} {x4 : Int32} {y0 : Int32} {y1 : Option Nat} (ah : AH) (out : (Unit × AH) ⊕ (((Int32) × AH) ⊕ ((Int32 × Int32) × AH))) (h : f_X6_wishes_b32_j71 k0 k2 x1 x3 x4 y0 y1 ah = some out) (hR : ∀ q, out = .inl q → jRetN q.1 q.2) (hX : ∀ q, out = .inr (.inl q) → J l g md_X6_wishes (jRm (d + 3) md_X6_wishes) Q 93 [(0, .inr (.inr (.inl k0))), (1, .inl q.1), (2, .inl k2)] [] q.2 (0, 0)) (hN : ∀ q, out = .inr (.inr q) → J l g md_X6_wishes (jRm (d + 3) md_X6_wishes) Q 32 [(0, .inr (.inr (.inl k0))), (1, .inl q.1.1), (2, .inl k2), (3, .inl q.1.2)] [] q.2 (0, 0)) : J l g md_X6_wishes (jRm (d + 3) md_X6_wishes) Q 71 [(0, .inr (.inr (.inl k0))), (1, .inl x1), (2, .inl k2), (3, .inl x3), (4, .inl x4)] [.inl y0, .inr (.inr (.inl y1))] ah (0, 0) := by
  unfold f_X6_wishes_b32_j71 at h
  obtain ⟨a14, h15, h⟩ := Option.bind_eq_some_iff.mp h
  refine J_put (jat ok_X6_wishes 42 (pc := 71) (i := .putfield 66) (n := 3) rfl rfl) (fp_RX6_66 _) (jPV_int _) h15 ?_
  refine J_seg ok_X6_wishes 43 2 (pc' := 77) (ls' := [(0, .inr (.inr (.inl k0))), (1, .inl x1), (2, .inl k2), (3, .inl x3), (4, .inl x4)]) (st' := [.inl x4, .inl x1]) rfl ?_
  refine J_eq0 (jat ok_X6_wishes 45 (pc := 77) (i := .ifCond .eq 7) (n := 3) rfl rfl) (tgt := 84) (by decide) (fun c => ?_) (fun c => ?_)
  · have h := (if_pos c).symm.trans h
    refine J_seg ok_X6_wishes 48 5 (pc' := 32) (ls' := [(3, .inl (x3 + 1)), (1, .inl (x1 + 0)), (0, .inr (.inr (.inl k0))), (2, .inl k2), (4, .inl x4)]) (st' := []) rfl ?_
    exact J_sub (ls' := [(0, .inr (.inr (.inl k0))), (1, .inl (x1 + 0)), (2, .inl k2), (3, .inl (x3 + 1))]) [2, 1, 3, 0] rfl (hN ((x1 + 0, x3 + 1), a14) (Option.some.inj h).symm)
  · have h := (if_neg c).symm.trans h
    refine J_seg ok_X6_wishes 46 2 (pc' := 85) (ls' := [(0, .inr (.inr (.inl k0))), (1, .inl x1), (2, .inl k2), (3, .inl x3), (4, .inl x4)]) (st' := [.inl 1, .inl x1]) rfl ?_
    refine J_seg ok_X6_wishes 49 4 (pc' := 32) (ls' := [(3, .inl (x3 + 1)), (1, .inl (x1 + 1)), (0, .inr (.inr (.inl k0))), (2, .inl k2), (4, .inl x4)]) (st' := []) rfl ?_
    exact J_sub (ls' := [(0, .inr (.inr (.inl k0))), (1, .inl (x1 + 1)), (2, .inl k2), (3, .inl (x3 + 1))]) [2, 1, 3, 0] rfl (hN ((x1 + 1, x3 + 1), a14) (Option.some.inj h).symm)
def f_X6_wishes_b32_j67 (k0 : Option Nat) (k2 : Int32) (x1 : Int32) (x3 : Int32) (x4 : Int32) (y0 : Option Nat) (ah : AH) : Option ((Unit × AH) ⊕ (((Int32) × AH) ⊕ ((Int32 × Int32) × AH))) :=
  (gI ah k0 6 11).bind fun v12 => f_X6_wishes_b32_j71 k0 k2 x1 x3 x4 v12 y0 ah
set_option maxRecDepth 100000 in
set_option maxHeartbeats 4000000 in
theorem k_X6_wishes_b32_j67 {l : Launch} {g : GX} (d : Nat) {Q : jQ} {k0 : Option Nat} {k2 : Int32} {x1 : Int32} {x3 : Int32} {x4 : Int32} {y0 : Option Nat} (ah : AH) (out : (Unit × AH) ⊕ (((Int32) × AH) ⊕ ((Int32 × Int32) × AH))) (h : f_X6_wishes_b32_j67 k0 k2 x1 x3 x4 y0 ah = some out) (hR : ∀ q, out = .inl q → jRetN q.1 q.2) (hX : ∀ q, out = .inr (.inl q) → J l g md_X6_wishes (jRm (d + 3) md_X6_wishes) Q 93 [(0, .inr (.inr (.inl k0))), (1, .inl q.1), (2, .inl k2)] [] q.2 (0, 0)) (hN : ∀ q, out = .inr (.inr q) → J l g md_X6_wishes (jRm (d + 3) md_X6_wishes) Q 32 [(0, .inr (.inr (.inl k0))), (1, .inl q.1.1), (2, .inl k2), (3, .inl q.1.2)] [] q.2 (0, 0)) : J l g md_X6_wishes (jRm (d + 3) md_X6_wishes) Q 67 [(0, .inr (.inr (.inl k0))), (1, .inl x1), (2, .inl k2), (3, .inl x3), (4, .inl x4)] [.inr (.inr (.inl y0))] ah (0, 0) := by
  unfold f_X6_wishes_b32_j67 at h
  refine J_seg ok_X6_wishes 40 1 (pc' := 68) (ls' := [(0, .inr (.inr (.inl k0))), (1, .inl x1), (2, .inl k2), (3, .inl x3), (4, .inl x4)]) (st' := [.inr (.inr (.inl k0)), .inr (.inr (.inl y0))]) rfl ?_
  obtain ⟨v12, h13, h⟩ := Option.bind_eq_some_iff.mp h
  refine J_getI (jat ok_X6_wishes 41 (pc := 68) (i := .getfield 66) (n := 3) rfl rfl) fl_RX6_66 h13 ?_
  refine J_sub (ls' := [(0, .inr (.inr (.inl k0))), (1, .inl x1), (2, .inl k2), (3, .inl x3), (4, .inl x4)]) [0, 1, 2, 3, 4] rfl ?_
  exact k_X6_wishes_b32_j71 d _ _ h hR hX hN
def f_X6_wishes_b32 (k0 : Option Nat) (k2 : Int32) (s32 : Int32 × Int32) (ah : AH) : Option ((Unit × AH) ⊕ (((Int32) × AH) ⊕ ((Int32 × Int32) × AH))) :=
  (gI ah k0 6 1).bind fun v7 => if v7 ≤ s32.2 then (some (.inr (.inl (s32.1, ah)))) else (if qO ah k0 6 = true then ((f_X6_wish k0 k2 s32.2 ah).bind fun q9 => if q9.1 = 0 then (f_X6_wishes_b32_j67 k0 k2 s32.1 s32.2 q9.1 k0 q9.2) else (if s32.1 = 0 then (f_X6_wishes_b32_j71 k0 k2 s32.1 s32.2 q9.1 ((6 * k2) + s32.2) k0 q9.2) else (f_X6_wishes_b32_j67 k0 k2 s32.1 s32.2 q9.1 k0 q9.2))) else none)
set_option maxRecDepth 100000 in
set_option maxHeartbeats 4000000 in
theorem k_X6_wishes_b32 {l : Launch} {g : GX} (d : Nat) {Q : jQ} {k0 : Option Nat} {k2 : Int32} (s32 : Int32 × Int32) (ah : AH) (out : (Unit × AH) ⊕ (((Int32) × AH) ⊕ ((Int32 × Int32) × AH))) (h : f_X6_wishes_b32 k0 k2 s32 ah = some out) (hR : ∀ q, out = .inl q → jRetN q.1 q.2) (hX : ∀ q, out = .inr (.inl q) → J l g md_X6_wishes (jRm (d + 3) md_X6_wishes) Q 93 [(0, .inr (.inr (.inl k0))), (1, .inl q.1), (2, .inl k2)] [] q.2 (0, 0)) (hN : ∀ q, out = .inr (.inr q) → J l g md_X6_wishes (jRm (d + 3) md_X6_wishes) Q 32 [(0, .inr (.inr (.inl k0))), (1, .inl q.1.1), (2, .inl k2), (3, .inl q.1.2)] [] q.2 (0, 0)) : J l g md_X6_wishes (jRm (d + 3) md_X6_wishes) Q 32 [(0, .inr (.inr (.inl k0))), (1, .inl s32.1), (2, .inl k2), (3, .inl s32.2)] [] ah (0, 0) := by
  unfold f_X6_wishes_b32 at h
  refine J_seg ok_X6_wishes 20 2 (pc' := 34) (ls' := [(0, .inr (.inr (.inl k0))), (1, .inl s32.1), (2, .inl k2), (3, .inl s32.2)]) (st' := [.inr (.inr (.inl k0)), .inl s32.2]) rfl ?_
  obtain ⟨v7, h8, h⟩ := Option.bind_eq_some_iff.mp h
  refine J_getI (jat ok_X6_wishes 22 (pc := 34) (i := .getfield 148) (n := 3) rfl rfl) fl_RX6_148 h8 ?_
  refine J_ge (jat ok_X6_wishes 23 (pc := 37) (i := .if_icmp .ge 56) (n := 3) rfl rfl) (tgt := 93) (by decide) (fun c => ?_) (fun c => ?_)
  · have h := (if_pos c).symm.trans h
    exact J_sub (ls' := [(0, .inr (.inr (.inl k0))), (1, .inl s32.1), (2, .inl k2)]) [0, 1, 2] rfl (hX (s32.1, ah) (Option.some.inj h).symm)
  · have h := (if_neg c).symm.trans h
    refine J_seg ok_X6_wishes 24 3 (pc' := 43) (ls' := [(0, .inr (.inr (.inl k0))), (1, .inl s32.1), (2, .inl k2), (3, .inl s32.2)]) (st' := [.inl s32.2, .inl k2, .inr (.inr (.inl k0))]) rfl ?_
    by_cases c11 : qO ah k0 6 = true
    case neg => exact absurd ((if_neg c11).symm.trans h) (by simp)
    have h := (if_pos c11).symm.trans h
    obtain ⟨q9, h10, h⟩ := Option.bind_eq_some_iff.mp h
    refine J_callV (md' := md_X6_wish) (As := [.inl k2, .inl s32.2]) (st := []) (cs' := (0, 0)) (st' := [.inl q9.1]) (jat ok_X6_wishes 27 (pc := 43) (i := .invokevirtual 229) (n := 3) rfl rfl) ml_RX6_229 yv_X6_wish c11 (c_X6_wish l g (d + 0) h10) (jRo_of (by decide)) (Nat.le_of_ble_eq_true rfl) ⟨Nat.le_of_ble_eq_true rfl, Nat.le_of_ble_eq_true rfl⟩ rfl rfl rfl ?_
    refine J_seg ok_X6_wishes 28 3 (pc' := 51) (ls' := [(4, .inl q9.1), (0, .inr (.inr (.inl k0))), (1, .inl s32.1), (2, .inl k2), (3, .inl s32.2)]) (st' := [.inl q9.1, .inr (.inr (.inl k0))]) rfl ?_
    refine J_eq0 (jat ok_X6_wishes 31 (pc := 51) (i := .ifCond .eq 16) (n := 3) rfl rfl) (tgt := 67) (by decide) (fun c => ?_) (fun c => ?_)
    · have h := (if_pos c).symm.trans h
      refine J_sub (ls' := [(0, .inr (.inr (.inl k0))), (1, .inl s32.1), (2, .inl k2), (3, .inl s32.2), (4, .inl q9.1)]) [1, 2, 3, 4, 0] rfl ?_
      exact k_X6_wishes_b32_j67 d _ _ h hR hX hN
    · have h := (if_neg c).symm.trans h
      refine J_seg ok_X6_wishes 32 1 (pc' := 55) (ls' := [(4, .inl q9.1), (0, .inr (.inr (.inl k0))), (1, .inl s32.1), (2, .inl k2), (3, .inl s32.2)]) (st' := [.inl s32.1, .inr (.inr (.inl k0))]) rfl ?_
      refine J_ne0 (jat ok_X6_wishes 33 (pc := 55) (i := .ifCond .ne 12) (n := 3) rfl rfl) (tgt := 67) (by decide) (fun c => ?_) (fun c => ?_)
      · have h := (if_neg c).symm.trans h
        refine J_sub (ls' := [(0, .inr (.inr (.inl k0))), (1, .inl s32.1), (2, .inl k2), (3, .inl s32.2), (4, .inl q9.1)]) [1, 2, 3, 4, 0] rfl ?_
        exact k_X6_wishes_b32_j67 d _ _ h hR hX hN
      · have h := (if_pos c).symm.trans h
        refine J_seg ok_X6_wishes 34 6 (pc' := 71) (ls' := [(4, .inl q9.1), (0, .inr (.inr (.inl k0))), (1, .inl s32.1), (2, .inl k2), (3, .inl s32.2)]) (st' := [.inl ((6 * k2) + s32.2), .inr (.inr (.inl k0))]) rfl ?_
        refine J_sub (ls' := [(0, .inr (.inr (.inl k0))), (1, .inl s32.1), (2, .inl k2), (3, .inl s32.2), (4, .inl q9.1)]) [1, 2, 3, 4, 0] rfl ?_
        exact k_X6_wishes_b32_j71 d _ _ h hR hX hN
def f_X6_wishes_b20 (k0 : Option Nat) (s20 : Int32 × Int32) (ah : AH) : Option ((Unit × AH) ⊕ (((Int32) × AH) ⊕ ((Int32 × Int32) × AH))) :=
  (gI ah k0 6 1).bind fun v5 => if v5 ≤ s20.2 then (some (.inr (.inl (s20.1, ah)))) else ((jloop (f_X6_wishes_b32 k0 s20.2) jfuel (s20.1, s20.2 + 1) ah).bind fun q16 => match q16 with | .inl r => none | .inr z18 => some (.inr (.inr ((z18.1, s20.2 + 1), z18.2))))
set_option maxRecDepth 100000 in
set_option maxHeartbeats 4000000 in
theorem k_X6_wishes_b20 {l : Launch} {g : GX} (d : Nat) {Q : jQ} {k0 : Option Nat} (s20 : Int32 × Int32) (ah : AH) (out : (Unit × AH) ⊕ (((Int32) × AH) ⊕ ((Int32 × Int32) × AH))) (h : f_X6_wishes_b20 k0 s20 ah = some out) (hR : ∀ q, out = .inl q → jRetN q.1 q.2) (hX : ∀ q, out = .inr (.inl q) → J l g md_X6_wishes (jRm (d + 3) md_X6_wishes) Q 99 [(1, .inl q.1)] [] q.2 (0, 0)) (hN : ∀ q, out = .inr (.inr q) → J l g md_X6_wishes (jRm (d + 3) md_X6_wishes) Q 20 [(0, .inr (.inr (.inl k0))), (1, .inl q.1.1), (2, .inl q.1.2)] [] q.2 (0, 0)) : J l g md_X6_wishes (jRm (d + 3) md_X6_wishes) Q 20 [(0, .inr (.inr (.inl k0))), (1, .inl s20.1), (2, .inl s20.2)] [] ah (0, 0) := by
  unfold f_X6_wishes_b20 at h
  refine J_seg ok_X6_wishes 12 2 (pc' := 22) (ls' := [(0, .inr (.inr (.inl k0))), (1, .inl s20.1), (2, .inl s20.2)]) (st' := [.inr (.inr (.inl k0)), .inl s20.2]) rfl ?_
  obtain ⟨v5, h6, h⟩ := Option.bind_eq_some_iff.mp h
  refine J_getI (jat ok_X6_wishes 14 (pc := 22) (i := .getfield 148) (n := 3) rfl rfl) fl_RX6_148 h6 ?_
  refine J_ge (jat ok_X6_wishes 15 (pc := 25) (i := .if_icmp .ge 74) (n := 3) rfl rfl) (tgt := 99) (by decide) (fun c => ?_) (fun c => ?_)
  · have h := (if_pos c).symm.trans h
    exact J_sub (ls' := [(1, .inl s20.1)]) [1] rfl (hX (s20.1, ah) (Option.some.inj h).symm)
  · have h := (if_neg c).symm.trans h
    refine J_seg ok_X6_wishes 16 4 (pc' := 32) (ls' := [(3, .inl (s20.2 + 1)), (0, .inr (.inr (.inl k0))), (1, .inl s20.1), (2, .inl s20.2)]) (st' := []) rfl ?_
    obtain ⟨q16, h17, h⟩ := Option.bind_eq_some_iff.mp h
    refine J_sub (ls' := [(0, .inr (.inr (.inl k0))), (1, .inl s20.1), (2, .inl s20.2), (3, .inl (s20.2 + 1))]) [1, 2, 3, 0] rfl ?_
    refine J_loop (pE := 93) (lh := fun t19 => [(0, .inr (.inr (.inl k0))), (1, .inl t19.1), (2, .inl s20.2), (3, .inl t19.2)]) (lx := fun z18 => [(0, .inr (.inr (.inl k0))), (1, .inl z18), (2, .inl s20.2)]) (P := jRetN) (fun s ah out hb hR hX hN => k_X6_wishes_b32 d s ah out hb hR hX hN) jfuel (s20.1, s20.2 + 1) _ _ h17 (fun r e => ?_) (fun z18 e => ?_)
    · subst e
      dsimp only at h
      cases h
    · subst e
      dsimp only at h
      refine J_seg ok_X6_wishes 53 2 (pc' := 20) (ls' := [(2, .inl (s20.2 + 1)), (0, .inr (.inr (.inl k0))), (1, .inl z18.1)]) (st' := []) rfl ?_
      exact J_sub (ls' := [(0, .inr (.inr (.inl k0))), (1, .inl z18.1), (2, .inl (s20.2 + 1))]) [1, 2, 0] rfl (hN ((z18.1, s20.2 + 1), z18.2) (Option.some.inj h).symm)
def f_X6_wishes (x0 : Option Nat) (ah : AH) : Option (Int32 × AH) :=
  (gI ah x0 6 1).bind fun v1 => if v1 = 0 then (some ((-4), ah)) else ((sF ah x0 6 11 (.inl (-9))).bind fun a3 => (jloop (f_X6_wishes_b20 x0) jfuel (0, 0) a3).bind fun q20 => match q20 with | .inl r => none | .inr z22 => some (z22.1, z22.2))
set_option maxRecDepth 100000 in
set_option maxHeartbeats 4000000 in
theorem k_X6_wishes {l : Launch} {g : GX} (d : Nat) {Q : jQ} {x0 : Option Nat} (ah : AH) (out : Int32 × AH) (h : f_X6_wishes x0 ah = some out) (hR : jRetI l g md_X6_wishes (jRm (d + 3) md_X6_wishes) Q (0, 0) out.1 out.2) : J l g md_X6_wishes (jRm (d + 3) md_X6_wishes) Q 0 [(0, .inr (.inr (.inl x0)))] [] ah (0, 0) := by
  unfold f_X6_wishes at h
  refine J_seg ok_X6_wishes 0 1 (pc' := 1) (ls' := [(0, .inr (.inr (.inl x0)))]) (st' := [.inr (.inr (.inl x0))]) rfl ?_
  obtain ⟨v1, h2, h⟩ := Option.bind_eq_some_iff.mp h
  refine J_getI (jat ok_X6_wishes 1 (pc := 1) (i := .getfield 148) (n := 3) rfl rfl) fl_RX6_148 h2 ?_
  refine J_ne0 (jat ok_X6_wishes 2 (pc := 4) (i := .ifCond .ne 6) (n := 3) rfl rfl) (tgt := 10) (by decide) (fun c => ?_) (fun c => ?_)
  · have h := (if_neg c).symm.trans h
    refine J_seg ok_X6_wishes 5 4 (pc' := 15) (ls' := [(1, .inl 0), (0, .inr (.inr (.inl x0)))]) (st' := [.inl (-9), .inr (.inr (.inl x0))]) rfl ?_
    obtain ⟨a3, h4, h⟩ := Option.bind_eq_some_iff.mp h
    refine J_put (jat ok_X6_wishes 9 (pc := 15) (i := .putfield 66) (n := 3) rfl rfl) (fp_RX6_66 _) (jPV_int _) h4 ?_
    refine J_seg ok_X6_wishes 10 2 (pc' := 20) (ls' := [(2, .inl 0), (1, .inl 0), (0, .inr (.inr (.inl x0)))]) (st' := []) rfl ?_
    obtain ⟨q20, h21, h⟩ := Option.bind_eq_some_iff.mp h
    refine J_sub (ls' := [(0, .inr (.inr (.inl x0))), (1, .inl 0), (2, .inl 0)]) [2, 1, 0] rfl ?_
    refine J_loop (pE := 99) (lh := fun t23 => [(0, .inr (.inr (.inl x0))), (1, .inl t23.1), (2, .inl t23.2)]) (lx := fun z22 => [(1, .inl z22)]) (P := jRetN) (fun s ah out hb hR hX hN => k_X6_wishes_b20 d s ah out hb hR hX hN) jfuel (0, 0) _ _ h21 (fun r e => ?_) (fun z22 e => ?_)
    · subst e
      dsimp only at h
      cases h
    · subst e
      dsimp only at h
      refine J_seg ok_X6_wishes 55 1 (pc' := 100) (ls' := [(1, .inl z22.1)]) (st' := [.inl z22.1]) rfl ?_
      have h := Option.some.inj h
      subst h
      exact hR _ _ (jat ok_X6_wishes 56 (pc := 100) (i := .ireturn) (n := 1) rfl rfl)
  · have h := (if_pos c).symm.trans h
    refine J_seg ok_X6_wishes 3 1 (pc' := 9) (ls' := [(0, .inr (.inr (.inl x0)))]) (st' := [.inl (-4)]) rfl ?_
    have h := Option.some.inj h
    subst h
    exact hR _ _ (jat ok_X6_wishes 4 (pc := 9) (i := .ireturn) (n := 1) rfl rfl)
theorem c_X6_wishes (l : Launch) (g : GX) (d : Nat) {x0 : Option Nat} {ah : AH} {q : Int32 × AH} (h : f_X6_wishes x0 ah = some q) : jM l g (d + 3) md_X6_wishes [.inr (.inr (.inl x0))] ah (some (.inl q.1)) q.2 :=
  jM_of (by decide) (Nat.le_of_ble_eq_true rfl) (k_X6_wishes d ah q h (fun pc ls hd => J_reti hd rfl (jPV_int _) rfl (Nat.le_refl _) rfl rfl))
