def f_X6_of (x0 : Int32) (x1 : Int32) (ah : AH) : Option (Int32 × AH) :=
  some ((x0 >>> ((3 * x1) &&& 31)) &&& 7, ah)
set_option maxRecDepth 100000 in
set_option maxHeartbeats 4000000 in
theorem k_X6_of {l : Launch} {g : GX} (d : Nat) {Q : jQ} {x0 : Int32} {x1 : Int32} (ah : AH) (out : Int32 × AH) (h : f_X6_of x0 x1 ah = some out) (hR : jRetI l g md_X6_of (jRm (d + 0) md_X6_of) Q (0, 0) out.1 out.2) : J l g md_X6_of (jRm (d + 0) md_X6_of) Q 0 [(0, .inl x0), (1, .inl x1)] [] ah (0, 0) := by
  unfold f_X6_of at h
  refine J_seg ok_X6_of 0 7 (pc' := 8) (ls' := [(0, .inl x0), (1, .inl x1)]) (st' := [.inl ((x0 >>> ((3 * x1) &&& 31)) &&& 7)]) rfl ?_
  have h := Option.some.inj h
  subst h
  exact hR _ _ (jat ok_X6_of 7 (pc := 8) (i := .ireturn) (n := 1) rfl rfl)
theorem c_X6_of (l : Launch) (g : GX) (d : Nat) {x0 : Int32} {x1 : Int32} {ah : AH} {q : Int32 × AH} (h : f_X6_of x0 x1 ah = some q) : jM l g (d + 0) md_X6_of [.inl x0, .inl x1] ah (some (.inl q.1)) q.2 :=
  jM_of (by decide) (Nat.le_of_ble_eq_true rfl) (k_X6_of d ah q h (fun pc ls hd => J_reti hd rfl (jPV_int _) rfl (Nat.le_refl _) rfl rfl))
def f_X6_layMaps_b7 (k0 : Option Nat) (k1 : Int32) (s7 : Int32) (ah : AH) : Option ((Unit × AH) ⊕ (((Unit) × AH) ⊕ ((Int32) × AH))) :=
  (gI ah k0 6 1).bind fun v3 => if v3 ≤ s7 then (some (.inr (.inl ((), ah)))) else ((gR ah k0 6 24).bind fun v5 => (sA ah v5 s7 0).bind fun a7 => some (.inr (.inr (s7 + 1, a7))))
set_option maxRecDepth 100000 in
set_option maxHeartbeats 4000000 in
theorem k_X6_layMaps_b7 {l : Launch} {g : GX} (d : Nat) {Q : jQ} {k0 : Option Nat} {k1 : Int32} (s7 : Int32) (ah : AH) (out : (Unit × AH) ⊕ (((Unit) × AH) ⊕ ((Int32) × AH))) (h : f_X6_layMaps_b7 k0 k1 s7 ah = some out) (hR : ∀ q, out = .inl q → jRetN q.1 q.2) (hX : ∀ q, out = .inr (.inl q) → J l g md_X6_layMaps (jRm (d + 2) md_X6_layMaps) Q 28 [(0, .inr (.inr (.inl k0))), (1, .inl k1)] [] q.2 (0, 0)) (hN : ∀ q, out = .inr (.inr q) → J l g md_X6_layMaps (jRm (d + 2) md_X6_layMaps) Q 7 [(0, .inr (.inr (.inl k0))), (1, .inl k1), (2, .inl q.1)] [] q.2 (0, 0)) : J l g md_X6_layMaps (jRm (d + 2) md_X6_layMaps) Q 7 [(0, .inr (.inr (.inl k0))), (1, .inl k1), (2, .inl s7)] [] ah (0, 0) := by
  unfold f_X6_layMaps_b7 at h
  refine J_seg ok_X6_layMaps 5 2 (pc' := 9) (ls' := [(0, .inr (.inr (.inl k0))), (1, .inl k1), (2, .inl s7)]) (st' := [.inr (.inr (.inl k0)), .inl s7]) rfl ?_
  obtain ⟨v3, h4, h⟩ := Option.bind_eq_some_iff.mp h
  refine J_getI (jat ok_X6_layMaps 7 (pc := 9) (i := .getfield 148) (n := 3) rfl rfl) fl_RX6_148 h4 ?_
  refine J_ge (jat ok_X6_layMaps 8 (pc := 12) (i := .if_icmp .ge 16) (n := 3) rfl rfl) (tgt := 28) (by decide) (fun c => ?_) (fun c => ?_)
  · have h := (if_pos c).symm.trans h
    exact J_sub (ls' := [(0, .inr (.inr (.inl k0))), (1, .inl k1)]) [0, 1] rfl (hX ((), ah) (Option.some.inj h).symm)
  · have h := (if_neg c).symm.trans h
    refine J_seg ok_X6_layMaps 9 1 (pc' := 16) (ls' := [(0, .inr (.inr (.inl k0))), (1, .inl k1), (2, .inl s7)]) (st' := [.inr (.inr (.inl k0))]) rfl ?_
    obtain ⟨v5, h6, h⟩ := Option.bind_eq_some_iff.mp h
    refine J_getR (jat ok_X6_layMaps 10 (pc := 16) (i := .getfield 53) (n := 3) rfl rfl) fl_RX6_53 h6 ?_
    refine J_seg ok_X6_layMaps 11 2 (pc' := 21) (ls' := [(0, .inr (.inr (.inl k0))), (1, .inl k1), (2, .inl s7)]) (st' := [.inl 0, .inl s7, .inr (.inr (.inl v5))]) rfl ?_
    obtain ⟨a7, h8, h⟩ := Option.bind_eq_some_iff.mp h
    refine J_iast (jat ok_X6_layMaps 13 (pc := 21) (i := .iastore) (n := 1) rfl rfl) h8 ?_
    refine J_seg ok_X6_layMaps 14 2 (pc' := 7) (ls' := [(2, .inl (s7 + 1)), (0, .inr (.inr (.inl k0))), (1, .inl k1)]) (st' := []) rfl ?_
    exact J_sub (ls' := [(0, .inr (.inr (.inl k0))), (1, .inl k1), (2, .inl (s7 + 1))]) [1, 2, 0] rfl (hN (s7 + 1, a7) (Option.some.inj h).symm)
def f_X6_layMaps_b72_j126 (k0 : Option Nat) (k1 : Int32) (x4 : Int32) (x5 : Int32) (ah : AH) : Option ((Unit × AH) ⊕ (((Int32 × Int32) × AH) ⊕ ((Int32 × Int32 × Int32) × AH))) :=
  some (.inr (.inr ((1, x4, x5 + 1), ah)))
set_option maxRecDepth 100000 in
set_option maxHeartbeats 4000000 in
theorem k_X6_layMaps_b72_j126 {l : Launch} {g : GX} (d : Nat) {Q : jQ} {k0 : Option Nat} {k1 : Int32} {x4 : Int32} {x5 : Int32} (ah : AH) (out : (Unit × AH) ⊕ (((Int32 × Int32) × AH) ⊕ ((Int32 × Int32 × Int32) × AH))) (h : f_X6_layMaps_b72_j126 k0 k1 x4 x5 ah = some out) (hR : ∀ q, out = .inl q → jRetN q.1 q.2) (hX : ∀ q, out = .inr (.inl q) → J l g md_X6_layMaps (jRm (d + 2) md_X6_layMaps) Q 138 [(0, .inr (.inr (.inl k0))), (1, .inl k1), (3, .inl q.1.1), (4, .inl q.1.2)] [] q.2 (0, 0)) (hN : ∀ q, out = .inr (.inr q) → J l g md_X6_layMaps (jRm (d + 2) md_X6_layMaps) Q 72 [(0, .inr (.inr (.inl k0))), (1, .inl k1), (3, .inl q.1.1), (4, .inl q.1.2.1), (5, .inl q.1.2.2)] [] q.2 (0, 0)) : J l g md_X6_layMaps (jRm (d + 2) md_X6_layMaps) Q 126 [(0, .inr (.inr (.inl k0))), (1, .inl k1), (4, .inl x4), (5, .inl x5)] [] ah (0, 0) := by
  unfold f_X6_layMaps_b72_j126 at h
  refine J_seg ok_X6_layMaps 71 2 (pc' := 131) (ls' := [(0, .inr (.inr (.inl k0))), (1, .inl k1), (4, .inl x4), (5, .inl x5)]) (st' := [.inl 1]) rfl ?_
  refine J_seg ok_X6_layMaps 74 3 (pc' := 72) (ls' := [(5, .inl (x5 + 1)), (3, .inl 1), (0, .inr (.inr (.inl k0))), (1, .inl k1), (4, .inl x4)]) (st' := []) rfl ?_
  exact J_sub (ls' := [(0, .inr (.inr (.inl k0))), (1, .inl k1), (3, .inl 1), (4, .inl x4), (5, .inl (x5 + 1))]) [2, 3, 1, 4, 0] rfl (hN ((1, x4, x5 + 1), ah) (Option.some.inj h).symm)
def f_X6_layMaps_b72 (k0 : Option Nat) (k1 : Int32) (s72 : Int32 × Int32 × Int32) (ah : AH) : Option ((Unit × AH) ⊕ (((Int32 × Int32) × AH) ⊕ ((Int32 × Int32 × Int32) × AH))) :=
  (gI ah k0 6 1).bind fun v20 => if v20 ≤ s72.2.2 then (some (.inr (.inl ((s72.1, s72.2.1), ah)))) else ((gR ah k0 6 24).bind fun v22 => (gA ah v22 s72.2.2).bind fun v24 => if s72.1 = 0 then (some (.inr (.inr ((0, s72.2.1 ||| (v24 <<< ((3 * s72.2.2) &&& 31)), s72.2.2 + 1), ah)))) else (if k1 = 0 then (f_X6_layMaps_b72_j126 k0 k1 (s72.2.1 ||| (v24 <<< ((3 * s72.2.2) &&& 31))) s72.2.2 ah) else ((gR ah k0 6 5).bind fun v26 => (gA ah v26 s72.2.2).bind fun v28 => (gR ah k0 6 24).bind fun v30 => (gA ah v30 s72.2.2).bind fun v32 => (f_X6_has v28 v32 ah).bind fun q34 => if q34.1 = 0 then (f_X6_layMaps_b72_j126 k0 k1 (s72.2.1 ||| (v24 <<< ((3 * s72.2.2) &&& 31))) s72.2.2 q34.2) else (some (.inr (.inr ((0, s72.2.1 ||| (v24 <<< ((3 * s72.2.2) &&& 31)), s72.2.2 + 1), q34.2)))))))
set_option maxRecDepth 100000 in
set_option maxHeartbeats 4000000 in
theorem k_X6_layMaps_b72 {l : Launch} {g : GX} (d : Nat) {Q : jQ} {k0 : Option Nat} {k1 : Int32} (s72 : Int32 × Int32 × Int32) (ah : AH) (out : (Unit × AH) ⊕ (((Int32 × Int32) × AH) ⊕ ((Int32 × Int32 × Int32) × AH))) (h : f_X6_layMaps_b72 k0 k1 s72 ah = some out) (hR : ∀ q, out = .inl q → jRetN q.1 q.2) (hX : ∀ q, out = .inr (.inl q) → J l g md_X6_layMaps (jRm (d + 2) md_X6_layMaps) Q 138 [(0, .inr (.inr (.inl k0))), (1, .inl k1), (3, .inl q.1.1), (4, .inl q.1.2)] [] q.2 (0, 0)) (hN : ∀ q, out = .inr (.inr q) → J l g md_X6_layMaps (jRm (d + 2) md_X6_layMaps) Q 72 [(0, .inr (.inr (.inl k0))), (1, .inl k1), (3, .inl q.1.1), (4, .inl q.1.2.1), (5, .inl q.1.2.2)] [] q.2 (0, 0)) : J l g md_X6_layMaps (jRm (d + 2) md_X6_layMaps) Q 72 [(0, .inr (.inr (.inl k0))), (1, .inl k1), (3, .inl s72.1), (4, .inl s72.2.1), (5, .inl s72.2.2)] [] ah (0, 0) := by
  unfold f_X6_layMaps_b72 at h
  refine J_seg ok_X6_layMaps 42 2 (pc' := 75) (ls' := [(0, .inr (.inr (.inl k0))), (1, .inl k1), (3, .inl s72.1), (4, .inl s72.2.1), (5, .inl s72.2.2)]) (st' := [.inr (.inr (.inl k0)), .inl s72.2.2]) rfl ?_
  obtain ⟨v20, h21, h⟩ := Option.bind_eq_some_iff.mp h
  refine J_getI (jat ok_X6_layMaps 44 (pc := 75) (i := .getfield 148) (n := 3) rfl rfl) fl_RX6_148 h21 ?_
  refine J_ge (jat ok_X6_layMaps 45 (pc := 78) (i := .if_icmp .ge 60) (n := 3) rfl rfl) (tgt := 138) (by decide) (fun c => ?_) (fun c => ?_)
  · have h := (if_pos c).symm.trans h
    exact J_sub (ls' := [(0, .inr (.inr (.inl k0))), (1, .inl k1), (3, .inl s72.1), (4, .inl s72.2.1)]) [0, 1, 2, 3] rfl (hX ((s72.1, s72.2.1), ah) (Option.some.inj h).symm)
  · have h := (if_neg c).symm.trans h
    refine J_seg ok_X6_layMaps 46 2 (pc' := 84) (ls' := [(0, .inr (.inr (.inl k0))), (1, .inl k1), (3, .inl s72.1), (4, .inl s72.2.1), (5, .inl s72.2.2)]) (st' := [.inr (.inr (.inl k0)), .inl s72.2.1]) rfl ?_
    obtain ⟨v22, h23, h⟩ := Option.bind_eq_some_iff.mp h
    refine J_getR (jat ok_X6_layMaps 48 (pc := 84) (i := .getfield 53) (n := 3) rfl rfl) fl_RX6_53 h23 ?_
    refine J_seg ok_X6_layMaps 49 1 (pc' := 89) (ls' := [(0, .inr (.inr (.inl k0))), (1, .inl k1), (3, .inl s72.1), (4, .inl s72.2.1), (5, .inl s72.2.2)]) (st' := [.inl s72.2.2, .inr (.inr (.inl v22)), .inl s72.2.1]) rfl ?_
    obtain ⟨v24, h25, h⟩ := Option.bind_eq_some_iff.mp h
    refine J_iald (jat ok_X6_layMaps 50 (pc := 89) (i := .iaload) (n := 1) rfl rfl) h25 ?_
    refine J_seg ok_X6_layMaps 51 7 (pc' := 99) (ls' := [(4, .inl (s72.2.1 ||| (v24 <<< ((3 * s72.2.2) &&& 31)))), (0, .inr (.inr (.inl k0))), (1, .inl k1), (3, .inl s72.1), (5, .inl s72.2.2)]) (st' := [.inl s72.1]) rfl ?_
    refine J_eq0 (jat ok_X6_layMaps 58 (pc := 99) (i := .ifCond .eq 31) (n := 3) rfl rfl) (tgt := 130) (by decide) (fun c => ?_) (fun c => ?_)
    · have h := (if_pos c).symm.trans h
      refine J_seg ok_X6_layMaps 73 4 (pc' := 72) (ls' := [(5, .inl (s72.2.2 + 1)), (3, .inl 0), (4, .inl (s72.2.1 ||| (v24 <<< ((3 * s72.2.2) &&& 31)))), (0, .inr (.inr (.inl k0))), (1, .inl k1)]) (st' := []) rfl ?_
      exact J_sub (ls' := [(0, .inr (.inr (.inl k0))), (1, .inl k1), (3, .inl 0), (4, .inl (s72.2.1 ||| (v24 <<< ((3 * s72.2.2) &&& 31)))), (5, .inl (s72.2.2 + 1))]) [3, 4, 1, 2, 0] rfl (hN ((0, s72.2.1 ||| (v24 <<< ((3 * s72.2.2) &&& 31)), s72.2.2 + 1), ah) (Option.some.inj h).symm)
    · have h := (if_neg c).symm.trans h
      refine J_seg ok_X6_layMaps 59 1 (pc' := 103) (ls' := [(4, .inl (s72.2.1 ||| (v24 <<< ((3 * s72.2.2) &&& 31)))), (0, .inr (.inr (.inl k0))), (1, .inl k1), (3, .inl s72.1), (5, .inl s72.2.2)]) (st' := [.inl k1]) rfl ?_
      refine J_eq0 (jat ok_X6_layMaps 60 (pc := 103) (i := .ifCond .eq 23) (n := 3) rfl rfl) (tgt := 126) (by decide) (fun c => ?_) (fun c => ?_)
      · have h := (if_pos c).symm.trans h
        refine J_sub (ls' := [(0, .inr (.inr (.inl k0))), (1, .inl k1), (4, .inl (s72.2.1 ||| (v24 <<< ((3 * s72.2.2) &&& 31)))), (5, .inl s72.2.2)]) [1, 2, 0, 4] rfl ?_
        exact k_X6_layMaps_b72_j126 d _ _ h hR hX hN
      · have h := (if_neg c).symm.trans h
        refine J_seg ok_X6_layMaps 61 1 (pc' := 107) (ls' := [(4, .inl (s72.2.1 ||| (v24 <<< ((3 * s72.2.2) &&& 31)))), (0, .inr (.inr (.inl k0))), (1, .inl k1), (3, .inl s72.1), (5, .inl s72.2.2)]) (st' := [.inr (.inr (.inl k0))]) rfl ?_
        obtain ⟨v26, h27, h⟩ := Option.bind_eq_some_iff.mp h
        refine J_getR (jat ok_X6_layMaps 62 (pc := 107) (i := .getfield 22) (n := 3) rfl rfl) fl_RX6_22 h27 ?_
        refine J_seg ok_X6_layMaps 63 1 (pc' := 112) (ls' := [(4, .inl (s72.2.1 ||| (v24 <<< ((3 * s72.2.2) &&& 31)))), (0, .inr (.inr (.inl k0))), (1, .inl k1), (3, .inl s72.1), (5, .inl s72.2.2)]) (st' := [.inl s72.2.2, .inr (.inr (.inl v26))]) rfl ?_
        obtain ⟨v28, h29, h⟩ := Option.bind_eq_some_iff.mp h
        refine J_iald (jat ok_X6_layMaps 64 (pc := 112) (i := .iaload) (n := 1) rfl rfl) h29 ?_
        refine J_seg ok_X6_layMaps 65 1 (pc' := 114) (ls' := [(4, .inl (s72.2.1 ||| (v24 <<< ((3 * s72.2.2) &&& 31)))), (0, .inr (.inr (.inl k0))), (1, .inl k1), (3, .inl s72.1), (5, .inl s72.2.2)]) (st' := [.inr (.inr (.inl k0)), .inl v28]) rfl ?_
        obtain ⟨v30, h31, h⟩ := Option.bind_eq_some_iff.mp h
        refine J_getR (jat ok_X6_layMaps 66 (pc := 114) (i := .getfield 53) (n := 3) rfl rfl) fl_RX6_53 h31 ?_
        refine J_seg ok_X6_layMaps 67 1 (pc' := 119) (ls' := [(4, .inl (s72.2.1 ||| (v24 <<< ((3 * s72.2.2) &&& 31)))), (0, .inr (.inr (.inl k0))), (1, .inl k1), (3, .inl s72.1), (5, .inl s72.2.2)]) (st' := [.inl s72.2.2, .inr (.inr (.inl v30)), .inl v28]) rfl ?_
        obtain ⟨v32, h33, h⟩ := Option.bind_eq_some_iff.mp h
        refine J_iald (jat ok_X6_layMaps 68 (pc := 119) (i := .iaload) (n := 1) rfl rfl) h33 ?_
        obtain ⟨q34, h35, h⟩ := Option.bind_eq_some_iff.mp h
        refine J_callS (md' := md_X6_has) (As := [.inl v28, .inl v32]) (st := []) (cs' := (0, 0)) (st' := [.inl q34.1]) (jat ok_X6_layMaps 69 (pc := 120) (i := .invokestatic 128) (n := 3) rfl rfl) (Or.inl ml_RX6_128) ys_X6_has (c_X6_has l g (d + 1) h35) (jRo_of (by decide)) (Nat.le_of_ble_eq_true rfl) ⟨Nat.le_of_ble_eq_true rfl, Nat.le_of_ble_eq_true rfl⟩ rfl rfl rfl ?_
        refine J_ne0 (jat ok_X6_layMaps 70 (pc := 123) (i := .ifCond .ne 7) (n := 3) rfl rfl) (tgt := 130) (by decide) (fun c => ?_) (fun c => ?_)
        · have h := (if_neg c).symm.trans h
          refine J_seg ok_X6_layMaps 73 4 (pc' := 72) (ls' := [(5, .inl (s72.2.2 + 1)), (3, .inl 0), (4, .inl (s72.2.1 ||| (v24 <<< ((3 * s72.2.2) &&& 31)))), (0, .inr (.inr (.inl k0))), (1, .inl k1)]) (st' := []) rfl ?_
          exact J_sub (ls' := [(0, .inr (.inr (.inl k0))), (1, .inl k1), (3, .inl 0), (4, .inl (s72.2.1 ||| (v24 <<< ((3 * s72.2.2) &&& 31)))), (5, .inl (s72.2.2 + 1))]) [3, 4, 1, 2, 0] rfl (hN ((0, s72.2.1 ||| (v24 <<< ((3 * s72.2.2) &&& 31)), s72.2.2 + 1), q34.2) (Option.some.inj h).symm)
        · have h := (if_pos c).symm.trans h
          refine J_sub (ls' := [(0, .inr (.inr (.inl k0))), (1, .inl k1), (4, .inl (s72.2.1 ||| (v24 <<< ((3 * s72.2.2) &&& 31)))), (5, .inl s72.2.2)]) [1, 2, 0, 4] rfl ?_
          exact k_X6_layMaps_b72_j126 d _ _ h hR hX hN
def f_X6_layMaps_b41_j163 (k0 : Option Nat) (k1 : Int32) (ah : AH) : Option ((Unit × AH) ⊕ (((Unit) × AH) ⊕ ((Int32) × AH))) :=
  if qO ah k0 6 = true then ((f_X6_nextTried k0 ah).bind fun q40 => some (.inr (.inr (q40.1, q40.2)))) else none
set_option maxRecDepth 100000 in
set_option maxHeartbeats 4000000 in
theorem k_X6_layMaps_b41_j163 {l : Launch} {g : GX} (d : Nat) {Q : jQ} {k0 : Option Nat} {k1 : Int32} (ah : AH) (out : (Unit × AH) ⊕ (((Unit) × AH) ⊕ ((Int32) × AH))) (h : f_X6_layMaps_b41_j163 k0 k1 ah = some out) (hR : ∀ q, out = .inl q → jRetN q.1 q.2) (hX : ∀ q, out = .inr (.inl q) → J l g md_X6_layMaps (jRm (d + 2) md_X6_layMaps) Q 171 [] [] q.2 (0, 0)) (hN : ∀ q, out = .inr (.inr q) → J l g md_X6_layMaps (jRm (d + 2) md_X6_layMaps) Q 41 [(0, .inr (.inr (.inl k0))), (1, .inl k1), (2, .inl q.1)] [] q.2 (0, 0)) : J l g md_X6_layMaps (jRm (d + 2) md_X6_layMaps) Q 163 [(0, .inr (.inr (.inl k0))), (1, .inl k1)] [] ah (0, 0) := by
  unfold f_X6_layMaps_b41_j163 at h
  refine J_seg ok_X6_layMaps 91 1 (pc' := 164) (ls' := [(0, .inr (.inr (.inl k0))), (1, .inl k1)]) (st' := [.inr (.inr (.inl k0))]) rfl ?_
  by_cases c42 : qO ah k0 6 = true
  case neg => exact absurd ((if_neg c42).symm.trans h) (by simp)
  have h := (if_pos c42).symm.trans h
  obtain ⟨q40, h41, h⟩ := Option.bind_eq_some_iff.mp h
  refine J_callV (md' := md_X6_nextTried) (As := []) (st := []) (cs' := (0, 0)) (st' := [.inl q40.1]) (jat ok_X6_layMaps 92 (pc := 164) (i := .invokevirtual 241) (n := 3) rfl rfl) ml_RX6_241 yv_X6_nextTried c42 (c_X6_nextTried l g (d + 1) h41) (jRo_of (by decide)) (Nat.le_of_ble_eq_true rfl) ⟨Nat.le_of_ble_eq_true rfl, Nat.le_of_ble_eq_true rfl⟩ rfl rfl rfl ?_
  refine J_seg ok_X6_layMaps 93 2 (pc' := 41) (ls' := [(2, .inl q40.1), (0, .inr (.inr (.inl k0))), (1, .inl k1)]) (st' := []) rfl ?_
  exact J_sub (ls' := [(0, .inr (.inr (.inl k0))), (1, .inl k1), (2, .inl q40.1)]) [1, 2, 0] rfl (hN (q40.1, q40.2) (Option.some.inj h).symm)
def f_X6_layMaps_b41_j65 (k0 : Option Nat) (k1 : Int32) (y0 : Int32) (ah : AH) : Option ((Unit × AH) ⊕ (((Unit) × AH) ⊕ ((Int32) × AH))) :=
  (jloop (f_X6_layMaps_b72 k0 k1) jfuel (y0, 0, 0) ah).bind fun q36 => match q36 with | .inl r => none | .inr z38 => if z38.1.1 = 0 then (f_X6_layMaps_b41_j163 k0 k1  z38.2) else ((gR z38.2 k0 6 25).bind fun v43 => (gI z38.2 k0 6 26).bind fun v45 => (sA z38.2 v43 v45 z38.1.2).bind fun a47 => (gI a47 k0 6 26).bind fun v49 => (sF a47 k0 6 26 (.inl (v49 + 1))).bind fun a51 => f_X6_layMaps_b41_j163 k0 k1  a51)
set_option maxRecDepth 100000 in
set_option maxHeartbeats 4000000 in
theorem k_X6_layMaps_b41_j65 {l : Launch} {g : GX} (d : Nat) {Q : jQ} {k0 : Option Nat} {k1 : Int32} {y0 : Int32} (ah : AH) (out : (Unit × AH) ⊕ (((Unit) × AH) ⊕ ((Int32) × AH))) (h : f_X6_layMaps_b41_j65 k0 k1 y0 ah = some out) (hR : ∀ q, out = .inl q → jRetN q.1 q.2) (hX : ∀ q, out = .inr (.inl q) → J l g md_X6_layMaps (jRm (d + 2) md_X6_layMaps) Q 171 [] [] q.2 (0, 0)) (hN : ∀ q, out = .inr (.inr q) → J l g md_X6_layMaps (jRm (d + 2) md_X6_layMaps) Q 41 [(0, .inr (.inr (.inl k0))), (1, .inl k1), (2, .inl q.1)] [] q.2 (0, 0)) : J l g md_X6_layMaps (jRm (d + 2) md_X6_layMaps) Q 65 [(0, .inr (.inr (.inl k0))), (1, .inl k1)] [.inl y0] ah (0, 0) := by
  unfold f_X6_layMaps_b41_j65 at h
  refine J_seg ok_X6_layMaps 37 5 (pc' := 72) (ls' := [(5, .inl 0), (4, .inl 0), (3, .inl y0), (0, .inr (.inr (.inl k0))), (1, .inl k1)]) (st' := []) rfl ?_
  obtain ⟨q36, h37, h⟩ := Option.bind_eq_some_iff.mp h
  refine J_sub (ls' := [(0, .inr (.inr (.inl k0))), (1, .inl k1), (3, .inl y0), (4, .inl 0), (5, .inl 0)]) [3, 4, 2, 1, 0] rfl ?_
  refine J_loop (pE := 138) (lh := fun t39 => [(0, .inr (.inr (.inl k0))), (1, .inl k1), (3, .inl t39.1), (4, .inl t39.2.1), (5, .inl t39.2.2)]) (lx := fun z38 => [(0, .inr (.inr (.inl k0))), (1, .inl k1), (3, .inl z38.1), (4, .inl z38.2)]) (P := jRetN) (fun s ah out hb hR hX hN => k_X6_layMaps_b72 d s ah out hb hR hX hN) jfuel (y0, 0, 0) _ _ h37 (fun r e => ?_) (fun z38 e => ?_)
  · subst e
    dsimp only at h
    cases h
  · subst e
    dsimp only at h
    refine J_seg ok_X6_layMaps 77 1 (pc' := 139) (ls' := [(0, .inr (.inr (.inl k0))), (1, .inl k1), (3, .inl z38.1.1), (4, .inl z38.1.2)]) (st' := [.inl z38.1.1]) rfl ?_
    refine J_eq0 (jat ok_X6_layMaps 78 (pc := 139) (i := .ifCond .eq 24) (n := 3) rfl rfl) (tgt := 163) (by decide) (fun c => ?_) (fun c => ?_)
    · have h := (if_pos c).symm.trans h
      refine J_sub (ls' := [(0, .inr (.inr (.inl k0))), (1, .inl k1)]) [0, 1] rfl ?_
      exact k_X6_layMaps_b41_j163 d _ _ h hR hX hN
    · have h := (if_neg c).symm.trans h
      refine J_seg ok_X6_layMaps 79 1 (pc' := 143) (ls' := [(0, .inr (.inr (.inl k0))), (1, .inl k1), (3, .inl z38.1.1), (4, .inl z38.1.2)]) (st' := [.inr (.inr (.inl k0))]) rfl ?_
      obtain ⟨v43, h44, h⟩ := Option.bind_eq_some_iff.mp h
      refine J_getR (jat ok_X6_layMaps 80 (pc := 143) (i := .getfield 56) (n := 3) rfl rfl) fl_RX6_56 h44 ?_
      refine J_seg ok_X6_layMaps 81 1 (pc' := 147) (ls' := [(0, .inr (.inr (.inl k0))), (1, .inl k1), (3, .inl z38.1.1), (4, .inl z38.1.2)]) (st' := [.inr (.inr (.inl k0)), .inr (.inr (.inl v43))]) rfl ?_
      obtain ⟨v45, h46, h⟩ := Option.bind_eq_some_iff.mp h
      refine J_getI (jat ok_X6_layMaps 82 (pc := 147) (i := .getfield 247) (n := 3) rfl rfl) fl_RX6_247 h46 ?_
      refine J_seg ok_X6_layMaps 83 1 (pc' := 152) (ls' := [(0, .inr (.inr (.inl k0))), (1, .inl k1), (3, .inl z38.1.1), (4, .inl z38.1.2)]) (st' := [.inl z38.1.2, .inl v45, .inr (.inr (.inl v43))]) rfl ?_
      obtain ⟨a47, h48, h⟩ := Option.bind_eq_some_iff.mp h
      refine J_iast (jat ok_X6_layMaps 84 (pc := 152) (i := .iastore) (n := 1) rfl rfl) h48 ?_
      refine J_seg ok_X6_layMaps 85 2 (pc' := 155) (ls' := [(0, .inr (.inr (.inl k0))), (1, .inl k1), (3, .inl z38.1.1), (4, .inl z38.1.2)]) (st' := [.inr (.inr (.inl k0)), .inr (.inr (.inl k0))]) rfl ?_
      obtain ⟨v49, h50, h⟩ := Option.bind_eq_some_iff.mp h
      refine J_getI (jat ok_X6_layMaps 87 (pc := 155) (i := .getfield 247) (n := 3) rfl rfl) fl_RX6_247 h50 ?_
      refine J_seg ok_X6_layMaps 88 2 (pc' := 160) (ls' := [(0, .inr (.inr (.inl k0))), (1, .inl k1), (3, .inl z38.1.1), (4, .inl z38.1.2)]) (st' := [.inl (v49 + 1), .inr (.inr (.inl k0))]) rfl ?_
      obtain ⟨a51, h52, h⟩ := Option.bind_eq_some_iff.mp h
      refine J_put (jat ok_X6_layMaps 90 (pc := 160) (i := .putfield 247) (n := 3) rfl rfl) (fp_RX6_247 _) (jPV_int _) h52 ?_
      refine J_sub (ls' := [(0, .inr (.inr (.inl k0))), (1, .inl k1)]) [0, 1] rfl ?_
      exact k_X6_layMaps_b41_j163 d _ _ h hR hX hN
def f_X6_layMaps_b41 (k0 : Option Nat) (k1 : Int32) (s41 : Int32) (ah : AH) : Option ((Unit × AH) ⊕ (((Unit) × AH) ⊕ ((Int32) × AH))) :=
  if s41 = 0 then (some (.inr (.inl ((), ah)))) else ((gI ah k0 6 1).bind fun v15 => if qO ah k0 6 = true then ((f_X6_leftOf k0 ((1 <<< (v15 &&& 31)) - 1) ah).bind fun q17 => if q17.1 = 0 then (f_X6_layMaps_b41_j65 k0 k1 1 q17.2) else (f_X6_layMaps_b41_j65 k0 k1 0 q17.2)) else none)
set_option maxRecDepth 100000 in
set_option maxHeartbeats 4000000 in
theorem k_X6_layMaps_b41 {l : Launch} {g : GX} (d : Nat) {Q : jQ} {k0 : Option Nat} {k1 : Int32} (s41 : Int32) (ah : AH) (out : (Unit × AH) ⊕ (((Unit) × AH) ⊕ ((Int32) × AH))) (h : f_X6_layMaps_b41 k0 k1 s41 ah = some out) (hR : ∀ q, out = .inl q → jRetN q.1 q.2) (hX : ∀ q, out = .inr (.inl q) → J l g md_X6_layMaps (jRm (d + 2) md_X6_layMaps) Q 171 [] [] q.2 (0, 0)) (hN : ∀ q, out = .inr (.inr q) → J l g md_X6_layMaps (jRm (d + 2) md_X6_layMaps) Q 41 [(0, .inr (.inr (.inl k0))), (1, .inl k1), (2, .inl q.1)] [] q.2 (0, 0)) : J l g md_X6_layMaps (jRm (d + 2) md_X6_layMaps) Q 41 [(0, .inr (.inr (.inl k0))), (1, .inl k1), (2, .inl s41)] [] ah (0, 0) := by
  unfold f_X6_layMaps_b41 at h
  refine J_seg ok_X6_layMaps 23 1 (pc' := 42) (ls' := [(0, .inr (.inr (.inl k0))), (1, .inl k1), (2, .inl s41)]) (st' := [.inl s41]) rfl ?_
  refine J_eq0 (jat ok_X6_layMaps 24 (pc := 42) (i := .ifCond .eq 129) (n := 3) rfl rfl) (tgt := 171) (by decide) (fun c => ?_) (fun c => ?_)
  · have h := (if_pos c).symm.trans h
    exact J_sub (ls' := []) [] rfl (hX ((), ah) (Option.some.inj h).symm)
  · have h := (if_neg c).symm.trans h
    refine J_seg ok_X6_layMaps 25 3 (pc' := 48) (ls' := [(0, .inr (.inr (.inl k0))), (1, .inl k1), (2, .inl s41)]) (st' := [.inr (.inr (.inl k0)), .inl 1, .inr (.inr (.inl k0))]) rfl ?_
    obtain ⟨v15, h16, h⟩ := Option.bind_eq_some_iff.mp h
    refine J_getI (jat ok_X6_layMaps 28 (pc := 48) (i := .getfield 148) (n := 3) rfl rfl) fl_RX6_148 h16 ?_
    refine J_seg ok_X6_layMaps 29 3 (pc' := 54) (ls' := [(0, .inr (.inr (.inl k0))), (1, .inl k1), (2, .inl s41)]) (st' := [.inl ((1 <<< (v15 &&& 31)) - 1), .inr (.inr (.inl k0))]) rfl ?_
    by_cases c19 : qO ah k0 6 = true
    case neg => exact absurd ((if_neg c19).symm.trans h) (by simp)
    have h := (if_pos c19).symm.trans h
    obtain ⟨q17, h18, h⟩ := Option.bind_eq_some_iff.mp h
    refine J_callV (md' := md_X6_leftOf) (As := [.inl ((1 <<< (v15 &&& 31)) - 1)]) (st := []) (cs' := (0, 0)) (st' := [.inl q17.1]) (jat ok_X6_layMaps 32 (pc := 54) (i := .invokevirtual 235) (n := 3) rfl rfl) ml_RX6_235 yv_X6_leftOf c19 (c_X6_leftOf l g (d + 0) h18) (jRo_of (by decide)) (Nat.le_of_ble_eq_true rfl) ⟨Nat.le_of_ble_eq_true rfl, Nat.le_of_ble_eq_true rfl⟩ rfl rfl rfl ?_
    refine J_ne0 (jat ok_X6_layMaps 33 (pc := 57) (i := .ifCond .ne 7) (n := 3) rfl rfl) (tgt := 64) (by decide) (fun c => ?_) (fun c => ?_)
    · have h := (if_neg c).symm.trans h
      refine J_seg ok_X6_layMaps 36 1 (pc' := 65) (ls' := [(0, .inr (.inr (.inl k0))), (1, .inl k1), (2, .inl s41)]) (st' := [.inl 0]) rfl ?_
      refine J_sub (ls' := [(0, .inr (.inr (.inl k0))), (1, .inl k1)]) [0, 1] rfl ?_
      exact k_X6_layMaps_b41_j65 d _ _ h hR hX hN
    · have h := (if_pos c).symm.trans h
      refine J_seg ok_X6_layMaps 34 2 (pc' := 65) (ls' := [(0, .inr (.inr (.inl k0))), (1, .inl k1), (2, .inl s41)]) (st' := [.inl 1]) rfl ?_
      refine J_sub (ls' := [(0, .inr (.inr (.inl k0))), (1, .inl k1)]) [0, 1] rfl ?_
      exact k_X6_layMaps_b41_j65 d _ _ h hR hX hN
def f_X6_layMaps (x0 : Option Nat) (x1 : Int32) (ah : AH) : Option (Unit × AH) :=
  (sF ah x0 6 26 (.inl 0)).bind fun a1 => (jloop (f_X6_layMaps_b7 x0 x1) jfuel 0 a1).bind fun q9 => match q9 with | .inl r => none | .inr z11 => (gI z11.2 x0 6 1).bind fun v13 => if v13 ≤ 0 then ((jloop (f_X6_layMaps_b41 x0 x1) jfuel 0 z11.2).bind fun q53 => match q53 with | .inl r => none | .inr z55 => some ((), z55.2)) else ((jloop (f_X6_layMaps_b41 x0 x1) jfuel 1 z11.2).bind fun q57 => match q57 with | .inl r => none | .inr z59 => some ((), z59.2))
set_option maxRecDepth 100000 in
set_option maxHeartbeats 4000000 in
theorem k_X6_layMaps {l : Launch} {g : GX} (d : Nat) {Q : jQ} {x0 : Option Nat} {x1 : Int32} (ah : AH) (out : Unit × AH) (h : f_X6_layMaps x0 x1 ah = some out) (hR : jRetV l g md_X6_layMaps (jRm (d + 2) md_X6_layMaps) Q (0, 0) out.1 out.2) : J l g md_X6_layMaps (jRm (d + 2) md_X6_layMaps) Q 0 [(0, .inr (.inr (.inl x0))), (1, .inl x1)] [] ah (0, 0) := by
  unfold f_X6_layMaps at h
  refine J_seg ok_X6_layMaps 0 2 (pc' := 2) (ls' := [(0, .inr (.inr (.inl x0))), (1, .inl x1)]) (st' := [.inl 0, .inr (.inr (.inl x0))]) rfl ?_
  obtain ⟨a1, h2, h⟩ := Option.bind_eq_some_iff.mp h
  refine J_put (jat ok_X6_layMaps 2 (pc := 2) (i := .putfield 247) (n := 3) rfl rfl) (fp_RX6_247 _) (jPV_int _) h2 ?_
  refine J_seg ok_X6_layMaps 3 2 (pc' := 7) (ls' := [(2, .inl 0), (0, .inr (.inr (.inl x0))), (1, .inl x1)]) (st' := []) rfl ?_
  obtain ⟨q9, h10, h⟩ := Option.bind_eq_some_iff.mp h
  refine J_sub (ls' := [(0, .inr (.inr (.inl x0))), (1, .inl x1), (2, .inl 0)]) [1, 2, 0] rfl ?_
  refine J_loop (pE := 28) (lh := fun t12 => [(0, .inr (.inr (.inl x0))), (1, .inl x1), (2, .inl t12)]) (lx := fun z11 => [(0, .inr (.inr (.inl x0))), (1, .inl x1)]) (P := jRetN) (fun s ah out hb hR hX hN => k_X6_layMaps_b7 d s ah out hb hR hX hN) jfuel 0 _ _ h10 (fun r e => ?_) (fun z11 e => ?_)
  · subst e
    dsimp only at h
    cases h
  · subst e
    dsimp only at h
    refine J_seg ok_X6_layMaps 16 1 (pc' := 29) (ls' := [(0, .inr (.inr (.inl x0))), (1, .inl x1)]) (st' := [.inr (.inr (.inl x0))]) rfl ?_
    obtain ⟨v13, h14, h⟩ := Option.bind_eq_some_iff.mp h
    refine J_getI (jat ok_X6_layMaps 17 (pc := 29) (i := .getfield 148) (n := 3) rfl rfl) fl_RX6_148 h14 ?_
    refine J_le0 (jat ok_X6_layMaps 18 (pc := 32) (i := .ifCond .le 7) (n := 3) rfl rfl) (tgt := 39) (by decide) (fun c => ?_) (fun c => ?_)
    · have h := (if_pos c).symm.trans h
      refine J_seg ok_X6_layMaps 21 2 (pc' := 41) (ls' := [(2, .inl 0), (0, .inr (.inr (.inl x0))), (1, .inl x1)]) (st' := []) rfl ?_
      obtain ⟨q53, h54, h⟩ := Option.bind_eq_some_iff.mp h
      refine J_sub (ls' := [(0, .inr (.inr (.inl x0))), (1, .inl x1), (2, .inl 0)]) [1, 2, 0] rfl ?_
      refine J_loop (pE := 171) (lh := fun t56 => [(0, .inr (.inr (.inl x0))), (1, .inl x1), (2, .inl t56)]) (lx := fun z55 => []) (P := jRetN) (fun s ah out hb hR hX hN => k_X6_layMaps_b41 d s ah out hb hR hX hN) jfuel 0 _ _ h54 (fun r e => ?_) (fun z55 e => ?_)
      · subst e
        dsimp only at h
        cases h
      · subst e
        dsimp only at h
        have h := Option.some.inj h
        subst h
        exact hR _ _ (jat ok_X6_layMaps 95 (pc := 171) (i := .return_) (n := 1) rfl rfl)
    · have h := (if_neg c).symm.trans h
      refine J_seg ok_X6_layMaps 19 2 (pc' := 40) (ls' := [(0, .inr (.inr (.inl x0))), (1, .inl x1)]) (st' := [.inl 1]) rfl ?_
      refine J_seg ok_X6_layMaps 22 1 (pc' := 41) (ls' := [(2, .inl 1), (0, .inr (.inr (.inl x0))), (1, .inl x1)]) (st' := []) rfl ?_
      obtain ⟨q57, h58, h⟩ := Option.bind_eq_some_iff.mp h
      refine J_sub (ls' := [(0, .inr (.inr (.inl x0))), (1, .inl x1), (2, .inl 1)]) [1, 2, 0] rfl ?_
      refine J_loop (pE := 171) (lh := fun t60 => [(0, .inr (.inr (.inl x0))), (1, .inl x1), (2, .inl t60)]) (lx := fun z59 => []) (P := jRetN) (fun s ah out hb hR hX hN => k_X6_layMaps_b41 d s ah out hb hR hX hN) jfuel 1 _ _ h58 (fun r e => ?_) (fun z59 e => ?_)
      · subst e
        dsimp only at h
        cases h
      · subst e
        dsimp only at h
        have h := Option.some.inj h
        subst h
        exact hR _ _ (jat ok_X6_layMaps 95 (pc := 171) (i := .return_) (n := 1) rfl rfl)
theorem c_X6_layMaps (l : Launch) (g : GX) (d : Nat) {x0 : Option Nat} {x1 : Int32} {ah : AH} {q : Unit × AH} (h : f_X6_layMaps x0 x1 ah = some q) : jM l g (d + 2) md_X6_layMaps [.inr (.inr (.inl x0)), .inl x1] ah none q.2 :=
  jM_of (by decide) (Nat.le_of_ble_eq_true rfl) (k_X6_layMaps d ah q h (fun pc ls hd => J_retv hd rfl rfl (Nat.le_refl _) rfl rfl))
def f_X6_tellParts_b6 (k0 : Option Nat) (k1 : Int64) (k3 : Int64) (s6 : Int64 × Int64) (ah : AH) : Option ((Unit × AH) ⊕ (((Int64) × AH) ⊕ ((Int64 × Int64) × AH))) :=
  if (lg_cmp s6.2 0) = 0 then (some (.inr (.inl (s6.1, ah)))) else (if s6.2 = 0 then none else (some (.inr (.inr ((s6.2, s6.1 - s6.1 / s6.2 * s6.2), ah)))))
set_option maxRecDepth 100000 in
set_option maxHeartbeats 4000000 in
theorem k_X6_tellParts_b6 {l : Launch} {g : GX} (d : Nat) {Q : jQ} {k0 : Option Nat} {k1 : Int64} {k3 : Int64} (s6 : Int64 × Int64) (ah : AH) (out : (Unit × AH) ⊕ (((Int64) × AH) ⊕ ((Int64 × Int64) × AH))) (h : f_X6_tellParts_b6 k0 k1 k3 s6 ah = some out) (hR : ∀ q, out = .inl q → jRetN q.1 q.2) (hX : ∀ q, out = .inr (.inl q) → J l g md_X6_tellParts (jRm (d + 0) md_X6_tellParts) Q 31 [(0, .inr (.inr (.inl k0))), (1, .inr (.inl k1)), (3, .inr (.inl k3)), (5, .inr (.inl q.1))] [] q.2 (0, 0)) (hN : ∀ q, out = .inr (.inr q) → J l g md_X6_tellParts (jRm (d + 0) md_X6_tellParts) Q 6 [(0, .inr (.inr (.inl k0))), (1, .inr (.inl k1)), (3, .inr (.inl k3)), (5, .inr (.inl q.1.1)), (7, .inr (.inl q.1.2))] [] q.2 (0, 0)) : J l g md_X6_tellParts (jRm (d + 0) md_X6_tellParts) Q 6 [(0, .inr (.inr (.inl k0))), (1, .inr (.inl k1)), (3, .inr (.inl k3)), (5, .inr (.inl s6.1)), (7, .inr (.inl s6.2))] [] ah (0, 0) := by
  unfold f_X6_tellParts_b6 at h
  refine J_seg ok_X6_tellParts 4 3 (pc' := 10) (ls' := [(0, .inr (.inr (.inl k0))), (1, .inr (.inl k1)), (3, .inr (.inl k3)), (5, .inr (.inl s6.1)), (7, .inr (.inl s6.2))]) (st' := [.inl (lg_cmp s6.2 0)]) rfl ?_
  refine J_eq0 (jat ok_X6_tellParts 7 (pc := 10) (i := .ifCond .eq 21) (n := 3) rfl rfl) (tgt := 31) (by decide) (fun c => ?_) (fun c => ?_)
  · have h := (if_pos c).symm.trans h
    exact J_sub (ls' := [(0, .inr (.inr (.inl k0))), (1, .inr (.inl k1)), (3, .inr (.inl k3)), (5, .inr (.inl s6.1))]) [0, 1, 2, 3] rfl (hX (s6.1, ah) (Option.some.inj h).symm)
  · have h := (if_neg c).symm.trans h
    refine J_seg ok_X6_tellParts 8 2 (pc' := 17) (ls' := [(0, .inr (.inr (.inl k0))), (1, .inr (.inl k1)), (3, .inr (.inl k3)), (5, .inr (.inl s6.1)), (7, .inr (.inl s6.2))]) (st' := [.inr (.inl s6.2), .inr (.inl s6.1)]) rfl ?_
    by_cases e1 : s6.2 = 0
    · exact absurd ((if_pos e1).symm.trans h) (by simp)
    have h := (if_neg e1).symm.trans h
    refine J_lrem (jat ok_X6_tellParts 10 (pc := 17) (i := .lrem) (n := 1) rfl rfl) e1 ?_
    refine J_seg ok_X6_tellParts 11 6 (pc' := 6) (ls' := [(7, .inr (.inl (s6.1 - s6.1 / s6.2 * s6.2))), (5, .inr (.inl s6.2)), (9, .inr (.inl (s6.1 - s6.1 / s6.2 * s6.2))), (0, .inr (.inr (.inl k0))), (1, .inr (.inl k1)), (3, .inr (.inl k3))]) (st' := []) rfl ?_
    exact J_sub (ls' := [(0, .inr (.inr (.inl k0))), (1, .inr (.inl k1)), (3, .inr (.inl k3)), (5, .inr (.inl s6.2)), (7, .inr (.inl (s6.1 - s6.1 / s6.2 * s6.2)))]) [3, 4, 5, 1, 0] rfl (hN ((s6.2, s6.1 - s6.1 / s6.2 * s6.2), ah) (Option.some.inj h).symm)
def f_X6_tellParts (x0 : Option Nat) (x1 : Int64) (x3 : Int64) (ah : AH) : Option (Int32 × AH) :=
  (jloop (f_X6_tellParts_b6 x0 x1 x3) jfuel (x1, x3) ah).bind fun q2 => match q2 with | .inl r => none | .inr z4 => if z4.1 = 0 then none else ((sF z4.2 x0 6 12 (.inr (.inl (x1 / z4.1)))).bind fun a7 => if z4.1 = 0 then none else ((sF a7 x0 6 13 (.inr (.inl (x3 / z4.1)))).bind fun a10 => some (1, a10)))
set_option maxRecDepth 100000 in
set_option maxHeartbeats 4000000 in
theorem k_X6_tellParts {l : Launch} {g : GX} (d : Nat) {Q : jQ} {x0 : Option Nat} {x1 : Int64} {x3 : Int64} (ah : AH) (out : Int32 × AH) (h : f_X6_tellParts x0 x1 x3 ah = some out) (hR : jRetI l g md_X6_tellParts (jRm (d + 0) md_X6_tellParts) Q (0, 0) out.1 out.2) : J l g md_X6_tellParts (jRm (d + 0) md_X6_tellParts) Q 0 [(0, .inr (.inr (.inl x0))), (1, .inr (.inl x1)), (3, .inr (.inl x3))] [] ah (0, 0) := by
  unfold f_X6_tellParts at h
  refine J_seg ok_X6_tellParts 0 4 (pc' := 6) (ls' := [(7, .inr (.inl x3)), (5, .inr (.inl x1)), (0, .inr (.inr (.inl x0))), (1, .inr (.inl x1)), (3, .inr (.inl x3))]) (st' := []) rfl ?_
  obtain ⟨q2, h3, h⟩ := Option.bind_eq_some_iff.mp h
  refine J_sub (ls' := [(0, .inr (.inr (.inl x0))), (1, .inr (.inl x1)), (3, .inr (.inl x3)), (5, .inr (.inl x1)), (7, .inr (.inl x3))]) [2, 3, 4, 1, 0] rfl ?_
  refine J_loop (pE := 31) (lh := fun t5 => [(0, .inr (.inr (.inl x0))), (1, .inr (.inl x1)), (3, .inr (.inl x3)), (5, .inr (.inl t5.1)), (7, .inr (.inl t5.2))]) (lx := fun z4 => [(0, .inr (.inr (.inl x0))), (1, .inr (.inl x1)), (3, .inr (.inl x3)), (5, .inr (.inl z4))]) (P := jRetN) (fun s ah out hb hR hX hN => k_X6_tellParts_b6 d s ah out hb hR hX hN) jfuel (x1, x3) _ _ h3 (fun r e => ?_) (fun z4 e => ?_)
  · subst e
    dsimp only at h
    cases h
  · subst e
    dsimp only at h
    refine J_seg ok_X6_tellParts 17 3 (pc' := 35) (ls' := [(0, .inr (.inr (.inl x0))), (1, .inr (.inl x1)), (3, .inr (.inl x3)), (5, .inr (.inl z4.1))]) (st' := [.inr (.inl z4.1), .inr (.inl x1), .inr (.inr (.inl x0))]) rfl ?_
    by_cases e6 : z4.1 = 0
    · exact absurd ((if_pos e6).symm.trans h) (by simp)
    have h := (if_neg e6).symm.trans h
    refine J_ldiv (jat ok_X6_tellParts 20 (pc := 35) (i := .ldiv) (n := 1) rfl rfl) e6 ?_
    obtain ⟨a7, h8, h⟩ := Option.bind_eq_some_iff.mp h
    refine J_put (jat ok_X6_tellParts 21 (pc := 36) (i := .putfield 250) (n := 3) rfl rfl) (fp_RX6_250 _) (jPV_long _) h8 ?_
    refine J_seg ok_X6_tellParts 22 3 (pc' := 43) (ls' := [(0, .inr (.inr (.inl x0))), (1, .inr (.inl x1)), (3, .inr (.inl x3)), (5, .inr (.inl z4.1))]) (st' := [.inr (.inl z4.1), .inr (.inl x3), .inr (.inr (.inl x0))]) rfl ?_
    by_cases e9 : z4.1 = 0
    · exact absurd ((if_pos e9).symm.trans h) (by simp)
    have h := (if_neg e9).symm.trans h
    refine J_ldiv (jat ok_X6_tellParts 25 (pc := 43) (i := .ldiv) (n := 1) rfl rfl) e9 ?_
    obtain ⟨a10, h11, h⟩ := Option.bind_eq_some_iff.mp h
    refine J_put (jat ok_X6_tellParts 26 (pc := 44) (i := .putfield 37) (n := 3) rfl rfl) (fp_RX6_37 _) (jPV_long _) h11 ?_
    refine J_seg ok_X6_tellParts 27 1 (pc' := 48) (ls' := [(0, .inr (.inr (.inl x0))), (1, .inr (.inl x1)), (3, .inr (.inl x3)), (5, .inr (.inl z4.1))]) (st' := [.inl 1]) rfl ?_
    have h := Option.some.inj h
    subst h
    exact hR _ _ (jat ok_X6_tellParts 28 (pc := 48) (i := .ireturn) (n := 1) rfl rfl)
theorem c_X6_tellParts (l : Launch) (g : GX) (d : Nat) {x0 : Option Nat} {x1 : Int64} {x3 : Int64} {ah : AH} {q : Int32 × AH} (h : f_X6_tellParts x0 x1 x3 ah = some q) : jM l g (d + 0) md_X6_tellParts [.inr (.inr (.inl x0)), .inr (.inl x1), .inr (.inl x3)] ah (some (.inl q.1)) q.2 :=
  jM_of (by decide) (Nat.le_of_ble_eq_true rfl) (k_X6_tellParts d ah q h (fun pc ls hd => J_reti hd rfl (jPV_int _) rfl (Nat.le_refl _) rfl rfl))
def f_X6_tellMany (x0 : Option Nat) (x1 : Int32) (ah : AH) : Option (Int32 × AH) :=
  (sF ah x0 6 12 (.inr (.inl (Int32.toInt64 x1)))).bind fun a1 => (sF a1 x0 6 13 (.inr (.inl 1))).bind fun a3 => some (1, a3)
set_option maxRecDepth 100000 in
set_option maxHeartbeats 4000000 in
theorem k_X6_tellMany {l : Launch} {g : GX} (d : Nat) {Q : jQ} {x0 : Option Nat} {x1 : Int32} (ah : AH) (out : Int32 × AH) (h : f_X6_tellMany x0 x1 ah = some out) (hR : jRetI l g md_X6_tellMany (jRm (d + 0) md_X6_tellMany) Q (0, 0) out.1 out.2) : J l g md_X6_tellMany (jRm (d + 0) md_X6_tellMany) Q 0 [(0, .inr (.inr (.inl x0))), (1, .inl x1)] [] ah (0, 0) := by
  unfold f_X6_tellMany at h
  refine J_seg ok_X6_tellMany 0 3 (pc' := 3) (ls' := [(0, .inr (.inr (.inl x0))), (1, .inl x1)]) (st' := [.inr (.inl (Int32.toInt64 x1)), .inr (.inr (.inl x0))]) rfl ?_
  obtain ⟨a1, h2, h⟩ := Option.bind_eq_some_iff.mp h
  refine J_put (jat ok_X6_tellMany 3 (pc := 3) (i := .putfield 250) (n := 3) rfl rfl) (fp_RX6_250 _) (jPV_long _) h2 ?_
  refine J_seg ok_X6_tellMany 4 2 (pc' := 8) (ls' := [(0, .inr (.inr (.inl x0))), (1, .inl x1)]) (st' := [.inr (.inl 1), .inr (.inr (.inl x0))]) rfl ?_
  obtain ⟨a3, h4, h⟩ := Option.bind_eq_some_iff.mp h
  refine J_put (jat ok_X6_tellMany 6 (pc := 8) (i := .putfield 37) (n := 3) rfl rfl) (fp_RX6_37 _) (jPV_long _) h4 ?_
  refine J_seg ok_X6_tellMany 7 1 (pc' := 12) (ls' := [(0, .inr (.inr (.inl x0))), (1, .inl x1)]) (st' := [.inl 1]) rfl ?_
  have h := Option.some.inj h
  subst h
  exact hR _ _ (jat ok_X6_tellMany 8 (pc := 12) (i := .ireturn) (n := 1) rfl rfl)
theorem c_X6_tellMany (l : Launch) (g : GX) (d : Nat) {x0 : Option Nat} {x1 : Int32} {ah : AH} {q : Int32 × AH} (h : f_X6_tellMany x0 x1 ah = some q) : jM l g (d + 0) md_X6_tellMany [.inr (.inr (.inl x0)), .inl x1] ah (some (.inl q.1)) q.2 :=
  jM_of (by decide) (Nat.le_of_ble_eq_true rfl) (k_X6_tellMany d ah q h (fun pc ls hd => J_reti hd rfl (jPV_int _) rfl (Nat.le_refl _) rfl rfl))
def f_X6_maps (x0 : Option Nat) (ah : AH) : Option (Int32 × AH) :=
  (gI ah x0 6 1).bind fun v1 => if v1 = 0 then (some ((-4), ah)) else (if qO ah x0 6 = true then ((f_X6_layMaps x0 1 ah).bind fun q3 => (gI q3.2 x0 6 26).bind fun v6 => if qO q3.2 x0 6 = true then ((f_X6_tellMany x0 v6 q3.2).bind fun q8 => some (q8.1, q8.2)) else none) else none)
set_option maxRecDepth 100000 in
set_option maxHeartbeats 4000000 in
theorem k_X6_maps {l : Launch} {g : GX} (d : Nat) {Q : jQ} {x0 : Option Nat} (ah : AH) (out : Int32 × AH) (h : f_X6_maps x0 ah = some out) (hR : jRetI l g md_X6_maps (jRm (d + 3) md_X6_maps) Q (0, 0) out.1 out.2) : J l g md_X6_maps (jRm (d + 3) md_X6_maps) Q 0 [(0, .inr (.inr (.inl x0)))] [] ah (0, 0) := by
  unfold f_X6_maps at h
  refine J_seg ok_X6_maps 0 1 (pc' := 1) (ls' := [(0, .inr (.inr (.inl x0)))]) (st' := [.inr (.inr (.inl x0))]) rfl ?_
  obtain ⟨v1, h2, h⟩ := Option.bind_eq_some_iff.mp h
  refine J_getI (jat ok_X6_maps 1 (pc := 1) (i := .getfield 148) (n := 3) rfl rfl) fl_RX6_148 h2 ?_
  refine J_ne0 (jat ok_X6_maps 2 (pc := 4) (i := .ifCond .ne 6) (n := 3) rfl rfl) (tgt := 10) (by decide) (fun c => ?_) (fun c => ?_)
  · have h := (if_neg c).symm.trans h
    refine J_seg ok_X6_maps 5 2 (pc' := 12) (ls' := [(0, .inr (.inr (.inl x0)))]) (st' := [.inl 1, .inr (.inr (.inl x0))]) rfl ?_
    by_cases c5 : qO ah x0 6 = true
    case neg => exact absurd ((if_neg c5).symm.trans h) (by simp)
    have h := (if_pos c5).symm.trans h
    obtain ⟨q3, h4, h⟩ := Option.bind_eq_some_iff.mp h
    refine J_callV (md' := md_X6_layMaps) (As := [.inl 1]) (st := []) (cs' := (0, 0)) (st' := []) (jat ok_X6_maps 7 (pc := 12) (i := .invokevirtual 253) (n := 3) rfl rfl) ml_RX6_253 yv_X6_layMaps c5 (c_X6_layMaps l g (d + 0) h4) (jRo_of (by decide)) (Nat.le_of_ble_eq_true rfl) ⟨Nat.le_of_ble_eq_true rfl, Nat.le_of_ble_eq_true rfl⟩ rfl rfl rfl ?_
    refine J_seg ok_X6_maps 8 2 (pc' := 17) (ls' := [(0, .inr (.inr (.inl x0)))]) (st' := [.inr (.inr (.inl x0)), .inr (.inr (.inl x0))]) rfl ?_
    obtain ⟨v6, h7, h⟩ := Option.bind_eq_some_iff.mp h
    refine J_getI (jat ok_X6_maps 10 (pc := 17) (i := .getfield 247) (n := 3) rfl rfl) fl_RX6_247 h7 ?_
    by_cases c10 : qO q3.2 x0 6 = true
    case neg => exact absurd ((if_neg c10).symm.trans h) (by simp)
    have h := (if_pos c10).symm.trans h
    obtain ⟨q8, h9, h⟩ := Option.bind_eq_some_iff.mp h
    refine J_callV (md' := md_X6_tellMany) (As := [.inl v6]) (st := []) (cs' := (0, 0)) (st' := [.inl q8.1]) (jat ok_X6_maps 11 (pc := 20) (i := .invokevirtual 257) (n := 3) rfl rfl) ml_RX6_257 yv_X6_tellMany c10 (c_X6_tellMany l g (d + 2) h9) (jRo_of (by decide)) (Nat.le_of_ble_eq_true rfl) ⟨Nat.le_of_ble_eq_true rfl, Nat.le_of_ble_eq_true rfl⟩ rfl rfl rfl ?_
    have h := Option.some.inj h
    subst h
    exact hR _ _ (jat ok_X6_maps 12 (pc := 23) (i := .ireturn) (n := 1) rfl rfl)
  · have h := (if_pos c).symm.trans h
    refine J_seg ok_X6_maps 3 1 (pc' := 9) (ls' := [(0, .inr (.inr (.inl x0)))]) (st' := [.inl (-4)]) rfl ?_
    have h := Option.some.inj h
    subst h
    exact hR _ _ (jat ok_X6_maps 4 (pc := 9) (i := .ireturn) (n := 1) rfl rfl)
theorem c_X6_maps (l : Launch) (g : GX) (d : Nat) {x0 : Option Nat} {ah : AH} {q : Int32 × AH} (h : f_X6_maps x0 ah = some q) : jM l g (d + 3) md_X6_maps [.inr (.inr (.inl x0))] ah (some (.inl q.1)) q.2 :=
  jM_of (by decide) (Nat.le_of_ble_eq_true rfl) (k_X6_maps d ah q h (fun pc ls hd => J_reti hd rfl (jPV_int _) rfl (Nat.le_refl _) rfl rfl))
def f_X6_odds_b34 (k0 : Option Nat) (k1 : Int32) (k2 : Int32) (s34 : Int32 × Int32) (ah : AH) : Option ((Unit × AH) ⊕ (((Int32) × AH) ⊕ ((Int32 × Int32) × AH))) :=
  (gI ah k0 6 26).bind fun v9 => if v9 ≤ s34.2 then (some (.inr (.inl (s34.1, ah)))) else ((gR ah k0 6 25).bind fun v11 => (gA ah v11 s34.2).bind fun v13 => (f_X6_of v13 k1 ah).bind fun q15 => if q15.1 = k2 then (some (.inr (.inr ((s34.1 + 1, s34.2 + 1), q15.2)))) else (some (.inr (.inr ((s34.1 + 0, s34.2 + 1), q15.2)))))
set_option maxRecDepth 100000 in
set_option maxHeartbeats 4000000 in
theorem k_X6_odds_b34 {l : Launch} {g : GX} (d : Nat) {Q : jQ} {k0 : Option Nat} {k1 : Int32} {k2 : Int32} (s34 : Int32 × Int32) (ah : AH) (out : (Unit × AH) ⊕ (((Int32) × AH) ⊕ ((Int32 × Int32) × AH))) (h : f_X6_odds_b34 k0 k1 k2 s34 ah = some out) (hR : ∀ q, out = .inl q → jRetN q.1 q.2) (hX : ∀ q, out = .inr (.inl q) → J l g md_X6_odds (jRm (d + 3) md_X6_odds) Q 72 [(0, .inr (.inr (.inl k0))), (3, .inl q.1)] [] q.2 (0, 0)) (hN : ∀ q, out = .inr (.inr q) → J l g md_X6_odds (jRm (d + 3) md_X6_odds) Q 34 [(0, .inr (.inr (.inl k0))), (1, .inl k1), (2, .inl k2), (3, .inl q.1.1), (4, .inl q.1.2)] [] q.2 (0, 0)) : J l g md_X6_odds (jRm (d + 3) md_X6_odds) Q 34 [(0, .inr (.inr (.inl k0))), (1, .inl k1), (2, .inl k2), (3, .inl s34.1), (4, .inl s34.2)] [] ah (0, 0) := by
  unfold f_X6_odds_b34 at h
  refine J_seg ok_X6_odds 21 2 (pc' := 37) (ls' := [(0, .inr (.inr (.inl k0))), (1, .inl k1), (2, .inl k2), (3, .inl s34.1), (4, .inl s34.2)]) (st' := [.inr (.inr (.inl k0)), .inl s34.2]) rfl ?_
  obtain ⟨v9, h10, h⟩ := Option.bind_eq_some_iff.mp h
  refine J_getI (jat ok_X6_odds 23 (pc := 37) (i := .getfield 247) (n := 3) rfl rfl) fl_RX6_247 h10 ?_
  refine J_ge (jat ok_X6_odds 24 (pc := 40) (i := .if_icmp .ge 32) (n := 3) rfl rfl) (tgt := 72) (by decide) (fun c => ?_) (fun c => ?_)
  · have h := (if_pos c).symm.trans h
    exact J_sub (ls' := [(0, .inr (.inr (.inl k0))), (3, .inl s34.1)]) [0, 3] rfl (hX (s34.1, ah) (Option.some.inj h).symm)
  · have h := (if_neg c).symm.trans h
    refine J_seg ok_X6_odds 25 2 (pc' := 45) (ls' := [(0, .inr (.inr (.inl k0))), (1, .inl k1), (2, .inl k2), (3, .inl s34.1), (4, .inl s34.2)]) (st' := [.inr (.inr (.inl k0)), .inl s34.1]) rfl ?_
    obtain ⟨v11, h12, h⟩ := Option.bind_eq_some_iff.mp h
    refine J_getR (jat ok_X6_odds 27 (pc := 45) (i := .getfield 56) (n := 3) rfl rfl) fl_RX6_56 h12 ?_
    refine J_seg ok_X6_odds 28 1 (pc' := 50) (ls' := [(0, .inr (.inr (.inl k0))), (1, .inl k1), (2, .inl k2), (3, .inl s34.1), (4, .inl s34.2)]) (st' := [.inl s34.2, .inr (.inr (.inl v11)), .inl s34.1]) rfl ?_
    obtain ⟨v13, h14, h⟩ := Option.bind_eq_some_iff.mp h
    refine J_iald (jat ok_X6_odds 29 (pc := 50) (i := .iaload) (n := 1) rfl rfl) h14 ?_
    refine J_seg ok_X6_odds 30 1 (pc' := 52) (ls' := [(0, .inr (.inr (.inl k0))), (1, .inl k1), (2, .inl k2), (3, .inl s34.1), (4, .inl s34.2)]) (st' := [.inl k1, .inl v13, .inl s34.1]) rfl ?_
    obtain ⟨q15, h16, h⟩ := Option.bind_eq_some_iff.mp h
    refine J_callS (md' := md_X6_of) (As := [.inl v13, .inl k1]) (st := [.inl s34.1]) (cs' := (0, 0)) (st' := [.inl q15.1, .inl s34.1]) (jat ok_X6_odds 31 (pc := 52) (i := .invokestatic 260) (n := 3) rfl rfl) (Or.inl ml_RX6_260) ys_X6_of (c_X6_of l g (d + 2) h16) (jRo_of (by decide)) (Nat.le_of_ble_eq_true rfl) ⟨Nat.le_of_ble_eq_true rfl, Nat.le_of_ble_eq_true rfl⟩ rfl rfl rfl ?_
    refine J_seg ok_X6_odds 32 1 (pc' := 56) (ls' := [(0, .inr (.inr (.inl k0))), (1, .inl k1), (2, .inl k2), (3, .inl s34.1), (4, .inl s34.2)]) (st' := [.inl k2, .inl q15.1, .inl s34.1]) rfl ?_
    refine J_ne (jat ok_X6_odds 33 (pc := 56) (i := .if_icmp .ne 7) (n := 3) rfl rfl) (tgt := 63) (by decide) (fun c => ?_) (fun c => ?_)
    · have h := (if_neg c).symm.trans h
      refine J_seg ok_X6_odds 36 5 (pc' := 34) (ls' := [(4, .inl (s34.2 + 1)), (3, .inl (s34.1 + 0)), (0, .inr (.inr (.inl k0))), (1, .inl k1), (2, .inl k2)]) (st' := []) rfl ?_
      exact J_sub (ls' := [(0, .inr (.inr (.inl k0))), (1, .inl k1), (2, .inl k2), (3, .inl (s34.1 + 0)), (4, .inl (s34.2 + 1))]) [2, 3, 4, 1, 0] rfl (hN ((s34.1 + 0, s34.2 + 1), q15.2) (Option.some.inj h).symm)
    · have h := (if_pos c).symm.trans h
      refine J_seg ok_X6_odds 34 2 (pc' := 64) (ls' := [(0, .inr (.inr (.inl k0))), (1, .inl k1), (2, .inl k2), (3, .inl s34.1), (4, .inl s34.2)]) (st' := [.inl 1, .inl s34.1]) rfl ?_
      refine J_seg ok_X6_odds 37 4 (pc' := 34) (ls' := [(4, .inl (s34.2 + 1)), (3, .inl (s34.1 + 1)), (0, .inr (.inr (.inl k0))), (1, .inl k1), (2, .inl k2)]) (st' := []) rfl ?_
      exact J_sub (ls' := [(0, .inr (.inr (.inl k0))), (1, .inl k1), (2, .inl k2), (3, .inl (s34.1 + 1)), (4, .inl (s34.2 + 1))]) [2, 3, 4, 1, 0] rfl (hN ((s34.1 + 1, s34.2 + 1), q15.2) (Option.some.inj h).symm)
def f_X6_odds (x0 : Option Nat) (x1 : Int32) (x2 : Int32) (ah : AH) : Option (Int32 × AH) :=
  if qO ah x0 6 = true then ((f_X6_areTwo x0 x1 x2 ah).bind fun q1 => if q1.1 = 0 then (some ((-1), q1.2)) else (if qO q1.2 x0 6 = true then ((f_X6_layMaps x0 1 q1.2).bind fun q4 => (gI q4.2 x0 6 26).bind fun v7 => if v7 = 0 then (if qO q4.2 x0 6 = true then ((f_X6_find x0 4 q4.2).bind fun q26 => some (q26.1, q26.2)) else none) else ((jloop (f_X6_odds_b34 x0 x1 x2) jfuel (0, 0) q4.2).bind fun q17 => match q17 with | .inl r => none | .inr z19 => (gI z19.2 x0 6 26).bind fun v21 => if qO z19.2 x0 6 = true then ((f_X6_tellParts x0 (Int32.toInt64 z19.1) (Int32.toInt64 v21) z19.2).bind fun q23 => some (q23.1, q23.2)) else none)) else none)) else none
set_option maxRecDepth 100000 in
set_option maxHeartbeats 4000000 in
theorem k_X6_odds {l : Launch} {g : GX} (d : Nat) {Q : jQ} {x0 : Option Nat} {x1 : Int32} {x2 : Int32} (ah : AH) (out : Int32 × AH) (h : f_X6_odds x0 x1 x2 ah = some out) (hR : jRetI l g md_X6_odds (jRm (d + 3) md_X6_odds) Q (0, 0) out.1 out.2) : J l g md_X6_odds (jRm (d + 3) md_X6_odds) Q 0 [(0, .inr (.inr (.inl x0))), (1, .inl x1), (2, .inl x2)] [] ah (0, 0) := by
  unfold f_X6_odds at h
  refine J_seg ok_X6_odds 0 3 (pc' := 3) (ls' := [(0, .inr (.inr (.inl x0))), (1, .inl x1), (2, .inl x2)]) (st' := [.inl x2, .inl x1, .inr (.inr (.inl x0))]) rfl ?_
  by_cases c3 : qO ah x0 6 = true
  case neg => exact absurd ((if_neg c3).symm.trans h) (by simp)
  have h := (if_pos c3).symm.trans h
  obtain ⟨q1, h2, h⟩ := Option.bind_eq_some_iff.mp h
  refine J_callV (md' := md_X6_areTwo) (As := [.inl x1, .inl x2]) (st := []) (cs' := (0, 0)) (st' := [.inl q1.1]) (jat ok_X6_odds 3 (pc := 3) (i := .invokevirtual 192) (n := 3) rfl rfl) ml_RX6_192 yv_X6_areTwo c3 (c_X6_areTwo l g (d + 0) h2) (jRo_of (by decide)) (Nat.le_of_ble_eq_true rfl) ⟨Nat.le_of_ble_eq_true rfl, Nat.le_of_ble_eq_true rfl⟩ rfl rfl rfl ?_
  refine J_ne0 (jat ok_X6_odds 4 (pc := 6) (i := .ifCond .ne 5) (n := 3) rfl rfl) (tgt := 11) (by decide) (fun c => ?_) (fun c => ?_)
  · have h := (if_neg c).symm.trans h
    refine J_seg ok_X6_odds 7 2 (pc' := 13) (ls' := [(0, .inr (.inr (.inl x0))), (1, .inl x1), (2, .inl x2)]) (st' := [.inl 1, .inr (.inr (.inl x0))]) rfl ?_
    by_cases c6 : qO q1.2 x0 6 = true
    case neg => exact absurd ((if_neg c6).symm.trans h) (by simp)
    have h := (if_pos c6).symm.trans h
    obtain ⟨q4, h5, h⟩ := Option.bind_eq_some_iff.mp h
    refine J_callV (md' := md_X6_layMaps) (As := [.inl 1]) (st := []) (cs' := (0, 0)) (st' := []) (jat ok_X6_odds 9 (pc := 13) (i := .invokevirtual 253) (n := 3) rfl rfl) ml_RX6_253 yv_X6_layMaps c6 (c_X6_layMaps l g (d + 0) h5) (jRo_of (by decide)) (Nat.le_of_ble_eq_true rfl) ⟨Nat.le_of_ble_eq_true rfl, Nat.le_of_ble_eq_true rfl⟩ rfl rfl rfl ?_
    refine J_seg ok_X6_odds 10 1 (pc' := 17) (ls' := [(0, .inr (.inr (.inl x0))), (1, .inl x1), (2, .inl x2)]) (st' := [.inr (.inr (.inl x0))]) rfl ?_
    obtain ⟨v7, h8, h⟩ := Option.bind_eq_some_iff.mp h
    refine J_getI (jat ok_X6_odds 11 (pc := 17) (i := .getfield 247) (n := 3) rfl rfl) fl_RX6_247 h8 ?_
    refine J_ne0 (jat ok_X6_odds 12 (pc := 20) (i := .ifCond .ne 9) (n := 3) rfl rfl) (tgt := 29) (by decide) (fun c => ?_) (fun c => ?_)
    · have h := (if_neg c).symm.trans h
      refine J_seg ok_X6_odds 17 4 (pc' := 34) (ls' := [(4, .inl 0), (3, .inl 0), (0, .inr (.inr (.inl x0))), (1, .inl x1), (2, .inl x2)]) (st' := []) rfl ?_
      obtain ⟨q17, h18, h⟩ := Option.bind_eq_some_iff.mp h
      refine J_sub (ls' := [(0, .inr (.inr (.inl x0))), (1, .inl x1), (2, .inl x2), (3, .inl 0), (4, .inl 0)]) [2, 3, 4, 1, 0] rfl ?_
      refine J_loop (pE := 72) (lh := fun t20 => [(0, .inr (.inr (.inl x0))), (1, .inl x1), (2, .inl x2), (3, .inl t20.1), (4, .inl t20.2)]) (lx := fun z19 => [(0, .inr (.inr (.inl x0))), (3, .inl z19)]) (P := jRetN) (fun s ah out hb hR hX hN => k_X6_odds_b34 d s ah out hb hR hX hN) jfuel (0, 0) _ _ h18 (fun r e => ?_) (fun z19 e => ?_)
      · subst e
        dsimp only at h
        cases h
      · subst e
        dsimp only at h
        refine J_seg ok_X6_odds 41 4 (pc' := 76) (ls' := [(0, .inr (.inr (.inl x0))), (3, .inl z19.1)]) (st' := [.inr (.inr (.inl x0)), .inr (.inl (Int32.toInt64 z19.1)), .inr (.inr (.inl x0))]) rfl ?_
        obtain ⟨v21, h22, h⟩ := Option.bind_eq_some_iff.mp h
        refine J_getI (jat ok_X6_odds 45 (pc := 76) (i := .getfield 247) (n := 3) rfl rfl) fl_RX6_247 h22 ?_
        refine J_seg ok_X6_odds 46 1 (pc' := 80) (ls' := [(0, .inr (.inr (.inl x0))), (3, .inl z19.1)]) (st' := [.inr (.inl (Int32.toInt64 v21)), .inr (.inl (Int32.toInt64 z19.1)), .inr (.inr (.inl x0))]) rfl ?_
        by_cases c25 : qO z19.2 x0 6 = true
        case neg => exact absurd ((if_neg c25).symm.trans h) (by simp)
        have h := (if_pos c25).symm.trans h
        obtain ⟨q23, h24, h⟩ := Option.bind_eq_some_iff.mp h
        refine J_callV (md' := md_X6_tellParts) (As := [.inr (.inl (Int32.toInt64 z19.1)), .inr (.inl (Int32.toInt64 v21))]) (st := []) (cs' := (0, 0)) (st' := [.inl q23.1]) (jat ok_X6_odds 47 (pc := 80) (i := .invokevirtual 263) (n := 3) rfl rfl) ml_RX6_263 yv_X6_tellParts c25 (c_X6_tellParts l g (d + 2) h24) (jRo_of (by decide)) (Nat.le_of_ble_eq_true rfl) ⟨Nat.le_of_ble_eq_true rfl, Nat.le_of_ble_eq_true rfl⟩ rfl rfl rfl ?_
        have h := Option.some.inj h
        subst h
        exact hR _ _ (jat ok_X6_odds 48 (pc := 83) (i := .ireturn) (n := 1) rfl rfl)
    · have h := (if_pos c).symm.trans h
      refine J_seg ok_X6_odds 13 2 (pc' := 25) (ls' := [(0, .inr (.inr (.inl x0))), (1, .inl x1), (2, .inl x2)]) (st' := [.inl 4, .inr (.inr (.inl x0))]) rfl ?_
      by_cases c28 : qO q4.2 x0 6 = true
      case neg => exact absurd ((if_neg c28).symm.trans h) (by simp)
      have h := (if_pos c28).symm.trans h
      obtain ⟨q26, h27, h⟩ := Option.bind_eq_some_iff.mp h
      refine J_callV (md' := md_X6_find) (As := [.inl 4]) (st := []) (cs' := (0, 0)) (st' := [.inl q26.1]) (jat ok_X6_odds 15 (pc := 25) (i := .invokevirtual 81) (n := 3) rfl rfl) ml_RX6_81 yv_X6_find c28 (c_X6_find l g (d + 2) h27) (jRo_of (by decide)) (Nat.le_of_ble_eq_true rfl) ⟨Nat.le_of_ble_eq_true rfl, Nat.le_of_ble_eq_true rfl⟩ rfl rfl rfl ?_
      have h := Option.some.inj h
      subst h
      exact hR _ _ (jat ok_X6_odds 16 (pc := 28) (i := .ireturn) (n := 1) rfl rfl)
  · have h := (if_pos c).symm.trans h
    refine J_seg ok_X6_odds 5 1 (pc' := 10) (ls' := [(0, .inr (.inr (.inl x0))), (1, .inl x1), (2, .inl x2)]) (st' := [.inl (-1)]) rfl ?_
    have h := Option.some.inj h
    subst h
    exact hR _ _ (jat ok_X6_odds 6 (pc := 10) (i := .ireturn) (n := 1) rfl rfl)
theorem c_X6_odds (l : Launch) (g : GX) (d : Nat) {x0 : Option Nat} {x1 : Int32} {x2 : Int32} {ah : AH} {q : Int32 × AH} (h : f_X6_odds x0 x1 x2 ah = some q) : jM l g (d + 3) md_X6_odds [.inr (.inr (.inl x0)), .inl x1, .inl x2] ah (some (.inl q.1)) q.2 :=
  jM_of (by decide) (Nat.le_of_ble_eq_true rfl) (k_X6_odds d ah q h (fun pc ls hd => J_reti hd rfl (jPV_int _) rfl (Nat.le_refl _) rfl rfl))
def f_X6_both_b34_j78 (k0 : Option Nat) (k1 : Int32) (k2 : Int32) (x4 : Int32) (y0 : Int32) (ah : AH) : Option ((Unit × AH) ⊕ (((Int32) × AH) ⊕ ((Int32 × Int32) × AH))) :=
  some (.inr (.inr ((y0 + 0, x4 + 1), ah)))
set_option maxRecDepth 100000 in
set_option maxHeartbeats 4000000 in
theorem k_X6_both_b34_j78 {l : Launch} {g : GX} (d : Nat) {Q : jQ} {k0 : Option Nat} {k1 : Int32} {k2 : Int32} {x4 : Int32} {y0 : Int32} (ah : AH) (out : (Unit × AH) ⊕ (((Int32) × AH) ⊕ ((Int32 × Int32) × AH))) (h : f_X6_both_b34_j78 k0 k1 k2 x4 y0 ah = some out) (hR : ∀ q, out = .inl q → jRetN q.1 q.2) (hX : ∀ q, out = .inr (.inl q) → J l g md_X6_both (jRm (d + 3) md_X6_both) Q 87 [(0, .inr (.inr (.inl k0))), (3, .inl q.1)] [] q.2 (0, 0)) (hN : ∀ q, out = .inr (.inr q) → J l g md_X6_both (jRm (d + 3) md_X6_both) Q 34 [(0, .inr (.inr (.inl k0))), (1, .inl k1), (2, .inl k2), (3, .inl q.1.1), (4, .inl q.1.2)] [] q.2 (0, 0)) : J l g md_X6_both (jRm (d + 3) md_X6_both) Q 78 [(0, .inr (.inr (.inl k0))), (1, .inl k1), (2, .inl k2), (4, .inl x4)] [.inl y0] ah (0, 0) := by
  unfold f_X6_both_b34_j78 at h
  refine J_seg ok_X6_both 44 5 (pc' := 34) (ls' := [(4, .inl (x4 + 1)), (3, .inl (y0 + 0)), (0, .inr (.inr (.inl k0))), (1, .inl k1), (2, .inl k2)]) (st' := []) rfl ?_
  exact J_sub (ls' := [(0, .inr (.inr (.inl k0))), (1, .inl k1), (2, .inl k2), (3, .inl (y0 + 0)), (4, .inl (x4 + 1))]) [2, 3, 4, 1, 0] rfl (hN ((y0 + 0, x4 + 1), ah) (Option.some.inj h).symm)
def f_X6_both_b34 (k0 : Option Nat) (k1 : Int32) (k2 : Int32) (s34 : Int32 × Int32) (ah : AH) : Option ((Unit × AH) ⊕ (((Int32) × AH) ⊕ ((Int32 × Int32) × AH))) :=
  (gI ah k0 6 26).bind fun v9 => if v9 ≤ s34.2 then (some (.inr (.inl (s34.1, ah)))) else ((gR ah k0 6 25).bind fun v11 => (gA ah v11 s34.2).bind fun v13 => (f_X6_of v13 k1 ah).bind fun q15 => if q15.1 = k2 then ((gR q15.2 k0 6 25).bind fun v17 => (gA q15.2 v17 s34.2).bind fun v19 => (f_X6_of v19 k2 q15.2).bind fun q21 => if q21.1 = k1 then (some (.inr (.inr ((s34.1 + 1, s34.2 + 1), q21.2)))) else (f_X6_both_b34_j78 k0 k1 k2 s34.2 s34.1 q21.2)) else (f_X6_both_b34_j78 k0 k1 k2 s34.2 s34.1 q15.2))
set_option maxRecDepth 100000 in
set_option maxHeartbeats 4000000 in
theorem k_X6_both_b34 {l : Launch} {g : GX} (d : Nat) {Q : jQ} {k0 : Option Nat} {k1 : Int32} {k2 : Int32} (s34 : Int32 × Int32) (ah : AH) (out : (Unit × AH) ⊕ (((Int32) × AH) ⊕ ((Int32 × Int32) × AH))) (h : f_X6_both_b34 k0 k1 k2 s34 ah = some out) (hR : ∀ q, out = .inl q → jRetN q.1 q.2) (hX : ∀ q, out = .inr (.inl q) → J l g md_X6_both (jRm (d + 3) md_X6_both) Q 87 [(0, .inr (.inr (.inl k0))), (3, .inl q.1)] [] q.2 (0, 0)) (hN : ∀ q, out = .inr (.inr q) → J l g md_X6_both (jRm (d + 3) md_X6_both) Q 34 [(0, .inr (.inr (.inl k0))), (1, .inl k1), (2, .inl k2), (3, .inl q.1.1), (4, .inl q.1.2)] [] q.2 (0, 0)) : J l g md_X6_both (jRm (d + 3) md_X6_both) Q 34 [(0, .inr (.inr (.inl k0))), (1, .inl k1), (2, .inl k2), (3, .inl s34.1), (4, .inl s34.2)] [] ah (0, 0) := by
  unfold f_X6_both_b34 at h
  refine J_seg ok_X6_both 21 2 (pc' := 37) (ls' := [(0, .inr (.inr (.inl k0))), (1, .inl k1), (2, .inl k2), (3, .inl s34.1), (4, .inl s34.2)]) (st' := [.inr (.inr (.inl k0)), .inl s34.2]) rfl ?_
  obtain ⟨v9, h10, h⟩ := Option.bind_eq_some_iff.mp h
  refine J_getI (jat ok_X6_both 23 (pc := 37) (i := .getfield 247) (n := 3) rfl rfl) fl_RX6_247 h10 ?_
  refine J_ge (jat ok_X6_both 24 (pc := 40) (i := .if_icmp .ge 47) (n := 3) rfl rfl) (tgt := 87) (by decide) (fun c => ?_) (fun c => ?_)
  · have h := (if_pos c).symm.trans h
    exact J_sub (ls' := [(0, .inr (.inr (.inl k0))), (3, .inl s34.1)]) [0, 3] rfl (hX (s34.1, ah) (Option.some.inj h).symm)
  · have h := (if_neg c).symm.trans h
    refine J_seg ok_X6_both 25 2 (pc' := 45) (ls' := [(0, .inr (.inr (.inl k0))), (1, .inl k1), (2, .inl k2), (3, .inl s34.1), (4, .inl s34.2)]) (st' := [.inr (.inr (.inl k0)), .inl s34.1]) rfl ?_
    obtain ⟨v11, h12, h⟩ := Option.bind_eq_some_iff.mp h
    refine J_getR (jat ok_X6_both 27 (pc := 45) (i := .getfield 56) (n := 3) rfl rfl) fl_RX6_56 h12 ?_
    refine J_seg ok_X6_both 28 1 (pc' := 50) (ls' := [(0, .inr (.inr (.inl k0))), (1, .inl k1), (2, .inl k2), (3, .inl s34.1), (4, .inl s34.2)]) (st' := [.inl s34.2, .inr (.inr (.inl v11)), .inl s34.1]) rfl ?_
    obtain ⟨v13, h14, h⟩ := Option.bind_eq_some_iff.mp h
    refine J_iald (jat ok_X6_both 29 (pc := 50) (i := .iaload) (n := 1) rfl rfl) h14 ?_
    refine J_seg ok_X6_both 30 1 (pc' := 52) (ls' := [(0, .inr (.inr (.inl k0))), (1, .inl k1), (2, .inl k2), (3, .inl s34.1), (4, .inl s34.2)]) (st' := [.inl k1, .inl v13, .inl s34.1]) rfl ?_
    obtain ⟨q15, h16, h⟩ := Option.bind_eq_some_iff.mp h
    refine J_callS (md' := md_X6_of) (As := [.inl v13, .inl k1]) (st := [.inl s34.1]) (cs' := (0, 0)) (st' := [.inl q15.1, .inl s34.1]) (jat ok_X6_both 31 (pc := 52) (i := .invokestatic 260) (n := 3) rfl rfl) (Or.inl ml_RX6_260) ys_X6_of (c_X6_of l g (d + 2) h16) (jRo_of (by decide)) (Nat.le_of_ble_eq_true rfl) ⟨Nat.le_of_ble_eq_true rfl, Nat.le_of_ble_eq_true rfl⟩ rfl rfl rfl ?_
    refine J_seg ok_X6_both 32 1 (pc' := 56) (ls' := [(0, .inr (.inr (.inl k0))), (1, .inl k1), (2, .inl k2), (3, .inl s34.1), (4, .inl s34.2)]) (st' := [.inl k2, .inl q15.1, .inl s34.1]) rfl ?_
    refine J_ne (jat ok_X6_both 33 (pc := 56) (i := .if_icmp .ne 22) (n := 3) rfl rfl) (tgt := 78) (by decide) (fun c => ?_) (fun c => ?_)
    · have h := (if_neg c).symm.trans h
      refine J_sub (ls' := [(0, .inr (.inr (.inl k0))), (1, .inl k1), (2, .inl k2), (4, .inl s34.2)]) [0, 1, 2, 4] rfl ?_
      exact k_X6_both_b34_j78 d _ _ h hR hX hN
    · have h := (if_pos c).symm.trans h
      refine J_seg ok_X6_both 34 1 (pc' := 60) (ls' := [(0, .inr (.inr (.inl k0))), (1, .inl k1), (2, .inl k2), (3, .inl s34.1), (4, .inl s34.2)]) (st' := [.inr (.inr (.inl k0)), .inl s34.1]) rfl ?_
      obtain ⟨v17, h18, h⟩ := Option.bind_eq_some_iff.mp h
      refine J_getR (jat ok_X6_both 35 (pc := 60) (i := .getfield 56) (n := 3) rfl rfl) fl_RX6_56 h18 ?_
      refine J_seg ok_X6_both 36 1 (pc' := 65) (ls' := [(0, .inr (.inr (.inl k0))), (1, .inl k1), (2, .inl k2), (3, .inl s34.1), (4, .inl s34.2)]) (st' := [.inl s34.2, .inr (.inr (.inl v17)), .inl s34.1]) rfl ?_
      obtain ⟨v19, h20, h⟩ := Option.bind_eq_some_iff.mp h
      refine J_iald (jat ok_X6_both 37 (pc := 65) (i := .iaload) (n := 1) rfl rfl) h20 ?_
      refine J_seg ok_X6_both 38 1 (pc' := 67) (ls' := [(0, .inr (.inr (.inl k0))), (1, .inl k1), (2, .inl k2), (3, .inl s34.1), (4, .inl s34.2)]) (st' := [.inl k2, .inl v19, .inl s34.1]) rfl ?_
      obtain ⟨q21, h22, h⟩ := Option.bind_eq_some_iff.mp h
      refine J_callS (md' := md_X6_of) (As := [.inl v19, .inl k2]) (st := [.inl s34.1]) (cs' := (0, 0)) (st' := [.inl q21.1, .inl s34.1]) (jat ok_X6_both 39 (pc := 67) (i := .invokestatic 260) (n := 3) rfl rfl) (Or.inl ml_RX6_260) ys_X6_of (c_X6_of l g (d + 2) h22) (jRo_of (by decide)) (Nat.le_of_ble_eq_true rfl) ⟨Nat.le_of_ble_eq_true rfl, Nat.le_of_ble_eq_true rfl⟩ rfl rfl rfl ?_
      refine J_seg ok_X6_both 40 1 (pc' := 71) (ls' := [(0, .inr (.inr (.inl k0))), (1, .inl k1), (2, .inl k2), (3, .inl s34.1), (4, .inl s34.2)]) (st' := [.inl k1, .inl q21.1, .inl s34.1]) rfl ?_
      refine J_ne (jat ok_X6_both 41 (pc := 71) (i := .if_icmp .ne 7) (n := 3) rfl rfl) (tgt := 78) (by decide) (fun c => ?_) (fun c => ?_)
      · have h := (if_neg c).symm.trans h
        refine J_sub (ls' := [(0, .inr (.inr (.inl k0))), (1, .inl k1), (2, .inl k2), (4, .inl s34.2)]) [0, 1, 2, 4] rfl ?_
        exact k_X6_both_b34_j78 d _ _ h hR hX hN
      · have h := (if_pos c).symm.trans h
        refine J_seg ok_X6_both 42 2 (pc' := 79) (ls' := [(0, .inr (.inr (.inl k0))), (1, .inl k1), (2, .inl k2), (3, .inl s34.1), (4, .inl s34.2)]) (st' := [.inl 1, .inl s34.1]) rfl ?_
        refine J_seg ok_X6_both 45 4 (pc' := 34) (ls' := [(4, .inl (s34.2 + 1)), (3, .inl (s34.1 + 1)), (0, .inr (.inr (.inl k0))), (1, .inl k1), (2, .inl k2)]) (st' := []) rfl ?_
        exact J_sub (ls' := [(0, .inr (.inr (.inl k0))), (1, .inl k1), (2, .inl k2), (3, .inl (s34.1 + 1)), (4, .inl (s34.2 + 1))]) [2, 3, 4, 1, 0] rfl (hN ((s34.1 + 1, s34.2 + 1), q21.2) (Option.some.inj h).symm)
def f_X6_both (x0 : Option Nat) (x1 : Int32) (x2 : Int32) (ah : AH) : Option (Int32 × AH) :=
  if qO ah x0 6 = true then ((f_X6_areTwo x0 x1 x2 ah).bind fun q1 => if q1.1 = 0 then (some ((-1), q1.2)) else (if qO q1.2 x0 6 = true then ((f_X6_layMaps x0 1 q1.2).bind fun q4 => (gI q4.2 x0 6 26).bind fun v7 => if v7 = 0 then (if qO q4.2 x0 6 = true then ((f_X6_find x0 4 q4.2).bind fun q32 => some (q32.1, q32.2)) else none) else ((jloop (f_X6_both_b34 x0 x1 x2) jfuel (0, 0) q4.2).bind fun q23 => match q23 with | .inl r => none | .inr z25 => (gI z25.2 x0 6 26).bind fun v27 => if qO z25.2 x0 6 = true then ((f_X6_tellParts x0 (Int32.toInt64 z25.1) (Int32.toInt64 v27) z25.2).bind fun q29 => some (q29.1, q29.2)) else none)) else none)) else none
set_option maxRecDepth 100000 in
set_option maxHeartbeats 4000000 in
theorem k_X6_both {l : Launch} {g : GX} (d : Nat) {Q : jQ} {x0 : Option Nat} {x1 : Int32} {x2 : Int32} (ah : AH) (out : Int32 × AH) (h : f_X6_both x0 x1 x2 ah = some out) (hR : jRetI l g md_X6_both (jRm (d + 3) md_X6_both) Q (0, 0) out.1 out.2) : J l g md_X6_both (jRm (d + 3) md_X6_both) Q 0 [(0, .inr (.inr (.inl x0))), (1, .inl x1), (2, .inl x2)] [] ah (0, 0) := by
  unfold f_X6_both at h
  refine J_seg ok_X6_both 0 3 (pc' := 3) (ls' := [(0, .inr (.inr (.inl x0))), (1, .inl x1), (2, .inl x2)]) (st' := [.inl x2, .inl x1, .inr (.inr (.inl x0))]) rfl ?_
  by_cases c3 : qO ah x0 6 = true
  case neg => exact absurd ((if_neg c3).symm.trans h) (by simp)
  have h := (if_pos c3).symm.trans h
  obtain ⟨q1, h2, h⟩ := Option.bind_eq_some_iff.mp h
  refine J_callV (md' := md_X6_areTwo) (As := [.inl x1, .inl x2]) (st := []) (cs' := (0, 0)) (st' := [.inl q1.1]) (jat ok_X6_both 3 (pc := 3) (i := .invokevirtual 192) (n := 3) rfl rfl) ml_RX6_192 yv_X6_areTwo c3 (c_X6_areTwo l g (d + 0) h2) (jRo_of (by decide)) (Nat.le_of_ble_eq_true rfl) ⟨Nat.le_of_ble_eq_true rfl, Nat.le_of_ble_eq_true rfl⟩ rfl rfl rfl ?_
  refine J_ne0 (jat ok_X6_both 4 (pc := 6) (i := .ifCond .ne 5) (n := 3) rfl rfl) (tgt := 11) (by decide) (fun c => ?_) (fun c => ?_)
  · have h := (if_neg c).symm.trans h
    refine J_seg ok_X6_both 7 2 (pc' := 13) (ls' := [(0, .inr (.inr (.inl x0))), (1, .inl x1), (2, .inl x2)]) (st' := [.inl 1, .inr (.inr (.inl x0))]) rfl ?_
    by_cases c6 : qO q1.2 x0 6 = true
    case neg => exact absurd ((if_neg c6).symm.trans h) (by simp)
    have h := (if_pos c6).symm.trans h
    obtain ⟨q4, h5, h⟩ := Option.bind_eq_some_iff.mp h
    refine J_callV (md' := md_X6_layMaps) (As := [.inl 1]) (st := []) (cs' := (0, 0)) (st' := []) (jat ok_X6_both 9 (pc := 13) (i := .invokevirtual 253) (n := 3) rfl rfl) ml_RX6_253 yv_X6_layMaps c6 (c_X6_layMaps l g (d + 0) h5) (jRo_of (by decide)) (Nat.le_of_ble_eq_true rfl) ⟨Nat.le_of_ble_eq_true rfl, Nat.le_of_ble_eq_true rfl⟩ rfl rfl rfl ?_
    refine J_seg ok_X6_both 10 1 (pc' := 17) (ls' := [(0, .inr (.inr (.inl x0))), (1, .inl x1), (2, .inl x2)]) (st' := [.inr (.inr (.inl x0))]) rfl ?_
    obtain ⟨v7, h8, h⟩ := Option.bind_eq_some_iff.mp h
    refine J_getI (jat ok_X6_both 11 (pc := 17) (i := .getfield 247) (n := 3) rfl rfl) fl_RX6_247 h8 ?_
    refine J_ne0 (jat ok_X6_both 12 (pc := 20) (i := .ifCond .ne 9) (n := 3) rfl rfl) (tgt := 29) (by decide) (fun c => ?_) (fun c => ?_)
    · have h := (if_neg c).symm.trans h
      refine J_seg ok_X6_both 17 4 (pc' := 34) (ls' := [(4, .inl 0), (3, .inl 0), (0, .inr (.inr (.inl x0))), (1, .inl x1), (2, .inl x2)]) (st' := []) rfl ?_
      obtain ⟨q23, h24, h⟩ := Option.bind_eq_some_iff.mp h
      refine J_sub (ls' := [(0, .inr (.inr (.inl x0))), (1, .inl x1), (2, .inl x2), (3, .inl 0), (4, .inl 0)]) [2, 3, 4, 1, 0] rfl ?_
      refine J_loop (pE := 87) (lh := fun t26 => [(0, .inr (.inr (.inl x0))), (1, .inl x1), (2, .inl x2), (3, .inl t26.1), (4, .inl t26.2)]) (lx := fun z25 => [(0, .inr (.inr (.inl x0))), (3, .inl z25)]) (P := jRetN) (fun s ah out hb hR hX hN => k_X6_both_b34 d s ah out hb hR hX hN) jfuel (0, 0) _ _ h24 (fun r e => ?_) (fun z25 e => ?_)
      · subst e
        dsimp only at h
        cases h
      · subst e
        dsimp only at h
        refine J_seg ok_X6_both 49 4 (pc' := 91) (ls' := [(0, .inr (.inr (.inl x0))), (3, .inl z25.1)]) (st' := [.inr (.inr (.inl x0)), .inr (.inl (Int32.toInt64 z25.1)), .inr (.inr (.inl x0))]) rfl ?_
        obtain ⟨v27, h28, h⟩ := Option.bind_eq_some_iff.mp h
        refine J_getI (jat ok_X6_both 53 (pc := 91) (i := .getfield 247) (n := 3) rfl rfl) fl_RX6_247 h28 ?_
        refine J_seg ok_X6_both 54 1 (pc' := 95) (ls' := [(0, .inr (.inr (.inl x0))), (3, .inl z25.1)]) (st' := [.inr (.inl (Int32.toInt64 v27)), .inr (.inl (Int32.toInt64 z25.1)), .inr (.inr (.inl x0))]) rfl ?_
        by_cases c31 : qO z25.2 x0 6 = true
        case neg => exact absurd ((if_neg c31).symm.trans h) (by simp)
        have h := (if_pos c31).symm.trans h
        obtain ⟨q29, h30, h⟩ := Option.bind_eq_some_iff.mp h
        refine J_callV (md' := md_X6_tellParts) (As := [.inr (.inl (Int32.toInt64 z25.1)), .inr (.inl (Int32.toInt64 v27))]) (st := []) (cs' := (0, 0)) (st' := [.inl q29.1]) (jat ok_X6_both 55 (pc := 95) (i := .invokevirtual 263) (n := 3) rfl rfl) ml_RX6_263 yv_X6_tellParts c31 (c_X6_tellParts l g (d + 2) h30) (jRo_of (by decide)) (Nat.le_of_ble_eq_true rfl) ⟨Nat.le_of_ble_eq_true rfl, Nat.le_of_ble_eq_true rfl⟩ rfl rfl rfl ?_
        have h := Option.some.inj h
        subst h
        exact hR _ _ (jat ok_X6_both 56 (pc := 98) (i := .ireturn) (n := 1) rfl rfl)
    · have h := (if_pos c).symm.trans h
      refine J_seg ok_X6_both 13 2 (pc' := 25) (ls' := [(0, .inr (.inr (.inl x0))), (1, .inl x1), (2, .inl x2)]) (st' := [.inl 4, .inr (.inr (.inl x0))]) rfl ?_
      by_cases c34 : qO q4.2 x0 6 = true
      case neg => exact absurd ((if_neg c34).symm.trans h) (by simp)
      have h := (if_pos c34).symm.trans h
      obtain ⟨q32, h33, h⟩ := Option.bind_eq_some_iff.mp h
      refine J_callV (md' := md_X6_find) (As := [.inl 4]) (st := []) (cs' := (0, 0)) (st' := [.inl q32.1]) (jat ok_X6_both 15 (pc := 25) (i := .invokevirtual 81) (n := 3) rfl rfl) ml_RX6_81 yv_X6_find c34 (c_X6_find l g (d + 2) h33) (jRo_of (by decide)) (Nat.le_of_ble_eq_true rfl) ⟨Nat.le_of_ble_eq_true rfl, Nat.le_of_ble_eq_true rfl⟩ rfl rfl rfl ?_
      have h := Option.some.inj h
      subst h
      exact hR _ _ (jat ok_X6_both 16 (pc := 28) (i := .ireturn) (n := 1) rfl rfl)
  · have h := (if_pos c).symm.trans h
    refine J_seg ok_X6_both 5 1 (pc' := 10) (ls' := [(0, .inr (.inr (.inl x0))), (1, .inl x1), (2, .inl x2)]) (st' := [.inl (-1)]) rfl ?_
    have h := Option.some.inj h
    subst h
    exact hR _ _ (jat ok_X6_both 6 (pc := 10) (i := .ireturn) (n := 1) rfl rfl)
theorem c_X6_both (l : Launch) (g : GX) (d : Nat) {x0 : Option Nat} {x1 : Int32} {x2 : Int32} {ah : AH} {q : Int32 × AH} (h : f_X6_both x0 x1 x2 ah = some q) : jM l g (d + 3) md_X6_both [.inr (.inr (.inl x0)), .inl x1, .inl x2] ah (some (.inl q.1)) q.2 :=
  jM_of (by decide) (Nat.le_of_ble_eq_true rfl) (k_X6_both d ah q h (fun pc ls hd => J_reti hd rfl (jPV_int _) rfl (Nat.le_refl _) rfl rfl))
def f_X6_victimsOf_b5 (k0 : Option Nat) (k1 : Int32) (k2 : Int32) (s5 : Int32 × Int32) (ah : AH) : Option ((Unit × AH) ⊕ (((Int32) × AH) ⊕ ((Int32 × Int32) × AH))) :=
  (gI ah k0 6 1).bind fun v1 => if v1 ≤ s5.2 then (some (.inr (.inl (s5.1, ah)))) else ((f_X6_has k2 s5.2 ah).bind fun q3 => if q3.1 = 0 then (some (.inr (.inr ((s5.1 ||| 0, s5.2 + 1), q3.2)))) else ((f_X6_of k1 s5.2 q3.2).bind fun q5 => some (.inr (.inr ((s5.1 ||| (1 <<< (q5.1 &&& 31)), s5.2 + 1), q5.2)))))
set_option maxRecDepth 100000 in
set_option maxHeartbeats 4000000 in
theorem k_X6_victimsOf_b5 {l : Launch} {g : GX} (d : Nat) {Q : jQ} {k0 : Option Nat} {k1 : Int32} {k2 : Int32} (s5 : Int32 × Int32) (ah : AH) (out : (Unit × AH) ⊕ (((Int32) × AH) ⊕ ((Int32 × Int32) × AH))) (h : f_X6_victimsOf_b5 k0 k1 k2 s5 ah = some out) (hR : ∀ q, out = .inl q → jRetN q.1 q.2) (hX : ∀ q, out = .inr (.inl q) → J l g md_X6_victimsOf (jRm (d + 1) md_X6_victimsOf) Q 44 [(3, .inl q.1)] [] q.2 (0, 0)) (hN : ∀ q, out = .inr (.inr q) → J l g md_X6_victimsOf (jRm (d + 1) md_X6_victimsOf) Q 5 [(0, .inr (.inr (.inl k0))), (1, .inl k1), (2, .inl k2), (3, .inl q.1.1), (4, .inl q.1.2)] [] q.2 (0, 0)) : J l g md_X6_victimsOf (jRm (d + 1) md_X6_victimsOf) Q 5 [(0, .inr (.inr (.inl k0))), (1, .inl k1), (2, .inl k2), (3, .inl s5.1), (4, .inl s5.2)] [] ah (0, 0) := by
  unfold f_X6_victimsOf_b5 at h
  refine J_seg ok_X6_victimsOf 4 2 (pc' := 8) (ls' := [(0, .inr (.inr (.inl k0))), (1, .inl k1), (2, .inl k2), (3, .inl s5.1), (4, .inl s5.2)]) (st' := [.inr (.inr (.inl k0)), .inl s5.2]) rfl ?_
  obtain ⟨v1, h2, h⟩ := Option.bind_eq_some_iff.mp h
  refine J_getI (jat ok_X6_victimsOf 6 (pc := 8) (i := .getfield 148) (n := 3) rfl rfl) fl_RX6_148 h2 ?_
  refine J_ge (jat ok_X6_victimsOf 7 (pc := 11) (i := .if_icmp .ge 33) (n := 3) rfl rfl) (tgt := 44) (by decide) (fun c => ?_) (fun c => ?_)
  · have h := (if_pos c).symm.trans h
    exact J_sub (ls' := [(3, .inl s5.1)]) [3] rfl (hX (s5.1, ah) (Option.some.inj h).symm)
  · have h := (if_neg c).symm.trans h
    refine J_seg ok_X6_victimsOf 8 3 (pc' := 18) (ls' := [(0, .inr (.inr (.inl k0))), (1, .inl k1), (2, .inl k2), (3, .inl s5.1), (4, .inl s5.2)]) (st' := [.inl s5.2, .inl k2, .inl s5.1]) rfl ?_
    obtain ⟨q3, h4, h⟩ := Option.bind_eq_some_iff.mp h
    refine J_callS (md' := md_X6_has) (As := [.inl k2, .inl s5.2]) (st := [.inl s5.1]) (cs' := (0, 0)) (st' := [.inl q3.1, .inl s5.1]) (jat ok_X6_victimsOf 11 (pc := 18) (i := .invokestatic 128) (n := 3) rfl rfl) (Or.inl ml_RX6_128) ys_X6_has (c_X6_has l g (d + 0) h4) (jRo_of (by decide)) (Nat.le_of_ble_eq_true rfl) ⟨Nat.le_of_ble_eq_true rfl, Nat.le_of_ble_eq_true rfl⟩ rfl rfl rfl ?_
    refine J_eq0 (jat ok_X6_victimsOf 12 (pc := 21) (i := .ifCond .eq 14) (n := 3) rfl rfl) (tgt := 35) (by decide) (fun c => ?_) (fun c => ?_)
    · have h := (if_pos c).symm.trans h
      refine J_seg ok_X6_victimsOf 19 5 (pc' := 5) (ls' := [(4, .inl (s5.2 + 1)), (3, .inl (s5.1 ||| 0)), (0, .inr (.inr (.inl k0))), (1, .inl k1), (2, .inl k2)]) (st' := []) rfl ?_
      exact J_sub (ls' := [(0, .inr (.inr (.inl k0))), (1, .inl k1), (2, .inl k2), (3, .inl (s5.1 ||| 0)), (4, .inl (s5.2 + 1))]) [2, 3, 4, 1, 0] rfl (hN ((s5.1 ||| 0, s5.2 + 1), q3.2) (Option.some.inj h).symm)
    · have h := (if_neg c).symm.trans h
      refine J_seg ok_X6_victimsOf 13 3 (pc' := 28) (ls' := [(0, .inr (.inr (.inl k0))), (1, .inl k1), (2, .inl k2), (3, .inl s5.1), (4, .inl s5.2)]) (st' := [.inl s5.2, .inl k1, .inl 1, .inl s5.1]) rfl ?_
      obtain ⟨q5, h6, h⟩ := Option.bind_eq_some_iff.mp h
      refine J_callS (md' := md_X6_of) (As := [.inl k1, .inl s5.2]) (st := [.inl 1, .inl s5.1]) (cs' := (0, 0)) (st' := [.inl q5.1, .inl 1, .inl s5.1]) (jat ok_X6_victimsOf 16 (pc := 28) (i := .invokestatic 260) (n := 3) rfl rfl) (Or.inl ml_RX6_260) ys_X6_of (c_X6_of l g (d + 0) h6) (jRo_of (by decide)) (Nat.le_of_ble_eq_true rfl) ⟨Nat.le_of_ble_eq_true rfl, Nat.le_of_ble_eq_true rfl⟩ rfl rfl rfl ?_
      refine J_seg ok_X6_victimsOf 17 2 (pc' := 36) (ls' := [(0, .inr (.inr (.inl k0))), (1, .inl k1), (2, .inl k2), (3, .inl s5.1), (4, .inl s5.2)]) (st' := [.inl (1 <<< (q5.1 &&& 31)), .inl s5.1]) rfl ?_
      refine J_seg ok_X6_victimsOf 20 4 (pc' := 5) (ls' := [(4, .inl (s5.2 + 1)), (3, .inl (s5.1 ||| (1 <<< (q5.1 &&& 31)))), (0, .inr (.inr (.inl k0))), (1, .inl k1), (2, .inl k2)]) (st' := []) rfl ?_
      exact J_sub (ls' := [(0, .inr (.inr (.inl k0))), (1, .inl k1), (2, .inl k2), (3, .inl (s5.1 ||| (1 <<< (q5.1 &&& 31)))), (4, .inl (s5.2 + 1))]) [2, 3, 4, 1, 0] rfl (hN ((s5.1 ||| (1 <<< (q5.1 &&& 31)), s5.2 + 1), q5.2) (Option.some.inj h).symm)
def f_X6_victimsOf (x0 : Option Nat) (x1 : Int32) (x2 : Int32) (ah : AH) : Option (Int32 × AH) :=
  (jloop (f_X6_victimsOf_b5 x0 x1 x2) jfuel (0, 0) ah).bind fun q7 => match q7 with | .inl r => none | .inr z9 => some (z9.1, z9.2)
set_option maxRecDepth 100000 in
set_option maxHeartbeats 4000000 in
theorem k_X6_victimsOf {l : Launch} {g : GX} (d : Nat) {Q : jQ} {x0 : Option Nat} {x1 : Int32} {x2 : Int32} (ah : AH) (out : Int32 × AH) (h : f_X6_victimsOf x0 x1 x2 ah = some out) (hR : jRetI l g md_X6_victimsOf (jRm (d + 1) md_X6_victimsOf) Q (0, 0) out.1 out.2) : J l g md_X6_victimsOf (jRm (d + 1) md_X6_victimsOf) Q 0 [(0, .inr (.inr (.inl x0))), (1, .inl x1), (2, .inl x2)] [] ah (0, 0) := by
  unfold f_X6_victimsOf at h
  refine J_seg ok_X6_victimsOf 0 4 (pc' := 5) (ls' := [(4, .inl 0), (3, .inl 0), (0, .inr (.inr (.inl x0))), (1, .inl x1), (2, .inl x2)]) (st' := []) rfl ?_
  obtain ⟨q7, h8, h⟩ := Option.bind_eq_some_iff.mp h
  refine J_sub (ls' := [(0, .inr (.inr (.inl x0))), (1, .inl x1), (2, .inl x2), (3, .inl 0), (4, .inl 0)]) [2, 3, 4, 1, 0] rfl ?_
  refine J_loop (pE := 44) (lh := fun t10 => [(0, .inr (.inr (.inl x0))), (1, .inl x1), (2, .inl x2), (3, .inl t10.1), (4, .inl t10.2)]) (lx := fun z9 => [(3, .inl z9)]) (P := jRetN) (fun s ah out hb hR hX hN => k_X6_victimsOf_b5 d s ah out hb hR hX hN) jfuel (0, 0) _ _ h8 (fun r e => ?_) (fun z9 e => ?_)
  · subst e
    dsimp only at h
    cases h
  · subst e
    dsimp only at h
    refine J_seg ok_X6_victimsOf 24 1 (pc' := 45) (ls' := [(3, .inl z9.1)]) (st' := [.inl z9.1]) rfl ?_
    have h := Option.some.inj h
    subst h
    exact hR _ _ (jat ok_X6_victimsOf 25 (pc := 45) (i := .ireturn) (n := 1) rfl rfl)
theorem c_X6_victimsOf (l : Launch) (g : GX) (d : Nat) {x0 : Option Nat} {x1 : Int32} {x2 : Int32} {ah : AH} {q : Int32 × AH} (h : f_X6_victimsOf x0 x1 x2 ah = some q) : jM l g (d + 1) md_X6_victimsOf [.inr (.inr (.inl x0)), .inl x1, .inl x2] ah (some (.inl q.1)) q.2 :=
  jM_of (by decide) (Nat.le_of_ble_eq_true rfl) (k_X6_victimsOf d ah q h (fun pc ls hd => J_reti hd rfl (jPV_int _) rfl (Nat.le_refl _) rfl rfl))
def f_X6_layFits_b46 (k0 : Option Nat) (k1 : Int32) (s46 : Int32 × Int32) (ah : AH) : Option ((Unit × AH) ⊕ (((Int32) × AH) ⊕ ((Int32 × Int32) × AH))) :=
  (gR ah k0 6 7).bind fun v11 => (gA ah v11 k1).bind fun v13 => if v13 ≤ s46.2 then (some (.inr (.inl (s46.1, ah)))) else (if s46.1 = 0 then (some (.inr (.inr ((0, s46.2 + 1), ah)))) else ((gR ah k0 6 8).bind fun v15 => (gA ah v15 ((40 * k1) + s46.2)).bind fun v17 => (gI ah k0 6 1).bind fun v19 => (f_X6_in (Int32.toInt64 v17) 0 (Int32.toInt64 ((1 <<< (v19 &&& 31)) - 1)) ah).bind fun q21 => if q21.1 = 0 then (some (.inr (.inr ((0, s46.2 + 1), q21.2)))) else (some (.inr (.inr ((1, s46.2 + 1), q21.2))))))
set_option maxRecDepth 100000 in
set_option maxHeartbeats 4000000 in
theorem k_X6_layFits_b46 {l : Launch} {g : GX} (d : Nat) {Q : jQ} {k0 : Option Nat} {k1 : Int32} (s46 : Int32 × Int32) (ah : AH) (out : (Unit × AH) ⊕ (((Int32) × AH) ⊕ ((Int32 × Int32) × AH))) (h : f_X6_layFits_b46 k0 k1 s46 ah = some out) (hR : ∀ q, out = .inl q → jRetN q.1 q.2) (hX : ∀ q, out = .inr (.inl q) → J l g md_X6_layFits (jRm (d + 3) md_X6_layFits) Q 100 [(0, .inr (.inr (.inl k0))), (1, .inl k1), (2, .inl q.1)] [] q.2 (0, 0)) (hN : ∀ q, out = .inr (.inr q) → J l g md_X6_layFits (jRm (d + 3) md_X6_layFits) Q 46 [(0, .inr (.inr (.inl k0))), (1, .inl k1), (2, .inl q.1.1), (3, .inl q.1.2)] [] q.2 (0, 0)) : J l g md_X6_layFits (jRm (d + 3) md_X6_layFits) Q 46 [(0, .inr (.inr (.inl k0))), (1, .inl k1), (2, .inl s46.1), (3, .inl s46.2)] [] ah (0, 0) := by
  unfold f_X6_layFits_b46 at h
  refine J_seg ok_X6_layFits 29 2 (pc' := 48) (ls' := [(0, .inr (.inr (.inl k0))), (1, .inl k1), (2, .inl s46.1), (3, .inl s46.2)]) (st' := [.inr (.inr (.inl k0)), .inl s46.2]) rfl ?_
  obtain ⟨v11, h12, h⟩ := Option.bind_eq_some_iff.mp h
  refine J_getR (jat ok_X6_layFits 31 (pc := 48) (i := .getfield 25) (n := 3) rfl rfl) fl_RX6_25 h12 ?_
  refine J_seg ok_X6_layFits 32 1 (pc' := 52) (ls' := [(0, .inr (.inr (.inl k0))), (1, .inl k1), (2, .inl s46.1), (3, .inl s46.2)]) (st' := [.inl k1, .inr (.inr (.inl v11)), .inl s46.2]) rfl ?_
  obtain ⟨v13, h14, h⟩ := Option.bind_eq_some_iff.mp h
  refine J_iald (jat ok_X6_layFits 33 (pc := 52) (i := .iaload) (n := 1) rfl rfl) h14 ?_
  refine J_ge (jat ok_X6_layFits 34 (pc := 53) (i := .if_icmp .ge 47) (n := 3) rfl rfl) (tgt := 100) (by decide) (fun c => ?_) (fun c => ?_)
  · have h := (if_pos c).symm.trans h
    exact J_sub (ls' := [(0, .inr (.inr (.inl k0))), (1, .inl k1), (2, .inl s46.1)]) [0, 1, 2] rfl (hX (s46.1, ah) (Option.some.inj h).symm)
  · have h := (if_neg c).symm.trans h
    refine J_seg ok_X6_layFits 35 1 (pc' := 57) (ls' := [(0, .inr (.inr (.inl k0))), (1, .inl k1), (2, .inl s46.1), (3, .inl s46.2)]) (st' := [.inl s46.1]) rfl ?_
    refine J_eq0 (jat ok_X6_layFits 36 (pc := 57) (i := .ifCond .eq 35) (n := 3) rfl rfl) (tgt := 92) (by decide) (fun c => ?_) (fun c => ?_)
    · have h := (if_pos c).symm.trans h
      refine J_seg ok_X6_layFits 58 4 (pc' := 46) (ls' := [(3, .inl (s46.2 + 1)), (2, .inl 0), (0, .inr (.inr (.inl k0))), (1, .inl k1)]) (st' := []) rfl ?_
      exact J_sub (ls' := [(0, .inr (.inr (.inl k0))), (1, .inl k1), (2, .inl 0), (3, .inl (s46.2 + 1))]) [2, 3, 1, 0] rfl (hN ((0, s46.2 + 1), ah) (Option.some.inj h).symm)
    · have h := (if_neg c).symm.trans h
      refine J_seg ok_X6_layFits 37 1 (pc' := 61) (ls' := [(0, .inr (.inr (.inl k0))), (1, .inl k1), (2, .inl s46.1), (3, .inl s46.2)]) (st' := [.inr (.inr (.inl k0))]) rfl ?_
      obtain ⟨v15, h16, h⟩ := Option.bind_eq_some_iff.mp h
      refine J_getR (jat ok_X6_layFits 38 (pc := 61) (i := .getfield 28) (n := 3) rfl rfl) fl_RX6_28 h16 ?_
      refine J_seg ok_X6_layFits 39 5 (pc' := 70) (ls' := [(0, .inr (.inr (.inl k0))), (1, .inl k1), (2, .inl s46.1), (3, .inl s46.2)]) (st' := [.inl ((40 * k1) + s46.2), .inr (.inr (.inl v15))]) rfl ?_
      obtain ⟨v17, h18, h⟩ := Option.bind_eq_some_iff.mp h
      refine J_iald (jat ok_X6_layFits 44 (pc := 70) (i := .iaload) (n := 1) rfl rfl) h18 ?_
      refine J_seg ok_X6_layFits 45 4 (pc' := 75) (ls' := [(0, .inr (.inr (.inl k0))), (1, .inl k1), (2, .inl s46.1), (3, .inl s46.2)]) (st' := [.inr (.inr (.inl k0)), .inl 1, .inr (.inl 0), .inr (.inl (Int32.toInt64 v17))]) rfl ?_
      obtain ⟨v19, h20, h⟩ := Option.bind_eq_some_iff.mp h
      refine J_getI (jat ok_X6_layFits 49 (pc := 75) (i := .getfield 148) (n := 3) rfl rfl) fl_RX6_148 h20 ?_
      refine J_seg ok_X6_layFits 50 4 (pc' := 82) (ls' := [(0, .inr (.inr (.inl k0))), (1, .inl k1), (2, .inl s46.1), (3, .inl s46.2)]) (st' := [.inr (.inl (Int32.toInt64 ((1 <<< (v19 &&& 31)) - 1))), .inr (.inl 0), .inr (.inl (Int32.toInt64 v17))]) rfl ?_
      obtain ⟨q21, h22, h⟩ := Option.bind_eq_some_iff.mp h
      refine J_callS (md' := md_X6_in) (As := [.inr (.inl (Int32.toInt64 v17)), .inr (.inl 0), .inr (.inl (Int32.toInt64 ((1 <<< (v19 &&& 31)) - 1)))]) (st := []) (cs' := (0, 0)) (st' := [.inl q21.1]) (jat ok_X6_layFits 54 (pc := 82) (i := .invokestatic 71) (n := 3) rfl rfl) (Or.inl ml_RX6_71) ys_X6_in (c_X6_in l g (d + 2) h22) (jRo_of (by decide)) (Nat.le_of_ble_eq_true rfl) ⟨Nat.le_of_ble_eq_true rfl, Nat.le_of_ble_eq_true rfl⟩ rfl rfl rfl ?_
      refine J_eq0 (jat ok_X6_layFits 55 (pc := 85) (i := .ifCond .eq 7) (n := 3) rfl rfl) (tgt := 92) (by decide) (fun c => ?_) (fun c => ?_)
      · have h := (if_pos c).symm.trans h
        refine J_seg ok_X6_layFits 58 4 (pc' := 46) (ls' := [(3, .inl (s46.2 + 1)), (2, .inl 0), (0, .inr (.inr (.inl k0))), (1, .inl k1)]) (st' := []) rfl ?_
        exact J_sub (ls' := [(0, .inr (.inr (.inl k0))), (1, .inl k1), (2, .inl 0), (3, .inl (s46.2 + 1))]) [2, 3, 1, 0] rfl (hN ((0, s46.2 + 1), q21.2) (Option.some.inj h).symm)
      · have h := (if_neg c).symm.trans h
        refine J_seg ok_X6_layFits 56 2 (pc' := 93) (ls' := [(0, .inr (.inr (.inl k0))), (1, .inl k1), (2, .inl s46.1), (3, .inl s46.2)]) (st' := [.inl 1]) rfl ?_
        refine J_seg ok_X6_layFits 59 3 (pc' := 46) (ls' := [(3, .inl (s46.2 + 1)), (2, .inl 1), (0, .inr (.inr (.inl k0))), (1, .inl k1)]) (st' := []) rfl ?_
        exact J_sub (ls' := [(0, .inr (.inr (.inl k0))), (1, .inl k1), (2, .inl 1), (3, .inl (s46.2 + 1))]) [2, 3, 1, 0] rfl (hN ((1, s46.2 + 1), q21.2) (Option.some.inj h).symm)
def f_X6_layFits_b135 (k0 : Option Nat) (k1 : Int32) (k3 : Int32) (k4 : Int32) (s135 : Int32 × Int32) (ah : AH) : Option ((Unit × AH) ⊕ (((Int32) × AH) ⊕ ((Int32 × Int32) × AH))) :=
  (gR ah k0 6 7).bind fun v32 => (gA ah v32 k1).bind fun v34 => if v34 ≤ s135.2 then (some (.inr (.inl (s135.1, ah)))) else (if s135.1 = 0 then (some (.inr (.inr ((0, s135.2 + 2), ah)))) else ((gR ah k0 6 25).bind fun v36 => (gA ah v36 k4).bind fun v38 => (gR ah k0 6 8).bind fun v40 => (gA ah v40 ((40 * k1) + s135.2)).bind fun v42 => if qO ah k0 6 = true then ((f_X6_victimsOf k0 v38 v42 ah).bind fun q44 => (gR q44.2 k0 6 8).bind fun v47 => (gA q44.2 v47 (((40 * k1) + s135.2) + 1)).bind fun v49 => if q44.1 = v49 then (some (.inr (.inr ((1, s135.2 + 2), q44.2)))) else (some (.inr (.inr ((0, s135.2 + 2), q44.2))))) else none))
set_option maxRecDepth 100000 in
set_option maxHeartbeats 4000000 in
theorem k_X6_layFits_b135 {l : Launch} {g : GX} (d : Nat) {Q : jQ} {k0 : Option Nat} {k1 : Int32} {k3 : Int32} {k4 : Int32} (s135 : Int32 × Int32) (ah : AH) (out : (Unit × AH) ⊕ (((Int32) × AH) ⊕ ((Int32 × Int32) × AH))) (h : f_X6_layFits_b135 k0 k1 k3 k4 s135 ah = some out) (hR : ∀ q, out = .inl q → jRetN q.1 q.2) (hX : ∀ q, out = .inr (.inl q) → J l g md_X6_layFits (jRm (d + 3) md_X6_layFits) Q 204 [(0, .inr (.inr (.inl k0))), (1, .inl k1), (3, .inl k3), (4, .inl k4), (5, .inl q.1)] [] q.2 (0, 0)) (hN : ∀ q, out = .inr (.inr q) → J l g md_X6_layFits (jRm (d + 3) md_X6_layFits) Q 135 [(0, .inr (.inr (.inl k0))), (1, .inl k1), (3, .inl k3), (4, .inl k4), (5, .inl q.1.1), (6, .inl q.1.2)] [] q.2 (0, 0)) : J l g md_X6_layFits (jRm (d + 3) md_X6_layFits) Q 135 [(0, .inr (.inr (.inl k0))), (1, .inl k1), (3, .inl k3), (4, .inl k4), (5, .inl s135.1), (6, .inl s135.2)] [] ah (0, 0) := by
  unfold f_X6_layFits_b135 at h
  refine J_seg ok_X6_layFits 83 2 (pc' := 138) (ls' := [(0, .inr (.inr (.inl k0))), (1, .inl k1), (3, .inl k3), (4, .inl k4), (5, .inl s135.1), (6, .inl s135.2)]) (st' := [.inr (.inr (.inl k0)), .inl s135.2]) rfl ?_
  obtain ⟨v32, h33, h⟩ := Option.bind_eq_some_iff.mp h
  refine J_getR (jat ok_X6_layFits 85 (pc := 138) (i := .getfield 25) (n := 3) rfl rfl) fl_RX6_25 h33 ?_
  refine J_seg ok_X6_layFits 86 1 (pc' := 142) (ls' := [(0, .inr (.inr (.inl k0))), (1, .inl k1), (3, .inl k3), (4, .inl k4), (5, .inl s135.1), (6, .inl s135.2)]) (st' := [.inl k1, .inr (.inr (.inl v32)), .inl s135.2]) rfl ?_
  obtain ⟨v34, h35, h⟩ := Option.bind_eq_some_iff.mp h
  refine J_iald (jat ok_X6_layFits 87 (pc := 142) (i := .iaload) (n := 1) rfl rfl) h35 ?_
  refine J_ge (jat ok_X6_layFits 88 (pc := 143) (i := .if_icmp .ge 61) (n := 3) rfl rfl) (tgt := 204) (by decide) (fun c => ?_) (fun c => ?_)
  · have h := (if_pos c).symm.trans h
    exact J_sub (ls' := [(0, .inr (.inr (.inl k0))), (1, .inl k1), (3, .inl k3), (4, .inl k4), (5, .inl s135.1)]) [0, 1, 2, 3, 4] rfl (hX (s135.1, ah) (Option.some.inj h).symm)
  · have h := (if_neg c).symm.trans h
    refine J_seg ok_X6_layFits 89 1 (pc' := 148) (ls' := [(0, .inr (.inr (.inl k0))), (1, .inl k1), (3, .inl k3), (4, .inl k4), (5, .inl s135.1), (6, .inl s135.2)]) (st' := [.inl s135.1]) rfl ?_
    refine J_eq0 (jat ok_X6_layFits 90 (pc := 148) (i := .ifCond .eq 47) (n := 3) rfl rfl) (tgt := 195) (by decide) (fun c => ?_) (fun c => ?_)
    · have h := (if_pos c).symm.trans h
      refine J_seg ok_X6_layFits 118 4 (pc' := 135) (ls' := [(6, .inl (s135.2 + 2)), (5, .inl 0), (0, .inr (.inr (.inl k0))), (1, .inl k1), (3, .inl k3), (4, .inl k4)]) (st' := []) rfl ?_
      exact J_sub (ls' := [(0, .inr (.inr (.inl k0))), (1, .inl k1), (3, .inl k3), (4, .inl k4), (5, .inl 0), (6, .inl (s135.2 + 2))]) [2, 3, 4, 5, 1, 0] rfl (hN ((0, s135.2 + 2), ah) (Option.some.inj h).symm)
    · have h := (if_neg c).symm.trans h
      refine J_seg ok_X6_layFits 91 2 (pc' := 153) (ls' := [(0, .inr (.inr (.inl k0))), (1, .inl k1), (3, .inl k3), (4, .inl k4), (5, .inl s135.1), (6, .inl s135.2)]) (st' := [.inr (.inr (.inl k0)), .inr (.inr (.inl k0))]) rfl ?_
      obtain ⟨v36, h37, h⟩ := Option.bind_eq_some_iff.mp h
      refine J_getR (jat ok_X6_layFits 93 (pc := 153) (i := .getfield 56) (n := 3) rfl rfl) fl_RX6_56 h37 ?_
      refine J_seg ok_X6_layFits 94 1 (pc' := 158) (ls' := [(0, .inr (.inr (.inl k0))), (1, .inl k1), (3, .inl k3), (4, .inl k4), (5, .inl s135.1), (6, .inl s135.2)]) (st' := [.inl k4, .inr (.inr (.inl v36)), .inr (.inr (.inl k0))]) rfl ?_
      obtain ⟨v38, h39, h⟩ := Option.bind_eq_some_iff.mp h
      refine J_iald (jat ok_X6_layFits 95 (pc := 158) (i := .iaload) (n := 1) rfl rfl) h39 ?_
      refine J_seg ok_X6_layFits 96 1 (pc' := 160) (ls' := [(0, .inr (.inr (.inl k0))), (1, .inl k1), (3, .inl k3), (4, .inl k4), (5, .inl s135.1), (6, .inl s135.2)]) (st' := [.inr (.inr (.inl k0)), .inl v38, .inr (.inr (.inl k0))]) rfl ?_
      obtain ⟨v40, h41, h⟩ := Option.bind_eq_some_iff.mp h
      refine J_getR (jat ok_X6_layFits 97 (pc := 160) (i := .getfield 28) (n := 3) rfl rfl) fl_RX6_28 h41 ?_
      refine J_seg ok_X6_layFits 98 5 (pc' := 170) (ls' := [(0, .inr (.inr (.inl k0))), (1, .inl k1), (3, .inl k3), (4, .inl k4), (5, .inl s135.1), (6, .inl s135.2)]) (st' := [.inl ((40 * k1) + s135.2), .inr (.inr (.inl v40)), .inl v38, .inr (.inr (.inl k0))]) rfl ?_
      obtain ⟨v42, h43, h⟩ := Option.bind_eq_some_iff.mp h
      refine J_iald (jat ok_X6_layFits 103 (pc := 170) (i := .iaload) (n := 1) rfl rfl) h43 ?_
      by_cases c46 : qO ah k0 6 = true
      case neg => exact absurd ((if_neg c46).symm.trans h) (by simp)
      have h := (if_pos c46).symm.trans h
      obtain ⟨q44, h45, h⟩ := Option.bind_eq_some_iff.mp h
      refine J_callV (md' := md_X6_victimsOf) (As := [.inl v38, .inl v42]) (st := []) (cs' := (0, 0)) (st' := [.inl q44.1]) (jat ok_X6_layFits 104 (pc := 171) (i := .invokevirtual 267) (n := 3) rfl rfl) ml_RX6_267 yv_X6_victimsOf c46 (c_X6_victimsOf l g (d + 1) h45) (jRo_of (by decide)) (Nat.le_of_ble_eq_true rfl) ⟨Nat.le_of_ble_eq_true rfl, Nat.le_of_ble_eq_true rfl⟩ rfl rfl rfl ?_
      refine J_seg ok_X6_layFits 105 1 (pc' := 175) (ls' := [(0, .inr (.inr (.inl k0))), (1, .inl k1), (3, .inl k3), (4, .inl k4), (5, .inl s135.1), (6, .inl s135.2)]) (st' := [.inr (.inr (.inl k0)), .inl q44.1]) rfl ?_
      obtain ⟨v47, h48, h⟩ := Option.bind_eq_some_iff.mp h
      refine J_getR (jat ok_X6_layFits 106 (pc := 175) (i := .getfield 28) (n := 3) rfl rfl) fl_RX6_28 h48 ?_
      refine J_seg ok_X6_layFits 107 7 (pc' := 187) (ls' := [(0, .inr (.inr (.inl k0))), (1, .inl k1), (3, .inl k3), (4, .inl k4), (5, .inl s135.1), (6, .inl s135.2)]) (st' := [.inl (((40 * k1) + s135.2) + 1), .inr (.inr (.inl v47)), .inl q44.1]) rfl ?_
      obtain ⟨v49, h50, h⟩ := Option.bind_eq_some_iff.mp h
      refine J_iald (jat ok_X6_layFits 114 (pc := 187) (i := .iaload) (n := 1) rfl rfl) h50 ?_
      refine J_ne (jat ok_X6_layFits 115 (pc := 188) (i := .if_icmp .ne 7) (n := 3) rfl rfl) (tgt := 195) (by decide) (fun c => ?_) (fun c => ?_)
      · have h := (if_neg c).symm.trans h
        refine J_seg ok_X6_layFits 118 4 (pc' := 135) (ls' := [(6, .inl (s135.2 + 2)), (5, .inl 0), (0, .inr (.inr (.inl k0))), (1, .inl k1), (3, .inl k3), (4, .inl k4)]) (st' := []) rfl ?_
        exact J_sub (ls' := [(0, .inr (.inr (.inl k0))), (1, .inl k1), (3, .inl k3), (4, .inl k4), (5, .inl 0), (6, .inl (s135.2 + 2))]) [2, 3, 4, 5, 1, 0] rfl (hN ((0, s135.2 + 2), q44.2) (Option.some.inj h).symm)
      · have h := (if_pos c).symm.trans h
        refine J_seg ok_X6_layFits 116 2 (pc' := 196) (ls' := [(0, .inr (.inr (.inl k0))), (1, .inl k1), (3, .inl k3), (4, .inl k4), (5, .inl s135.1), (6, .inl s135.2)]) (st' := [.inl 1]) rfl ?_
        refine J_seg ok_X6_layFits 119 3 (pc' := 135) (ls' := [(6, .inl (s135.2 + 2)), (5, .inl 1), (0, .inr (.inr (.inl k0))), (1, .inl k1), (3, .inl k3), (4, .inl k4)]) (st' := []) rfl ?_
        exact J_sub (ls' := [(0, .inr (.inr (.inl k0))), (1, .inl k1), (3, .inl k3), (4, .inl k4), (5, .inl 1), (6, .inl (s135.2 + 2))]) [2, 3, 4, 5, 1, 0] rfl (hN ((1, s135.2 + 2), q44.2) (Option.some.inj h).symm)
def f_X6_layFits_b120 (k0 : Option Nat) (k1 : Int32) (s120 : Int32 × Int32) (ah : AH) : Option ((Unit × AH) ⊕ (((Int32) × AH) ⊕ ((Int32 × Int32) × AH))) :=
  (gI ah k0 6 26).bind fun v30 => if v30 ≤ s120.2 then (some (.inr (.inl (s120.1, ah)))) else ((jloop (f_X6_layFits_b135 k0 k1 s120.1 s120.2) jfuel (1, 0) ah).bind fun q51 => match q51 with | .inl r => none | .inr z53 => (gR z53.2 k0 6 25).bind fun v55 => (gR z53.2 k0 6 25).bind fun v57 => (gA z53.2 v57 s120.2).bind fun v59 => (sA z53.2 v55 s120.1 v59).bind fun a61 => if z53.1 = 0 then (some (.inr (.inr ((s120.1 + 0, s120.2 + 1), a61)))) else (some (.inr (.inr ((s120.1 + 1, s120.2 + 1), a61)))))
set_option maxRecDepth 100000 in
set_option maxHeartbeats 4000000 in
theorem k_X6_layFits_b120 {l : Launch} {g : GX} (d : Nat) {Q : jQ} {k0 : Option Nat} {k1 : Int32} (s120 : Int32 × Int32) (ah : AH) (out : (Unit × AH) ⊕ (((Int32) × AH) ⊕ ((Int32 × Int32) × AH))) (h : f_X6_layFits_b120 k0 k1 s120 ah = some out) (hR : ∀ q, out = .inl q → jRetN q.1 q.2) (hX : ∀ q, out = .inr (.inl q) → J l g md_X6_layFits (jRm (d + 3) md_X6_layFits) Q 236 [(0, .inr (.inr (.inl k0))), (3, .inl q.1)] [] q.2 (0, 0)) (hN : ∀ q, out = .inr (.inr q) → J l g md_X6_layFits (jRm (d + 3) md_X6_layFits) Q 120 [(0, .inr (.inr (.inl k0))), (1, .inl k1), (3, .inl q.1.1), (4, .inl q.1.2)] [] q.2 (0, 0)) : J l g md_X6_layFits (jRm (d + 3) md_X6_layFits) Q 120 [(0, .inr (.inr (.inl k0))), (1, .inl k1), (3, .inl s120.1), (4, .inl s120.2)] [] ah (0, 0) := by
  unfold f_X6_layFits_b120 at h
  refine J_seg ok_X6_layFits 75 2 (pc' := 123) (ls' := [(0, .inr (.inr (.inl k0))), (1, .inl k1), (3, .inl s120.1), (4, .inl s120.2)]) (st' := [.inr (.inr (.inl k0)), .inl s120.2]) rfl ?_
  obtain ⟨v30, h31, h⟩ := Option.bind_eq_some_iff.mp h
  refine J_getI (jat ok_X6_layFits 77 (pc := 123) (i := .getfield 247) (n := 3) rfl rfl) fl_RX6_247 h31 ?_
  refine J_ge (jat ok_X6_layFits 78 (pc := 126) (i := .if_icmp .ge 110) (n := 3) rfl rfl) (tgt := 236) (by decide) (fun c => ?_) (fun c => ?_)
  · have h := (if_pos c).symm.trans h
    exact J_sub (ls' := [(0, .inr (.inr (.inl k0))), (3, .inl s120.1)]) [0, 2] rfl (hX (s120.1, ah) (Option.some.inj h).symm)
  · have h := (if_neg c).symm.trans h
    refine J_seg ok_X6_layFits 79 4 (pc' := 135) (ls' := [(6, .inl 0), (5, .inl 1), (0, .inr (.inr (.inl k0))), (1, .inl k1), (3, .inl s120.1), (4, .inl s120.2)]) (st' := []) rfl ?_
    obtain ⟨q51, h52, h⟩ := Option.bind_eq_some_iff.mp h
    refine J_sub (ls' := [(0, .inr (.inr (.inl k0))), (1, .inl k1), (3, .inl s120.1), (4, .inl s120.2), (5, .inl 1), (6, .inl 0)]) [2, 3, 4, 5, 1, 0] rfl ?_
    refine J_loop (pE := 204) (lh := fun t54 => [(0, .inr (.inr (.inl k0))), (1, .inl k1), (3, .inl s120.1), (4, .inl s120.2), (5, .inl t54.1), (6, .inl t54.2)]) (lx := fun z53 => [(0, .inr (.inr (.inl k0))), (1, .inl k1), (3, .inl s120.1), (4, .inl s120.2), (5, .inl z53)]) (P := jRetN) (fun s ah out hb hR hX hN => k_X6_layFits_b135 d s ah out hb hR hX hN) jfuel (1, 0) _ _ h52 (fun r e => ?_) (fun z53 e => ?_)
    · subst e
      dsimp only at h
      cases h
    · subst e
      dsimp only at h
      refine J_seg ok_X6_layFits 122 1 (pc' := 205) (ls' := [(0, .inr (.inr (.inl k0))), (1, .inl k1), (3, .inl s120.1), (4, .inl s120.2), (5, .inl z53.1)]) (st' := [.inr (.inr (.inl k0))]) rfl ?_
      obtain ⟨v55, h56, h⟩ := Option.bind_eq_some_iff.mp h
      refine J_getR (jat ok_X6_layFits 123 (pc := 205) (i := .getfield 56) (n := 3) rfl rfl) fl_RX6_56 h56 ?_
      refine J_seg ok_X6_layFits 124 2 (pc' := 210) (ls' := [(0, .inr (.inr (.inl k0))), (1, .inl k1), (3, .inl s120.1), (4, .inl s120.2), (5, .inl z53.1)]) (st' := [.inr (.inr (.inl k0)), .inl s120.1, .inr (.inr (.inl v55))]) rfl ?_
      obtain ⟨v57, h58, h⟩ := Option.bind_eq_some_iff.mp h
      refine J_getR (jat ok_X6_layFits 126 (pc := 210) (i := .getfield 56) (n := 3) rfl rfl) fl_RX6_56 h58 ?_
      refine J_seg ok_X6_layFits 127 1 (pc' := 215) (ls' := [(0, .inr (.inr (.inl k0))), (1, .inl k1), (3, .inl s120.1), (4, .inl s120.2), (5, .inl z53.1)]) (st' := [.inl s120.2, .inr (.inr (.inl v57)), .inl s120.1, .inr (.inr (.inl v55))]) rfl ?_
      obtain ⟨v59, h60, h⟩ := Option.bind_eq_some_iff.mp h
      refine J_iald (jat ok_X6_layFits 128 (pc := 215) (i := .iaload) (n := 1) rfl rfl) h60 ?_
      obtain ⟨a61, h62, h⟩ := Option.bind_eq_some_iff.mp h
      refine J_iast (jat ok_X6_layFits 129 (pc := 216) (i := .iastore) (n := 1) rfl rfl) h62 ?_
      refine J_seg ok_X6_layFits 130 2 (pc' := 220) (ls' := [(0, .inr (.inr (.inl k0))), (1, .inl k1), (3, .inl s120.1), (4, .inl s120.2), (5, .inl z53.1)]) (st' := [.inl z53.1, .inl s120.1]) rfl ?_
      refine J_eq0 (jat ok_X6_layFits 132 (pc := 220) (i := .ifCond .eq 7) (n := 3) rfl rfl) (tgt := 227) (by decide) (fun c => ?_) (fun c => ?_)
      · have h := (if_pos c).symm.trans h
        refine J_seg ok_X6_layFits 135 5 (pc' := 120) (ls' := [(4, .inl (s120.2 + 1)), (3, .inl (s120.1 + 0)), (0, .inr (.inr (.inl k0))), (1, .inl k1), (5, .inl z53.1)]) (st' := []) rfl ?_
        exact J_sub (ls' := [(0, .inr (.inr (.inl k0))), (1, .inl k1), (3, .inl (s120.1 + 0)), (4, .inl (s120.2 + 1))]) [2, 3, 1, 0] rfl (hN ((s120.1 + 0, s120.2 + 1), a61) (Option.some.inj h).symm)
      · have h := (if_neg c).symm.trans h
        refine J_seg ok_X6_layFits 133 2 (pc' := 228) (ls' := [(0, .inr (.inr (.inl k0))), (1, .inl k1), (3, .inl s120.1), (4, .inl s120.2), (5, .inl z53.1)]) (st' := [.inl 1, .inl s120.1]) rfl ?_
        refine J_seg ok_X6_layFits 136 4 (pc' := 120) (ls' := [(4, .inl (s120.2 + 1)), (3, .inl (s120.1 + 1)), (0, .inr (.inr (.inl k0))), (1, .inl k1), (5, .inl z53.1)]) (st' := []) rfl ?_
        exact J_sub (ls' := [(0, .inr (.inr (.inl k0))), (1, .inl k1), (3, .inl (s120.1 + 1)), (4, .inl (s120.2 + 1))]) [2, 3, 1, 0] rfl (hN ((s120.1 + 1, s120.2 + 1), a61) (Option.some.inj h).symm)
def f_X6_layFits (x0 : Option Nat) (x1 : Int32) (ah : AH) : Option (Int32 × AH) :=
  (gI ah x0 6 1).bind fun v1 => if v1 = 0 then (some ((-4), ah)) else ((gR ah x0 6 7).bind fun v3 => (gA ah v3 x1).bind fun v5 => if 0 ≤ v5 then ((gR ah x0 6 7).bind fun v7 => (gA ah v7 x1).bind fun v9 => if (v9 - v9 / 2 * 2) = 0 then ((jloop (f_X6_layFits_b46 x0 x1) jfuel (1, 0) ah).bind fun q23 => match q23 with | .inl r => none | .inr z25 => if z25.1 = 0 then (if qO z25.2 x0 6 = true then ((f_X6_find x0 3 z25.2).bind fun q69 => some (q69.1, q69.2)) else none) else (if qO z25.2 x0 6 = true then ((f_X6_layMaps x0 0 z25.2).bind fun q27 => (jloop (f_X6_layFits_b120 x0 x1) jfuel (0, 0) q27.2).bind fun q63 => match q63 with | .inl r => none | .inr z65 => (sF z65.2 x0 6 26 (.inl z65.1)).bind fun a67 => some (0, a67)) else none)) else (if qO ah x0 6 = true then ((f_X6_find x0 5 ah).bind fun q72 => some (q72.1, q72.2)) else none)) else (if qO ah x0 6 = true then ((f_X6_find x0 1 ah).bind fun q75 => some (q75.1, q75.2)) else none))
set_option maxRecDepth 100000 in
set_option maxHeartbeats 4000000 in
theorem k_X6_layFits {l : Launch} {g : GX} (d : Nat) {Q : jQ} {x0 : Option Nat} {x1 : Int32} (ah : AH) (out : Int32 × AH) (h : f_X6_layFits x0 x1 ah = some out) (hR : jRetI l g md_X6_layFits (jRm (d + 3) md_X6_layFits) Q (0, 0) out.1 out.2) : J l g md_X6_layFits (jRm (d + 3) md_X6_layFits) Q 0 [(0, .inr (.inr (.inl x0))), (1, .inl x1)] [] ah (0, 0) := by
  unfold f_X6_layFits at h
  refine J_seg ok_X6_layFits 0 1 (pc' := 1) (ls' := [(0, .inr (.inr (.inl x0))), (1, .inl x1)]) (st' := [.inr (.inr (.inl x0))]) rfl ?_
  obtain ⟨v1, h2, h⟩ := Option.bind_eq_some_iff.mp h
  refine J_getI (jat ok_X6_layFits 1 (pc := 1) (i := .getfield 148) (n := 3) rfl rfl) fl_RX6_148 h2 ?_
  refine J_ne0 (jat ok_X6_layFits 2 (pc := 4) (i := .ifCond .ne 6) (n := 3) rfl rfl) (tgt := 10) (by decide) (fun c => ?_) (fun c => ?_)
  · have h := (if_neg c).symm.trans h
    refine J_seg ok_X6_layFits 5 1 (pc' := 11) (ls' := [(0, .inr (.inr (.inl x0))), (1, .inl x1)]) (st' := [.inr (.inr (.inl x0))]) rfl ?_
    obtain ⟨v3, h4, h⟩ := Option.bind_eq_some_iff.mp h
    refine J_getR (jat ok_X6_layFits 6 (pc := 11) (i := .getfield 25) (n := 3) rfl rfl) fl_RX6_25 h4 ?_
    refine J_seg ok_X6_layFits 7 1 (pc' := 15) (ls' := [(0, .inr (.inr (.inl x0))), (1, .inl x1)]) (st' := [.inl x1, .inr (.inr (.inl v3))]) rfl ?_
    obtain ⟨v5, h6, h⟩ := Option.bind_eq_some_iff.mp h
    refine J_iald (jat ok_X6_layFits 8 (pc := 15) (i := .iaload) (n := 1) rfl rfl) h6 ?_
    refine J_ge0 (jat ok_X6_layFits 9 (pc := 16) (i := .ifCond .ge 9) (n := 3) rfl rfl) (tgt := 25) (by decide) (fun c => ?_) (fun c => ?_)
    · have h := (if_pos c).symm.trans h
      refine J_seg ok_X6_layFits 14 1 (pc' := 26) (ls' := [(0, .inr (.inr (.inl x0))), (1, .inl x1)]) (st' := [.inr (.inr (.inl x0))]) rfl ?_
      obtain ⟨v7, h8, h⟩ := Option.bind_eq_some_iff.mp h
      refine J_getR (jat ok_X6_layFits 15 (pc := 26) (i := .getfield 25) (n := 3) rfl rfl) fl_RX6_25 h8 ?_
      refine J_seg ok_X6_layFits 16 1 (pc' := 30) (ls' := [(0, .inr (.inr (.inl x0))), (1, .inl x1)]) (st' := [.inl x1, .inr (.inr (.inl v7))]) rfl ?_
      obtain ⟨v9, h10, h⟩ := Option.bind_eq_some_iff.mp h
      refine J_iald (jat ok_X6_layFits 17 (pc := 30) (i := .iaload) (n := 1) rfl rfl) h10 ?_
      refine J_seg ok_X6_layFits 18 1 (pc' := 32) (ls' := [(0, .inr (.inr (.inl x0))), (1, .inl x1)]) (st' := [.inl 2, .inl v9]) rfl ?_
      refine J_irem (jat ok_X6_layFits 19 (pc := 32) (i := .irem) (n := 1) rfl rfl) (by decide) ?_
      refine J_eq0 (jat ok_X6_layFits 20 (pc := 33) (i := .ifCond .eq 9) (n := 3) rfl rfl) (tgt := 42) (by decide) (fun c => ?_) (fun c => ?_)
      · have h := (if_pos c).symm.trans h
        refine J_seg ok_X6_layFits 25 4 (pc' := 46) (ls' := [(3, .inl 0), (2, .inl 1), (0, .inr (.inr (.inl x0))), (1, .inl x1)]) (st' := []) rfl ?_
        obtain ⟨q23, h24, h⟩ := Option.bind_eq_some_iff.mp h
        refine J_sub (ls' := [(0, .inr (.inr (.inl x0))), (1, .inl x1), (2, .inl 1), (3, .inl 0)]) [2, 3, 1, 0] rfl ?_
        refine J_loop (pE := 100) (lh := fun t26 => [(0, .inr (.inr (.inl x0))), (1, .inl x1), (2, .inl t26.1), (3, .inl t26.2)]) (lx := fun z25 => [(0, .inr (.inr (.inl x0))), (1, .inl x1), (2, .inl z25)]) (P := jRetN) (fun s ah out hb hR hX hN => k_X6_layFits_b46 d s ah out hb hR hX hN) jfuel (1, 0) _ _ h24 (fun r e => ?_) (fun z25 e => ?_)
        · subst e
          dsimp only at h
          cases h
        · subst e
          dsimp only at h
          refine J_seg ok_X6_layFits 62 1 (pc' := 101) (ls' := [(0, .inr (.inr (.inl x0))), (1, .inl x1), (2, .inl z25.1)]) (st' := [.inl z25.1]) rfl ?_
          refine J_ne0 (jat ok_X6_layFits 63 (pc := 101) (i := .ifCond .ne 9) (n := 3) rfl rfl) (tgt := 110) (by decide) (fun c => ?_) (fun c => ?_)
          · have h := (if_neg c).symm.trans h
            refine J_seg ok_X6_layFits 68 2 (pc' := 112) (ls' := [(0, .inr (.inr (.inl x0))), (1, .inl x1), (2, .inl z25.1)]) (st' := [.inl 0, .inr (.inr (.inl x0))]) rfl ?_
            by_cases c29 : qO z25.2 x0 6 = true
            case neg => exact absurd ((if_neg c29).symm.trans h) (by simp)
            have h := (if_pos c29).symm.trans h
            obtain ⟨q27, h28, h⟩ := Option.bind_eq_some_iff.mp h
            refine J_callV (md' := md_X6_layMaps) (As := [.inl 0]) (st := []) (cs' := (0, 0)) (st' := []) (jat ok_X6_layFits 70 (pc := 112) (i := .invokevirtual 253) (n := 3) rfl rfl) ml_RX6_253 yv_X6_layMaps c29 (c_X6_layMaps l g (d + 0) h28) (jRo_of (by decide)) (Nat.le_of_ble_eq_true rfl) ⟨Nat.le_of_ble_eq_true rfl, Nat.le_of_ble_eq_true rfl⟩ rfl rfl rfl ?_
            refine J_seg ok_X6_layFits 71 4 (pc' := 120) (ls' := [(4, .inl 0), (3, .inl 0), (0, .inr (.inr (.inl x0))), (1, .inl x1), (2, .inl z25.1)]) (st' := []) rfl ?_
            obtain ⟨q63, h64, h⟩ := Option.bind_eq_some_iff.mp h
            refine J_sub (ls' := [(0, .inr (.inr (.inl x0))), (1, .inl x1), (3, .inl 0), (4, .inl 0)]) [2, 3, 1, 0] rfl ?_
            refine J_loop (pE := 236) (lh := fun t66 => [(0, .inr (.inr (.inl x0))), (1, .inl x1), (3, .inl t66.1), (4, .inl t66.2)]) (lx := fun z65 => [(0, .inr (.inr (.inl x0))), (3, .inl z65)]) (P := jRetN) (fun s ah out hb hR hX hN => k_X6_layFits_b120 d s ah out hb hR hX hN) jfuel (0, 0) _ _ h64 (fun r e => ?_) (fun z65 e => ?_)
            · subst e
              dsimp only at h
              cases h
            · subst e
              dsimp only at h
              refine J_seg ok_X6_layFits 140 2 (pc' := 238) (ls' := [(0, .inr (.inr (.inl x0))), (3, .inl z65.1)]) (st' := [.inl z65.1, .inr (.inr (.inl x0))]) rfl ?_
              obtain ⟨a67, h68, h⟩ := Option.bind_eq_some_iff.mp h
              refine J_put (jat ok_X6_layFits 142 (pc := 238) (i := .putfield 247) (n := 3) rfl rfl) (fp_RX6_247 _) (jPV_int _) h68 ?_
              refine J_seg ok_X6_layFits 143 1 (pc' := 242) (ls' := [(0, .inr (.inr (.inl x0))), (3, .inl z65.1)]) (st' := [.inl 0]) rfl ?_
              have h := Option.some.inj h
              subst h
              exact hR _ _ (jat ok_X6_layFits 144 (pc := 242) (i := .ireturn) (n := 1) rfl rfl)
          · have h := (if_pos c).symm.trans h
            refine J_seg ok_X6_layFits 64 2 (pc' := 106) (ls' := [(0, .inr (.inr (.inl x0))), (1, .inl x1), (2, .inl z25.1)]) (st' := [.inl 3, .inr (.inr (.inl x0))]) rfl ?_
            by_cases c71 : qO z25.2 x0 6 = true
            case neg => exact absurd ((if_neg c71).symm.trans h) (by simp)
            have h := (if_pos c71).symm.trans h
            obtain ⟨q69, h70, h⟩ := Option.bind_eq_some_iff.mp h
            refine J_callV (md' := md_X6_find) (As := [.inl 3]) (st := []) (cs' := (0, 0)) (st' := [.inl q69.1]) (jat ok_X6_layFits 66 (pc := 106) (i := .invokevirtual 81) (n := 3) rfl rfl) ml_RX6_81 yv_X6_find c71 (c_X6_find l g (d + 2) h70) (jRo_of (by decide)) (Nat.le_of_ble_eq_true rfl) ⟨Nat.le_of_ble_eq_true rfl, Nat.le_of_ble_eq_true rfl⟩ rfl rfl rfl ?_
            have h := Option.some.inj h
            subst h
            exact hR _ _ (jat ok_X6_layFits 67 (pc := 109) (i := .ireturn) (n := 1) rfl rfl)
      · have h := (if_neg c).symm.trans h
        refine J_seg ok_X6_layFits 21 2 (pc' := 38) (ls' := [(0, .inr (.inr (.inl x0))), (1, .inl x1)]) (st' := [.inl 5, .inr (.inr (.inl x0))]) rfl ?_
        by_cases c74 : qO ah x0 6 = true
        case neg => exact absurd ((if_neg c74).symm.trans h) (by simp)
        have h := (if_pos c74).symm.trans h
        obtain ⟨q72, h73, h⟩ := Option.bind_eq_some_iff.mp h
        refine J_callV (md' := md_X6_find) (As := [.inl 5]) (st := []) (cs' := (0, 0)) (st' := [.inl q72.1]) (jat ok_X6_layFits 23 (pc := 38) (i := .invokevirtual 81) (n := 3) rfl rfl) ml_RX6_81 yv_X6_find c74 (c_X6_find l g (d + 2) h73) (jRo_of (by decide)) (Nat.le_of_ble_eq_true rfl) ⟨Nat.le_of_ble_eq_true rfl, Nat.le_of_ble_eq_true rfl⟩ rfl rfl rfl ?_
        have h := Option.some.inj h
        subst h
        exact hR _ _ (jat ok_X6_layFits 24 (pc := 41) (i := .ireturn) (n := 1) rfl rfl)
    · have h := (if_neg c).symm.trans h
      refine J_seg ok_X6_layFits 10 2 (pc' := 21) (ls' := [(0, .inr (.inr (.inl x0))), (1, .inl x1)]) (st' := [.inl 1, .inr (.inr (.inl x0))]) rfl ?_
      by_cases c77 : qO ah x0 6 = true
      case neg => exact absurd ((if_neg c77).symm.trans h) (by simp)
      have h := (if_pos c77).symm.trans h
      obtain ⟨q75, h76, h⟩ := Option.bind_eq_some_iff.mp h
      refine J_callV (md' := md_X6_find) (As := [.inl 1]) (st := []) (cs' := (0, 0)) (st' := [.inl q75.1]) (jat ok_X6_layFits 12 (pc := 21) (i := .invokevirtual 81) (n := 3) rfl rfl) ml_RX6_81 yv_X6_find c77 (c_X6_find l g (d + 2) h76) (jRo_of (by decide)) (Nat.le_of_ble_eq_true rfl) ⟨Nat.le_of_ble_eq_true rfl, Nat.le_of_ble_eq_true rfl⟩ rfl rfl rfl ?_
      have h := Option.some.inj h
      subst h
      exact hR _ _ (jat ok_X6_layFits 13 (pc := 24) (i := .ireturn) (n := 1) rfl rfl)
  · have h := (if_pos c).symm.trans h
    refine J_seg ok_X6_layFits 3 1 (pc' := 9) (ls' := [(0, .inr (.inr (.inl x0))), (1, .inl x1)]) (st' := [.inl (-4)]) rfl ?_
    have h := Option.some.inj h
    subst h
    exact hR _ _ (jat ok_X6_layFits 4 (pc := 9) (i := .ireturn) (n := 1) rfl rfl)
theorem c_X6_layFits (l : Launch) (g : GX) (d : Nat) {x0 : Option Nat} {x1 : Int32} {ah : AH} {q : Int32 × AH} (h : f_X6_layFits x0 x1 ah = some q) : jM l g (d + 3) md_X6_layFits [.inr (.inr (.inl x0)), .inl x1] ah (some (.inl q.1)) q.2 :=
  jM_of (by decide) (Nat.le_of_ble_eq_true rfl) (k_X6_layFits d ah q h (fun pc ls hd => J_reti hd rfl (jPV_int _) rfl (Nat.le_refl _) rfl rfl))
