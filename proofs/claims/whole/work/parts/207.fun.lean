def f_X5_rings_b9_j40 (k0 : Option Nat) (x1 : Int32) (x2 : Int32) (x3 : Int32) (x4 : Int32) (y0 : Int32) (ah : AH) : Option ((Unit × AH) ⊕ (((Int32 × Int32) × AH) ⊕ ((Int32 × Int32 × Int32 × Int32) × AH))) :=
  if y0 = 0 then (some (.inr (.inr ((x1, x2, x3, x4 + 1), ah)))) else ((f_J6_bitCount_0f7a4 y0 ah).bind fun q10 => (f_J6_bitCount_0f7a4 x2 q10.2).bind fun q12 => if q10.1 ≤ q12.1 then (some (.inr (.inr ((x1 + 1, x2, x3 ||| y0, x4 + 1), q12.2)))) else (some (.inr (.inr ((x1 + 1, y0, x3 ||| y0, x4 + 1), q12.2)))))
set_option maxRecDepth 100000 in
set_option maxHeartbeats 4000000 in
theorem k_X5_rings_b9_j40 {l : Launch} {g : GX} (d : Nat) {Q : jQ} {k0 : Option Nat} {x1 : Int32} {x2 : Int32} {x3 : Int32} {x4 : Int32} {y0 : Int32} (ah : AH) (out : (Unit × AH) ⊕ (((Int32 × Int32) × AH) ⊕ ((Int32 × Int32 × Int32 × Int32) × AH))) (h : f_X5_rings_b9_j40 k0 x1 x2 x3 x4 y0 ah = some out) (hR : ∀ q, out = .inl q → jRetN q.1 q.2) (hX : ∀ q, out = .inr (.inl q) → J l g md_X5_rings (jRm (d + 3) md_X5_rings) Q 79 [(0, .inr (.inr (.inl k0))), (1, .inl q.1.1), (2, .inl q.1.2)] [] q.2 (0, 0)) (hN : ∀ q, out = .inr (.inr q) → J l g md_X5_rings (jRm (d + 3) md_X5_rings) Q 9 [(0, .inr (.inr (.inl k0))), (1, .inl q.1.1), (2, .inl q.1.2.1), (3, .inl q.1.2.2.1), (4, .inl q.1.2.2.2)] [] q.2 (0, 0)) : J l g md_X5_rings (jRm (d + 3) md_X5_rings) Q 40 [(0, .inr (.inr (.inl k0))), (1, .inl x1), (2, .inl x2), (3, .inl x3), (4, .inl x4)] [.inl y0] ah (0, 0) := by
  unfold f_X5_rings_b9_j40 at h
  refine J_seg ok_X5_rings 22 2 (pc' := 44) (ls' := [(5, .inl y0), (0, .inr (.inr (.inl k0))), (1, .inl x1), (2, .inl x2), (3, .inl x3), (4, .inl x4)]) (st' := [.inl y0]) rfl ?_
  refine J_ne0 (jat ok_X5_rings 24 (pc := 44) (i := .ifCond .ne 6) (n := 3) rfl rfl) (tgt := 50) (by decide) (fun c => ?_) (fun c => ?_)
  · have h := (if_neg c).symm.trans h
    refine J_seg ok_X5_rings 26 6 (pc' := 60) (ls' := [(1, .inl (x1 + 1)), (3, .inl (x3 ||| y0)), (5, .inl y0), (0, .inr (.inr (.inl k0))), (2, .inl x2), (4, .inl x4)]) (st' := [.inl y0]) rfl ?_
    obtain ⟨q10, h11, h⟩ := Option.bind_eq_some_iff.mp h
    refine J_callS (md' := md_J6_bitCount_0f7a4) (As := [.inl y0]) (st := []) (cs' := (0, 0)) (st' := [.inl q10.1]) (jat ok_X5_rings 32 (pc := 60) (i := .invokestatic 148) (n := 3) rfl rfl) (Or.inl ml_RX5_148) ys_J6_bitCount_0f7a4 (c_J6_bitCount_0f7a4 l g (d + 2) h11) (jRo_of (by decide)) (Nat.le_of_ble_eq_true rfl) ⟨Nat.le_of_ble_eq_true rfl, Nat.le_of_ble_eq_true rfl⟩ rfl rfl rfl ?_
    refine J_seg ok_X5_rings 33 1 (pc' := 64) (ls' := [(1, .inl (x1 + 1)), (3, .inl (x3 ||| y0)), (5, .inl y0), (0, .inr (.inr (.inl k0))), (2, .inl x2), (4, .inl x4)]) (st' := [.inl x2, .inl q10.1]) rfl ?_
    obtain ⟨q12, h13, h⟩ := Option.bind_eq_some_iff.mp h
    refine J_callS (md' := md_J6_bitCount_0f7a4) (As := [.inl x2]) (st := [.inl q10.1]) (cs' := (0, 0)) (st' := [.inl q12.1, .inl q10.1]) (jat ok_X5_rings 34 (pc := 64) (i := .invokestatic 148) (n := 3) rfl rfl) (Or.inl ml_RX5_148) ys_J6_bitCount_0f7a4 (c_J6_bitCount_0f7a4 l g (d + 2) h13) (jRo_of (by decide)) (Nat.le_of_ble_eq_true rfl) ⟨Nat.le_of_ble_eq_true rfl, Nat.le_of_ble_eq_true rfl⟩ rfl rfl rfl ?_
    refine J_le (jat ok_X5_rings 35 (pc := 67) (i := .if_icmp .le 6) (n := 3) rfl rfl) (tgt := 73) (by decide) (fun c => ?_) (fun c => ?_)
    · have h := (if_pos c).symm.trans h
      refine J_seg ok_X5_rings 38 2 (pc' := 9) (ls' := [(4, .inl (x4 + 1)), (1, .inl (x1 + 1)), (3, .inl (x3 ||| y0)), (5, .inl y0), (0, .inr (.inr (.inl k0))), (2, .inl x2)]) (st' := []) rfl ?_
      exact J_sub (ls' := [(0, .inr (.inr (.inl k0))), (1, .inl (x1 + 1)), (2, .inl x2), (3, .inl (x3 ||| y0)), (4, .inl (x4 + 1))]) [4, 1, 5, 2, 0] rfl (hN ((x1 + 1, x2, x3 ||| y0, x4 + 1), q12.2) (Option.some.inj h).symm)
    · have h := (if_neg c).symm.trans h
      refine J_seg ok_X5_rings 36 4 (pc' := 9) (ls' := [(4, .inl (x4 + 1)), (2, .inl y0), (1, .inl (x1 + 1)), (3, .inl (x3 ||| y0)), (5, .inl y0), (0, .inr (.inr (.inl k0)))]) (st' := []) rfl ?_
      exact J_sub (ls' := [(0, .inr (.inr (.inl k0))), (1, .inl (x1 + 1)), (2, .inl y0), (3, .inl (x3 ||| y0)), (4, .inl (x4 + 1))]) [5, 2, 1, 3, 0] rfl (hN ((x1 + 1, y0, x3 ||| y0, x4 + 1), q12.2) (Option.some.inj h).symm)
  · have h := (if_pos c).symm.trans h
    refine J_seg ok_X5_rings 25 1 (pc' := 73) (ls' := [(5, .inl y0), (0, .inr (.inr (.inl k0))), (1, .inl x1), (2, .inl x2), (3, .inl x3), (4, .inl x4)]) (st' := []) rfl ?_
    refine J_seg ok_X5_rings 38 2 (pc' := 9) (ls' := [(4, .inl (x4 + 1)), (5, .inl y0), (0, .inr (.inr (.inl k0))), (1, .inl x1), (2, .inl x2), (3, .inl x3)]) (st' := []) rfl ?_
    exact J_sub (ls' := [(0, .inr (.inr (.inl k0))), (1, .inl x1), (2, .inl x2), (3, .inl x3), (4, .inl (x4 + 1))]) [2, 3, 4, 5, 0] rfl (hN ((x1, x2, x3, x4 + 1), ah) (Option.some.inj h).symm)
def f_X5_rings_b9 (k0 : Option Nat) (s9 : Int32 × Int32 × Int32 × Int32) (ah : AH) : Option ((Unit × AH) ⊕ (((Int32 × Int32) × AH) ⊕ ((Int32 × Int32 × Int32 × Int32) × AH))) :=
  (gR ah k0 5 8).bind fun v1 => (gI ah v1 1 5).bind fun v3 => if v3 ≤ s9.2.2.2 then (some (.inr (.inl ((s9.1, s9.2.1), ah)))) else ((f_X5_isIn s9.2.2.1 s9.2.2.2 ah).bind fun q5 => if q5.1 = 0 then (if qO q5.2 k0 5 = true then ((f_X5_ringOf k0 s9.2.2.2 q5.2).bind fun q7 => f_X5_rings_b9_j40 k0 s9.1 s9.2.1 s9.2.2.1 s9.2.2.2 q7.1 q7.2) else none) else (f_X5_rings_b9_j40 k0 s9.1 s9.2.1 s9.2.2.1 s9.2.2.2 0 q5.2))
set_option maxRecDepth 100000 in
set_option maxHeartbeats 4000000 in
theorem k_X5_rings_b9 {l : Launch} {g : GX} (d : Nat) {Q : jQ} {k0 : Option Nat} (s9 : Int32 × Int32 × Int32 × Int32) (ah : AH) (out : (Unit × AH) ⊕ (((Int32 × Int32) × AH) ⊕ ((Int32 × Int32 × Int32 × Int32) × AH))) (h : f_X5_rings_b9 k0 s9 ah = some out) (hR : ∀ q, out = .inl q → jRetN q.1 q.2) (hX : ∀ q, out = .inr (.inl q) → J l g md_X5_rings (jRm (d + 3) md_X5_rings) Q 79 [(0, .inr (.inr (.inl k0))), (1, .inl q.1.1), (2, .inl q.1.2)] [] q.2 (0, 0)) (hN : ∀ q, out = .inr (.inr q) → J l g md_X5_rings (jRm (d + 3) md_X5_rings) Q 9 [(0, .inr (.inr (.inl k0))), (1, .inl q.1.1), (2, .inl q.1.2.1), (3, .inl q.1.2.2.1), (4, .inl q.1.2.2.2)] [] q.2 (0, 0)) : J l g md_X5_rings (jRm (d + 3) md_X5_rings) Q 9 [(0, .inr (.inr (.inl k0))), (1, .inl s9.1), (2, .inl s9.2.1), (3, .inl s9.2.2.1), (4, .inl s9.2.2.2)] [] ah (0, 0) := by
  unfold f_X5_rings_b9 at h
  refine J_seg ok_X5_rings 8 2 (pc' := 12) (ls' := [(0, .inr (.inr (.inl k0))), (1, .inl s9.1), (2, .inl s9.2.1), (3, .inl s9.2.2.1), (4, .inl s9.2.2.2)]) (st' := [.inr (.inr (.inl k0)), .inl s9.2.2.2]) rfl ?_
  obtain ⟨v1, h2, h⟩ := Option.bind_eq_some_iff.mp h
  refine J_getR (jat ok_X5_rings 10 (pc := 12) (i := .getfield 53) (n := 3) rfl rfl) fl_RX5_53 h2 ?_
  obtain ⟨v3, h4, h⟩ := Option.bind_eq_some_iff.mp h
  refine J_getI (jat ok_X5_rings 11 (pc := 15) (i := .getfield 127) (n := 3) rfl rfl) fl_RX5_127 h4 ?_
  refine J_ge (jat ok_X5_rings 12 (pc := 18) (i := .if_icmp .ge 61) (n := 3) rfl rfl) (tgt := 79) (by decide) (fun c => ?_) (fun c => ?_)
  · have h := (if_pos c).symm.trans h
    exact J_sub (ls' := [(0, .inr (.inr (.inl k0))), (1, .inl s9.1), (2, .inl s9.2.1)]) [0, 1, 2] rfl (hX ((s9.1, s9.2.1), ah) (Option.some.inj h).symm)
  · have h := (if_neg c).symm.trans h
    refine J_seg ok_X5_rings 13 2 (pc' := 24) (ls' := [(0, .inr (.inr (.inl k0))), (1, .inl s9.1), (2, .inl s9.2.1), (3, .inl s9.2.2.1), (4, .inl s9.2.2.2)]) (st' := [.inl s9.2.2.2, .inl s9.2.2.1]) rfl ?_
    obtain ⟨q5, h6, h⟩ := Option.bind_eq_some_iff.mp h
    refine J_callS (md' := md_X5_isIn) (As := [.inl s9.2.2.1, .inl s9.2.2.2]) (st := []) (cs' := (0, 0)) (st' := [.inl q5.1]) (jat ok_X5_rings 15 (pc := 24) (i := .invokestatic 197) (n := 3) rfl rfl) (Or.inl ml_RX5_197) ys_X5_isIn (c_X5_isIn l g (d + 2) h6) (jRo_of (by decide)) (Nat.le_of_ble_eq_true rfl) ⟨Nat.le_of_ble_eq_true rfl, Nat.le_of_ble_eq_true rfl⟩ rfl rfl rfl ?_
    refine J_eq0 (jat ok_X5_rings 16 (pc := 27) (i := .ifCond .eq 7) (n := 3) rfl rfl) (tgt := 34) (by decide) (fun c => ?_) (fun c => ?_)
    · have h := (if_pos c).symm.trans h
      refine J_seg ok_X5_rings 19 2 (pc' := 37) (ls' := [(0, .inr (.inr (.inl k0))), (1, .inl s9.1), (2, .inl s9.2.1), (3, .inl s9.2.2.1), (4, .inl s9.2.2.2)]) (st' := [.inl s9.2.2.2, .inr (.inr (.inl k0))]) rfl ?_
      by_cases c9 : qO q5.2 k0 5 = true
      case neg => exact absurd ((if_neg c9).symm.trans h) (by simp)
      have h := (if_pos c9).symm.trans h
      obtain ⟨q7, h8, h⟩ := Option.bind_eq_some_iff.mp h
      refine J_callV (md' := md_X5_ringOf) (As := [.inl s9.2.2.2]) (st := []) (cs' := (0, 0)) (st' := [.inl q7.1]) (jat ok_X5_rings 21 (pc := 37) (i := .invokevirtual 200) (n := 3) rfl rfl) ml_RX5_200 yv_X5_ringOf c9 (c_X5_ringOf l g (d + 0) h8) (jRo_of (by decide)) (Nat.le_of_ble_eq_true rfl) ⟨Nat.le_of_ble_eq_true rfl, Nat.le_of_ble_eq_true rfl⟩ rfl rfl rfl ?_
      refine J_sub (ls' := [(0, .inr (.inr (.inl k0))), (1, .inl s9.1), (2, .inl s9.2.1), (3, .inl s9.2.2.1), (4, .inl s9.2.2.2)]) [0, 1, 2, 3, 4] rfl ?_
      exact k_X5_rings_b9_j40 d _ _ h hR hX hN
    · have h := (if_neg c).symm.trans h
      refine J_seg ok_X5_rings 17 2 (pc' := 40) (ls' := [(0, .inr (.inr (.inl k0))), (1, .inl s9.1), (2, .inl s9.2.1), (3, .inl s9.2.2.1), (4, .inl s9.2.2.2)]) (st' := [.inl 0]) rfl ?_
      refine J_sub (ls' := [(0, .inr (.inr (.inl k0))), (1, .inl s9.1), (2, .inl s9.2.1), (3, .inl s9.2.2.1), (4, .inl s9.2.2.2)]) [0, 1, 2, 3, 4] rfl ?_
      exact k_X5_rings_b9_j40 d _ _ h hR hX hN
def f_X5_rings (x0 : Option Nat) (ah : AH) : Option (Int32 × AH) :=
  (jloop (f_X5_rings_b9 x0) jfuel (0, 0, 0, 0) ah).bind fun q14 => match q14 with | .inl r => none | .inr z16 => (sF z16.2 x0 5 11 (.inl z16.1.2)).bind fun a18 => some (z16.1.1, a18)
set_option maxRecDepth 100000 in
set_option maxHeartbeats 4000000 in
theorem k_X5_rings {l : Launch} {g : GX} (d : Nat) {Q : jQ} {x0 : Option Nat} (ah : AH) (out : Int32 × AH) (h : f_X5_rings x0 ah = some out) (hR : jRetI l g md_X5_rings (jRm (d + 3) md_X5_rings) Q (0, 0) out.1 out.2) : J l g md_X5_rings (jRm (d + 3) md_X5_rings) Q 0 [(0, .inr (.inr (.inl x0)))] [] ah (0, 0) := by
  unfold f_X5_rings at h
  refine J_seg ok_X5_rings 0 8 (pc' := 9) (ls' := [(4, .inl 0), (3, .inl 0), (2, .inl 0), (1, .inl 0), (0, .inr (.inr (.inl x0)))]) (st' := []) rfl ?_
  obtain ⟨q14, h15, h⟩ := Option.bind_eq_some_iff.mp h
  refine J_sub (ls' := [(0, .inr (.inr (.inl x0))), (1, .inl 0), (2, .inl 0), (3, .inl 0), (4, .inl 0)]) [4, 3, 2, 1, 0] rfl ?_
  refine J_loop (pE := 79) (lh := fun t17 => [(0, .inr (.inr (.inl x0))), (1, .inl t17.1), (2, .inl t17.2.1), (3, .inl t17.2.2.1), (4, .inl t17.2.2.2)]) (lx := fun z16 => [(0, .inr (.inr (.inl x0))), (1, .inl z16.1), (2, .inl z16.2)]) (P := jRetN) (fun s ah out hb hR hX hN => k_X5_rings_b9 d s ah out hb hR hX hN) jfuel (0, 0, 0, 0) _ _ h15 (fun r e => ?_) (fun z16 e => ?_)
  · subst e
    dsimp only at h
    cases h
  · subst e
    dsimp only at h
    refine J_seg ok_X5_rings 40 2 (pc' := 81) (ls' := [(0, .inr (.inr (.inl x0))), (1, .inl z16.1.1), (2, .inl z16.1.2)]) (st' := [.inl z16.1.2, .inr (.inr (.inl x0))]) rfl ?_
    obtain ⟨a18, h19, h⟩ := Option.bind_eq_some_iff.mp h
    refine J_put (jat ok_X5_rings 42 (pc := 81) (i := .putfield 90) (n := 3) rfl rfl) (fp_RX5_90 _) (jPV_int _) h19 ?_
    refine J_seg ok_X5_rings 43 1 (pc' := 85) (ls' := [(0, .inr (.inr (.inl x0))), (1, .inl z16.1.1), (2, .inl z16.1.2)]) (st' := [.inl z16.1.1]) rfl ?_
    have h := Option.some.inj h
    subst h
    exact hR _ _ (jat ok_X5_rings 44 (pc := 85) (i := .ireturn) (n := 1) rfl rfl)
theorem c_X5_rings (l : Launch) (g : GX) (d : Nat) {x0 : Option Nat} {ah : AH} {q : Int32 × AH} (h : f_X5_rings x0 ah = some q) : jM l g (d + 3) md_X5_rings [.inr (.inr (.inl x0))] ah (some (.inl q.1)) q.2 :=
  jM_of (by decide) (Nat.le_of_ble_eq_true rfl) (k_X5_rings d ah q h (fun pc ls hd => J_reti hd rfl (jPV_int _) rfl (Nat.le_refl _) rfl rfl))
def f_X5_allies_b34 (k0 : Option Nat) (k1 : Int32) (s34 : Int32 × Int32 × Int32) (ah : AH) : Option ((Int32 × AH) ⊕ (((Int32) × AH) ⊕ ((Int32 × Int32 × Int32) × AH))) :=
  if 6 ≤ s34.2.2 then (some (.inr (.inl (s34.1, ah)))) else (if s34.2.1 < 0 then (some (.inl (s34.1, ah))) else (if s34.2.1 = k1 then (some (.inl (s34.1, ah))) else ((f_X5_isIn s34.1 s34.2.1 ah).bind fun q16 => if q16.1 = 0 then ((gR q16.2 k0 5 3).bind fun v18 => (gR q16.2 k0 5 3).bind fun v20 => if qO q16.2 v20 4 = true then ((f_X4_foeOf v20 s34.2.1 q16.2).bind fun q22 => if qO q22.2 v18 4 = true then ((f_X4_foeOf v18 q22.1 q22.2).bind fun q25 => some (.inr (.inr ((s34.1 ||| (1 <<< (s34.2.1 &&& 31)), q25.1, s34.2.2 + 1), q25.2)))) else none) else none) else (some (.inl (s34.1, q16.2))))))
set_option maxRecDepth 100000 in
set_option maxHeartbeats 4000000 in
theorem k_X5_allies_b34 {l : Launch} {g : GX} (d : Nat) {Q : jQ} {k0 : Option Nat} {k1 : Int32} (s34 : Int32 × Int32 × Int32) (ah : AH) (out : (Int32 × AH) ⊕ (((Int32) × AH) ⊕ ((Int32 × Int32 × Int32) × AH))) (h : f_X5_allies_b34 k0 k1 s34 ah = some out) (hR : ∀ q, out = .inl q → jRetI l g md_X5_allies (jRm (d + 3) md_X5_allies) Q (0, 0) q.1 q.2) (hX : ∀ q, out = .inr (.inl q) → J l g md_X5_allies (jRm (d + 3) md_X5_allies) Q 88 [(2, .inl q.1)] [] q.2 (0, 0)) (hN : ∀ q, out = .inr (.inr q) → J l g md_X5_allies (jRm (d + 3) md_X5_allies) Q 34 [(0, .inr (.inr (.inl k0))), (1, .inl k1), (2, .inl q.1.1), (3, .inl q.1.2.1), (4, .inl q.1.2.2)] [] q.2 (0, 0)) : J l g md_X5_allies (jRm (d + 3) md_X5_allies) Q 34 [(0, .inr (.inr (.inl k0))), (1, .inl k1), (2, .inl s34.1), (3, .inl s34.2.1), (4, .inl s34.2.2)] [] ah (0, 0) := by
  unfold f_X5_allies_b34 at h
  refine J_seg ok_X5_allies 19 2 (pc' := 38) (ls' := [(0, .inr (.inr (.inl k0))), (1, .inl k1), (2, .inl s34.1), (3, .inl s34.2.1), (4, .inl s34.2.2)]) (st' := [.inl 6, .inl s34.2.2]) rfl ?_
  refine J_ge (jat ok_X5_allies 21 (pc := 38) (i := .if_icmp .ge 50) (n := 3) rfl rfl) (tgt := 88) (by decide) (fun c => ?_) (fun c => ?_)
  · have h := (if_pos c).symm.trans h
    exact J_sub (ls' := [(2, .inl s34.1)]) [2] rfl (hX (s34.1, ah) (Option.some.inj h).symm)
  · have h := (if_neg c).symm.trans h
    refine J_seg ok_X5_allies 22 1 (pc' := 42) (ls' := [(0, .inr (.inr (.inl k0))), (1, .inl k1), (2, .inl s34.1), (3, .inl s34.2.1), (4, .inl s34.2.2)]) (st' := [.inl s34.2.1]) rfl ?_
    refine J_lt0 (jat ok_X5_allies 23 (pc := 42) (i := .ifCond .lt 16) (n := 3) rfl rfl) (tgt := 58) (by decide) (fun c => ?_) (fun c => ?_)
    · have h := (if_pos c).symm.trans h
      refine J_seg ok_X5_allies 31 1 (pc' := 59) (ls' := [(0, .inr (.inr (.inl k0))), (1, .inl k1), (2, .inl s34.1), (3, .inl s34.2.1), (4, .inl s34.2.2)]) (st' := [.inl s34.1]) rfl ?_
      exact hR _ (Option.some.inj h).symm _ _ (jat ok_X5_allies 32 (pc := 59) (i := .ireturn) (n := 1) rfl rfl)
    · have h := (if_neg c).symm.trans h
      refine J_seg ok_X5_allies 24 2 (pc' := 47) (ls' := [(0, .inr (.inr (.inl k0))), (1, .inl k1), (2, .inl s34.1), (3, .inl s34.2.1), (4, .inl s34.2.2)]) (st' := [.inl k1, .inl s34.2.1]) rfl ?_
      refine J_eq (jat ok_X5_allies 26 (pc := 47) (i := .if_icmp .eq 11) (n := 3) rfl rfl) (tgt := 58) (by decide) (fun c => ?_) (fun c => ?_)
      · have h := (if_pos c).symm.trans h
        refine J_seg ok_X5_allies 31 1 (pc' := 59) (ls' := [(0, .inr (.inr (.inl k0))), (1, .inl k1), (2, .inl s34.1), (3, .inl s34.2.1), (4, .inl s34.2.2)]) (st' := [.inl s34.1]) rfl ?_
        exact hR _ (Option.some.inj h).symm _ _ (jat ok_X5_allies 32 (pc := 59) (i := .ireturn) (n := 1) rfl rfl)
      · have h := (if_neg c).symm.trans h
        refine J_seg ok_X5_allies 27 2 (pc' := 52) (ls' := [(0, .inr (.inr (.inl k0))), (1, .inl k1), (2, .inl s34.1), (3, .inl s34.2.1), (4, .inl s34.2.2)]) (st' := [.inl s34.2.1, .inl s34.1]) rfl ?_
        obtain ⟨q16, h17, h⟩ := Option.bind_eq_some_iff.mp h
        refine J_callS (md' := md_X5_isIn) (As := [.inl s34.1, .inl s34.2.1]) (st := []) (cs' := (0, 0)) (st' := [.inl q16.1]) (jat ok_X5_allies 29 (pc := 52) (i := .invokestatic 197) (n := 3) rfl rfl) (Or.inl ml_RX5_197) ys_X5_isIn (c_X5_isIn l g (d + 2) h17) (jRo_of (by decide)) (Nat.le_of_ble_eq_true rfl) ⟨Nat.le_of_ble_eq_true rfl, Nat.le_of_ble_eq_true rfl⟩ rfl rfl rfl ?_
        refine J_eq0 (jat ok_X5_allies 30 (pc := 55) (i := .ifCond .eq 5) (n := 3) rfl rfl) (tgt := 60) (by decide) (fun c => ?_) (fun c => ?_)
        · have h := (if_pos c).symm.trans h
          refine J_seg ok_X5_allies 33 7 (pc' := 67) (ls' := [(2, .inl (s34.1 ||| (1 <<< (s34.2.1 &&& 31)))), (0, .inr (.inr (.inl k0))), (1, .inl k1), (3, .inl s34.2.1), (4, .inl s34.2.2)]) (st' := [.inr (.inr (.inl k0))]) rfl ?_
          obtain ⟨v18, h19, h⟩ := Option.bind_eq_some_iff.mp h
          refine J_getR (jat ok_X5_allies 40 (pc := 67) (i := .getfield 28) (n := 3) rfl rfl) fl_RX5_28 h19 ?_
          refine J_seg ok_X5_allies 41 1 (pc' := 71) (ls' := [(2, .inl (s34.1 ||| (1 <<< (s34.2.1 &&& 31)))), (0, .inr (.inr (.inl k0))), (1, .inl k1), (3, .inl s34.2.1), (4, .inl s34.2.2)]) (st' := [.inr (.inr (.inl k0)), .inr (.inr (.inl v18))]) rfl ?_
          obtain ⟨v20, h21, h⟩ := Option.bind_eq_some_iff.mp h
          refine J_getR (jat ok_X5_allies 42 (pc := 71) (i := .getfield 28) (n := 3) rfl rfl) fl_RX5_28 h21 ?_
          refine J_seg ok_X5_allies 43 1 (pc' := 75) (ls' := [(2, .inl (s34.1 ||| (1 <<< (s34.2.1 &&& 31)))), (0, .inr (.inr (.inl k0))), (1, .inl k1), (3, .inl s34.2.1), (4, .inl s34.2.2)]) (st' := [.inl s34.2.1, .inr (.inr (.inl v20)), .inr (.inr (.inl v18))]) rfl ?_
          by_cases c24 : qO q16.2 v20 4 = true
          case neg => exact absurd ((if_neg c24).symm.trans h) (by simp)
          have h := (if_pos c24).symm.trans h
          obtain ⟨q22, h23, h⟩ := Option.bind_eq_some_iff.mp h
          refine J_callV (md' := md_X4_foeOf) (As := [.inl s34.2.1]) (st := [.inr (.inr (.inl v18))]) (cs' := (0, 0)) (st' := [.inl q22.1, .inr (.inr (.inl v18))]) (jat ok_X5_allies 44 (pc := 75) (i := .invokevirtual 203) (n := 3) rfl rfl) ml_RX5_203 yv_X4_foeOf c24 (c_X4_foeOf l g (d + 0) h23) (jRo_of (by decide)) (Nat.le_of_ble_eq_true rfl) ⟨Nat.le_of_ble_eq_true rfl, Nat.le_of_ble_eq_true rfl⟩ rfl rfl rfl ?_
          by_cases c27 : qO q22.2 v18 4 = true
          case neg => exact absurd ((if_neg c27).symm.trans h) (by simp)
          have h := (if_pos c27).symm.trans h
          obtain ⟨q25, h26, h⟩ := Option.bind_eq_some_iff.mp h
          refine J_callV (md' := md_X4_foeOf) (As := [.inl q22.1]) (st := []) (cs' := (0, 0)) (st' := [.inl q25.1]) (jat ok_X5_allies 45 (pc := 78) (i := .invokevirtual 203) (n := 3) rfl rfl) ml_RX5_203 yv_X4_foeOf c27 (c_X4_foeOf l g (d + 0) h26) (jRo_of (by decide)) (Nat.le_of_ble_eq_true rfl) ⟨Nat.le_of_ble_eq_true rfl, Nat.le_of_ble_eq_true rfl⟩ rfl rfl rfl ?_
          refine J_seg ok_X5_allies 46 3 (pc' := 34) (ls' := [(4, .inl (s34.2.2 + 1)), (3, .inl q25.1), (2, .inl (s34.1 ||| (1 <<< (s34.2.1 &&& 31)))), (0, .inr (.inr (.inl k0))), (1, .inl k1)]) (st' := []) rfl ?_
          exact J_sub (ls' := [(0, .inr (.inr (.inl k0))), (1, .inl k1), (2, .inl (s34.1 ||| (1 <<< (s34.2.1 &&& 31)))), (3, .inl q25.1), (4, .inl (s34.2.2 + 1))]) [3, 4, 2, 1, 0] rfl (hN ((s34.1 ||| (1 <<< (s34.2.1 &&& 31)), q25.1, s34.2.2 + 1), q25.2) (Option.some.inj h).symm)
        · have h := (if_neg c).symm.trans h
          refine J_seg ok_X5_allies 31 1 (pc' := 59) (ls' := [(0, .inr (.inr (.inl k0))), (1, .inl k1), (2, .inl s34.1), (3, .inl s34.2.1), (4, .inl s34.2.2)]) (st' := [.inl s34.1]) rfl ?_
          exact hR _ (Option.some.inj h).symm _ _ (jat ok_X5_allies 32 (pc := 59) (i := .ireturn) (n := 1) rfl rfl)
def f_X5_allies (x0 : Option Nat) (x1 : Int32) (ah : AH) : Option (Int32 × AH) :=
  (gR ah x0 5 8).bind fun v1 => if qO ah v1 1 = true then ((f_X1_has v1 x1 ah).bind fun q3 => if q3.1 = 0 then (some ((-1), q3.2)) else ((gR q3.2 x0 5 3).bind fun v6 => (gR q3.2 x0 5 3).bind fun v8 => if qO q3.2 v8 4 = true then ((f_X4_foeOf v8 x1 q3.2).bind fun q10 => if qO q10.2 v6 4 = true then ((f_X4_foeOf v6 q10.1 q10.2).bind fun q13 => (jloop (f_X5_allies_b34 x0 x1) jfuel (0, q13.1, 0) q13.2).bind fun q28 => match q28 with | .inl r => some r | .inr z30 => some (z30.1, z30.2)) else none) else none)) else none
set_option maxRecDepth 100000 in
set_option maxHeartbeats 4000000 in
theorem k_X5_allies {l : Launch} {g : GX} (d : Nat) {Q : jQ} {x0 : Option Nat} {x1 : Int32} (ah : AH) (out : Int32 × AH) (h : f_X5_allies x0 x1 ah = some out) (hR : jRetI l g md_X5_allies (jRm (d + 3) md_X5_allies) Q (0, 0) out.1 out.2) : J l g md_X5_allies (jRm (d + 3) md_X5_allies) Q 0 [(0, .inr (.inr (.inl x0))), (1, .inl x1)] [] ah (0, 0) := by
  unfold f_X5_allies at h
  refine J_seg ok_X5_allies 0 1 (pc' := 1) (ls' := [(0, .inr (.inr (.inl x0))), (1, .inl x1)]) (st' := [.inr (.inr (.inl x0))]) rfl ?_
  obtain ⟨v1, h2, h⟩ := Option.bind_eq_some_iff.mp h
  refine J_getR (jat ok_X5_allies 1 (pc := 1) (i := .getfield 53) (n := 3) rfl rfl) fl_RX5_53 h2 ?_
  refine J_seg ok_X5_allies 2 1 (pc' := 5) (ls' := [(0, .inr (.inr (.inl x0))), (1, .inl x1)]) (st' := [.inl x1, .inr (.inr (.inl v1))]) rfl ?_
  by_cases c5 : qO ah v1 1 = true
  case neg => exact absurd ((if_neg c5).symm.trans h) (by simp)
  have h := (if_pos c5).symm.trans h
  obtain ⟨q3, h4, h⟩ := Option.bind_eq_some_iff.mp h
  refine J_callV (md' := md_X1_has) (As := [.inl x1]) (st := []) (cs' := (0, 0)) (st' := [.inl q3.1]) (jat ok_X5_allies 3 (pc := 5) (i := .invokevirtual 128) (n := 3) rfl rfl) ml_RX5_128 yv_X1_has c5 (c_X1_has l g (d + 2) h4) (jRo_of (by decide)) (Nat.le_of_ble_eq_true rfl) ⟨Nat.le_of_ble_eq_true rfl, Nat.le_of_ble_eq_true rfl⟩ rfl rfl rfl ?_
  refine J_ne0 (jat ok_X5_allies 4 (pc := 8) (i := .ifCond .ne 5) (n := 3) rfl rfl) (tgt := 13) (by decide) (fun c => ?_) (fun c => ?_)
  · have h := (if_neg c).symm.trans h
    refine J_seg ok_X5_allies 7 3 (pc' := 16) (ls' := [(2, .inl 0), (0, .inr (.inr (.inl x0))), (1, .inl x1)]) (st' := [.inr (.inr (.inl x0))]) rfl ?_
    obtain ⟨v6, h7, h⟩ := Option.bind_eq_some_iff.mp h
    refine J_getR (jat ok_X5_allies 10 (pc := 16) (i := .getfield 28) (n := 3) rfl rfl) fl_RX5_28 h7 ?_
    refine J_seg ok_X5_allies 11 1 (pc' := 20) (ls' := [(2, .inl 0), (0, .inr (.inr (.inl x0))), (1, .inl x1)]) (st' := [.inr (.inr (.inl x0)), .inr (.inr (.inl v6))]) rfl ?_
    obtain ⟨v8, h9, h⟩ := Option.bind_eq_some_iff.mp h
    refine J_getR (jat ok_X5_allies 12 (pc := 20) (i := .getfield 28) (n := 3) rfl rfl) fl_RX5_28 h9 ?_
    refine J_seg ok_X5_allies 13 1 (pc' := 24) (ls' := [(2, .inl 0), (0, .inr (.inr (.inl x0))), (1, .inl x1)]) (st' := [.inl x1, .inr (.inr (.inl v8)), .inr (.inr (.inl v6))]) rfl ?_
    by_cases c12 : qO q3.2 v8 4 = true
    case neg => exact absurd ((if_neg c12).symm.trans h) (by simp)
    have h := (if_pos c12).symm.trans h
    obtain ⟨q10, h11, h⟩ := Option.bind_eq_some_iff.mp h
    refine J_callV (md' := md_X4_foeOf) (As := [.inl x1]) (st := [.inr (.inr (.inl v6))]) (cs' := (0, 0)) (st' := [.inl q10.1, .inr (.inr (.inl v6))]) (jat ok_X5_allies 14 (pc := 24) (i := .invokevirtual 203) (n := 3) rfl rfl) ml_RX5_203 yv_X4_foeOf c12 (c_X4_foeOf l g (d + 0) h11) (jRo_of (by decide)) (Nat.le_of_ble_eq_true rfl) ⟨Nat.le_of_ble_eq_true rfl, Nat.le_of_ble_eq_true rfl⟩ rfl rfl rfl ?_
    by_cases c15 : qO q10.2 v6 4 = true
    case neg => exact absurd ((if_neg c15).symm.trans h) (by simp)
    have h := (if_pos c15).symm.trans h
    obtain ⟨q13, h14, h⟩ := Option.bind_eq_some_iff.mp h
    refine J_callV (md' := md_X4_foeOf) (As := [.inl q10.1]) (st := []) (cs' := (0, 0)) (st' := [.inl q13.1]) (jat ok_X5_allies 15 (pc := 27) (i := .invokevirtual 203) (n := 3) rfl rfl) ml_RX5_203 yv_X4_foeOf c15 (c_X4_foeOf l g (d + 0) h14) (jRo_of (by decide)) (Nat.le_of_ble_eq_true rfl) ⟨Nat.le_of_ble_eq_true rfl, Nat.le_of_ble_eq_true rfl⟩ rfl rfl rfl ?_
    refine J_seg ok_X5_allies 16 3 (pc' := 34) (ls' := [(4, .inl 0), (3, .inl q13.1), (2, .inl 0), (0, .inr (.inr (.inl x0))), (1, .inl x1)]) (st' := []) rfl ?_
    obtain ⟨q28, h29, h⟩ := Option.bind_eq_some_iff.mp h
    refine J_sub (ls' := [(0, .inr (.inr (.inl x0))), (1, .inl x1), (2, .inl 0), (3, .inl q13.1), (4, .inl 0)]) [3, 4, 2, 1, 0] rfl ?_
    refine J_loop (pE := 88) (lh := fun t31 => [(0, .inr (.inr (.inl x0))), (1, .inl x1), (2, .inl t31.1), (3, .inl t31.2.1), (4, .inl t31.2.2)]) (lx := fun z30 => [(2, .inl z30)]) (P := jRetI l g md_X5_allies (jRm (d + 3) md_X5_allies) Q (0, 0)) (fun s ah out hb hR hX hN => k_X5_allies_b34 d s ah out hb hR hX hN) jfuel (0, q13.1, 0) _ _ h29 (fun r e => ?_) (fun z30 e => ?_)
    · subst e
      dsimp only at h
      have h := Option.some.inj h
      subst h
      exact hR
    · subst e
      dsimp only at h
      refine J_seg ok_X5_allies 49 1 (pc' := 89) (ls' := [(2, .inl z30.1)]) (st' := [.inl z30.1]) rfl ?_
      have h := Option.some.inj h
      subst h
      exact hR _ _ (jat ok_X5_allies 50 (pc := 89) (i := .ireturn) (n := 1) rfl rfl)
  · have h := (if_pos c).symm.trans h
    refine J_seg ok_X5_allies 5 1 (pc' := 12) (ls' := [(0, .inr (.inr (.inl x0))), (1, .inl x1)]) (st' := [.inl (-1)]) rfl ?_
    have h := Option.some.inj h
    subst h
    exact hR _ _ (jat ok_X5_allies 6 (pc := 12) (i := .ireturn) (n := 1) rfl rfl)
theorem c_X5_allies (l : Launch) (g : GX) (d : Nat) {x0 : Option Nat} {x1 : Int32} {ah : AH} {q : Int32 × AH} (h : f_X5_allies x0 x1 ah = some q) : jM l g (d + 3) md_X5_allies [.inr (.inr (.inl x0)), .inl x1] ah (some (.inl q.1)) q.2 :=
  jM_of (by decide) (Nat.le_of_ble_eq_true rfl) (k_X5_allies d ah q h (fun pc ls hd => J_reti hd rfl (jPV_int _) rfl (Nat.le_refl _) rfl rfl))
def f_X5_lossOf (x0 : Option Nat) (x1 : Int32) (ah : AH) : Option (Int32 × AH) :=
  (gR ah x0 5 3).bind fun v1 => if qO ah v1 4 = true then ((f_X4_foeOf v1 x1 ah).bind fun q3 => if q3.1 = (-9) then (some (0, q3.2)) else ((gR q3.2 x0 5 8).bind fun v6 => if qO q3.2 v6 1 = true then ((f_X1_against v6 q3.1 x1 q3.2).bind fun q8 => some (q8.1, q8.2)) else none)) else none
set_option maxRecDepth 100000 in
set_option maxHeartbeats 4000000 in
theorem k_X5_lossOf {l : Launch} {g : GX} (d : Nat) {Q : jQ} {x0 : Option Nat} {x1 : Int32} (ah : AH) (out : Int32 × AH) (h : f_X5_lossOf x0 x1 ah = some out) (hR : jRetI l g md_X5_lossOf (jRm (d + 5) md_X5_lossOf) Q (0, 0) out.1 out.2) : J l g md_X5_lossOf (jRm (d + 5) md_X5_lossOf) Q 0 [(0, .inr (.inr (.inl x0))), (1, .inl x1)] [] ah (0, 0) := by
  unfold f_X5_lossOf at h
  refine J_seg ok_X5_lossOf 0 1 (pc' := 1) (ls' := [(0, .inr (.inr (.inl x0))), (1, .inl x1)]) (st' := [.inr (.inr (.inl x0))]) rfl ?_
  obtain ⟨v1, h2, h⟩ := Option.bind_eq_some_iff.mp h
  refine J_getR (jat ok_X5_lossOf 1 (pc := 1) (i := .getfield 28) (n := 3) rfl rfl) fl_RX5_28 h2 ?_
  refine J_seg ok_X5_lossOf 2 1 (pc' := 5) (ls' := [(0, .inr (.inr (.inl x0))), (1, .inl x1)]) (st' := [.inl x1, .inr (.inr (.inl v1))]) rfl ?_
  by_cases c5 : qO ah v1 4 = true
  case neg => exact absurd ((if_neg c5).symm.trans h) (by simp)
  have h := (if_pos c5).symm.trans h
  obtain ⟨q3, h4, h⟩ := Option.bind_eq_some_iff.mp h
  refine J_callV (md' := md_X4_foeOf) (As := [.inl x1]) (st := []) (cs' := (0, 0)) (st' := [.inl q3.1]) (jat ok_X5_lossOf 3 (pc := 5) (i := .invokevirtual 203) (n := 3) rfl rfl) ml_RX5_203 yv_X4_foeOf c5 (c_X4_foeOf l g (d + 2) h4) (jRo_of (by decide)) (Nat.le_of_ble_eq_true rfl) ⟨Nat.le_of_ble_eq_true rfl, Nat.le_of_ble_eq_true rfl⟩ rfl rfl rfl ?_
  refine J_seg ok_X5_lossOf 4 3 (pc' := 12) (ls' := [(2, .inl q3.1), (0, .inr (.inr (.inl x0))), (1, .inl x1)]) (st' := [.inl (-9), .inl q3.1]) rfl ?_
  refine J_ne (jat ok_X5_lossOf 7 (pc := 12) (i := .if_icmp .ne 7) (n := 3) rfl rfl) (tgt := 19) (by decide) (fun c => ?_) (fun c => ?_)
  · have h := (if_neg c).symm.trans h
    refine J_seg ok_X5_lossOf 10 1 (pc' := 20) (ls' := [(2, .inl q3.1), (0, .inr (.inr (.inl x0))), (1, .inl x1)]) (st' := [.inr (.inr (.inl x0))]) rfl ?_
    obtain ⟨v6, h7, h⟩ := Option.bind_eq_some_iff.mp h
    refine J_getR (jat ok_X5_lossOf 11 (pc := 20) (i := .getfield 53) (n := 3) rfl rfl) fl_RX5_53 h7 ?_
    refine J_seg ok_X5_lossOf 12 2 (pc' := 25) (ls' := [(2, .inl q3.1), (0, .inr (.inr (.inl x0))), (1, .inl x1)]) (st' := [.inl x1, .inl q3.1, .inr (.inr (.inl v6))]) rfl ?_
    by_cases c10 : qO q3.2 v6 1 = true
    case neg => exact absurd ((if_neg c10).symm.trans h) (by simp)
    have h := (if_pos c10).symm.trans h
    obtain ⟨q8, h9, h⟩ := Option.bind_eq_some_iff.mp h
    refine J_callV (md' := md_X1_against) (As := [.inl q3.1, .inl x1]) (st := []) (cs' := (0, 0)) (st' := [.inl q8.1]) (jat ok_X5_lossOf 14 (pc := 25) (i := .invokevirtual 162) (n := 3) rfl rfl) ml_RX5_162 yv_X1_against c10 (c_X1_against l g (d + 0) h9) (jRo_of (by decide)) (Nat.le_of_ble_eq_true rfl) ⟨Nat.le_of_ble_eq_true rfl, Nat.le_of_ble_eq_true rfl⟩ rfl rfl rfl ?_
    have h := Option.some.inj h
    subst h
    exact hR _ _ (jat ok_X5_lossOf 15 (pc := 28) (i := .ireturn) (n := 1) rfl rfl)
  · have h := (if_pos c).symm.trans h
    refine J_seg ok_X5_lossOf 8 2 (pc' := 28) (ls' := [(2, .inl q3.1), (0, .inr (.inr (.inl x0))), (1, .inl x1)]) (st' := [.inl 0]) rfl ?_
    have h := Option.some.inj h
    subst h
    exact hR _ _ (jat ok_X5_lossOf 15 (pc := 28) (i := .ireturn) (n := 1) rfl rfl)
theorem c_X5_lossOf (l : Launch) (g : GX) (d : Nat) {x0 : Option Nat} {x1 : Int32} {ah : AH} {q : Int32 × AH} (h : f_X5_lossOf x0 x1 ah = some q) : jM l g (d + 5) md_X5_lossOf [.inr (.inr (.inl x0)), .inl x1] ah (some (.inl q.1)) q.2 :=
  jM_of (by decide) (Nat.le_of_ble_eq_true rfl) (k_X5_lossOf d ah q h (fun pc ls hd => J_reti hd rfl (jPV_int _) rfl (Nat.le_refl _) rfl rfl))
def f_X5_safe_b17_j44 (k0 : Option Nat) (x1 : Int32) (x2 : Int32) (ah : AH) : Option ((Unit × AH) ⊕ (((Int32) × AH) ⊕ ((Int32 × Int32) × AH))) :=
  some (.inr (.inr ((x1 ||| (1 <<< (x2 &&& 31)), x2 + 1), ah)))
set_option maxRecDepth 100000 in
set_option maxHeartbeats 4000000 in
theorem k_X5_safe_b17_j44 {l : Launch} {g : GX} (d : Nat) {Q : jQ} {k0 : Option Nat} {x1 : Int32} {x2 : Int32} (ah : AH) (out : (Unit × AH) ⊕ (((Int32) × AH) ⊕ ((Int32 × Int32) × AH))) (h : f_X5_safe_b17_j44 k0 x1 x2 ah = some out) (hR : ∀ q, out = .inl q → jRetN q.1 q.2) (hX : ∀ q, out = .inr (.inl q) → J l g md_X5_safe (jRm (d + 6) md_X5_safe) Q 56 [(1, .inl q.1)] [] q.2 (0, 0)) (hN : ∀ q, out = .inr (.inr q) → J l g md_X5_safe (jRm (d + 6) md_X5_safe) Q 17 [(0, .inr (.inr (.inl k0))), (1, .inl q.1.1), (2, .inl q.1.2)] [] q.2 (0, 0)) : J l g md_X5_safe (jRm (d + 6) md_X5_safe) Q 44 [(0, .inr (.inr (.inl k0))), (1, .inl x1), (2, .inl x2)] [] ah (0, 0) := by
  unfold f_X5_safe_b17_j44 at h
  refine J_seg ok_X5_safe 23 8 (pc' := 17) (ls' := [(2, .inl (x2 + 1)), (1, .inl (x1 ||| (1 <<< (x2 &&& 31)))), (0, .inr (.inr (.inl k0)))]) (st' := []) rfl ?_
  exact J_sub (ls' := [(0, .inr (.inr (.inl k0))), (1, .inl (x1 ||| (1 <<< (x2 &&& 31)))), (2, .inl (x2 + 1))]) [2, 1, 0] rfl (hN ((x1 ||| (1 <<< (x2 &&& 31)), x2 + 1), ah) (Option.some.inj h).symm)
def f_X5_safe_b17 (k0 : Option Nat) (s17 : Int32 × Int32) (ah : AH) : Option ((Unit × AH) ⊕ (((Int32) × AH) ⊕ ((Int32 × Int32) × AH))) :=
  (gR ah k0 5 8).bind fun v5 => (gI ah v5 1 5).bind fun v7 => if v7 ≤ s17.2 then (some (.inr (.inl (s17.1, ah)))) else (if qO ah k0 5 = true then ((f_X5_hasReached k0 s17.2 ah).bind fun q9 => if q9.1 = 0 then (if qO q9.2 k0 5 = true then ((f_X5_lossOf k0 s17.2 q9.2).bind fun q12 => if q12.1 = 0 then (f_X5_safe_b17_j44 k0 s17.1 s17.2 q12.2) else (some (.inr (.inr ((s17.1, s17.2 + 1), q12.2))))) else none) else (f_X5_safe_b17_j44 k0 s17.1 s17.2 q9.2)) else none)
set_option maxRecDepth 100000 in
set_option maxHeartbeats 4000000 in
theorem k_X5_safe_b17 {l : Launch} {g : GX} (d : Nat) {Q : jQ} {k0 : Option Nat} (s17 : Int32 × Int32) (ah : AH) (out : (Unit × AH) ⊕ (((Int32) × AH) ⊕ ((Int32 × Int32) × AH))) (h : f_X5_safe_b17 k0 s17 ah = some out) (hR : ∀ q, out = .inl q → jRetN q.1 q.2) (hX : ∀ q, out = .inr (.inl q) → J l g md_X5_safe (jRm (d + 6) md_X5_safe) Q 56 [(1, .inl q.1)] [] q.2 (0, 0)) (hN : ∀ q, out = .inr (.inr q) → J l g md_X5_safe (jRm (d + 6) md_X5_safe) Q 17 [(0, .inr (.inr (.inl k0))), (1, .inl q.1.1), (2, .inl q.1.2)] [] q.2 (0, 0)) : J l g md_X5_safe (jRm (d + 6) md_X5_safe) Q 17 [(0, .inr (.inr (.inl k0))), (1, .inl s17.1), (2, .inl s17.2)] [] ah (0, 0) := by
  unfold f_X5_safe_b17 at h
  refine J_seg ok_X5_safe 10 2 (pc' := 19) (ls' := [(0, .inr (.inr (.inl k0))), (1, .inl s17.1), (2, .inl s17.2)]) (st' := [.inr (.inr (.inl k0)), .inl s17.2]) rfl ?_
  obtain ⟨v5, h6, h⟩ := Option.bind_eq_some_iff.mp h
  refine J_getR (jat ok_X5_safe 12 (pc := 19) (i := .getfield 53) (n := 3) rfl rfl) fl_RX5_53 h6 ?_
  obtain ⟨v7, h8, h⟩ := Option.bind_eq_some_iff.mp h
  refine J_getI (jat ok_X5_safe 13 (pc := 22) (i := .getfield 127) (n := 3) rfl rfl) fl_RX5_127 h8 ?_
  refine J_ge (jat ok_X5_safe 14 (pc := 25) (i := .if_icmp .ge 31) (n := 3) rfl rfl) (tgt := 56) (by decide) (fun c => ?_) (fun c => ?_)
  · have h := (if_pos c).symm.trans h
    exact J_sub (ls' := [(1, .inl s17.1)]) [1] rfl (hX (s17.1, ah) (Option.some.inj h).symm)
  · have h := (if_neg c).symm.trans h
    refine J_seg ok_X5_safe 15 2 (pc' := 30) (ls' := [(0, .inr (.inr (.inl k0))), (1, .inl s17.1), (2, .inl s17.2)]) (st' := [.inl s17.2, .inr (.inr (.inl k0))]) rfl ?_
    by_cases c11 : qO ah k0 5 = true
    case neg => exact absurd ((if_neg c11).symm.trans h) (by simp)
    have h := (if_pos c11).symm.trans h
    obtain ⟨q9, h10, h⟩ := Option.bind_eq_some_iff.mp h
    refine J_callV (md' := md_X5_hasReached) (As := [.inl s17.2]) (st := []) (cs' := (0, 0)) (st' := [.inl q9.1]) (jat ok_X5_safe 17 (pc := 30) (i := .invokevirtual 206) (n := 3) rfl rfl) ml_RX5_206 yv_X5_hasReached c11 (c_X5_hasReached l g (d + 3) h10) (jRo_of (by decide)) (Nat.le_of_ble_eq_true rfl) ⟨Nat.le_of_ble_eq_true rfl, Nat.le_of_ble_eq_true rfl⟩ rfl rfl rfl ?_
    refine J_ne0 (jat ok_X5_safe 18 (pc := 33) (i := .ifCond .ne 11) (n := 3) rfl rfl) (tgt := 44) (by decide) (fun c => ?_) (fun c => ?_)
    · have h := (if_neg c).symm.trans h
      refine J_sub (ls' := [(0, .inr (.inr (.inl k0))), (1, .inl s17.1), (2, .inl s17.2)]) [0, 1, 2] rfl ?_
      exact k_X5_safe_b17_j44 d _ _ h hR hX hN
    · have h := (if_pos c).symm.trans h
      refine J_seg ok_X5_safe 19 2 (pc' := 38) (ls' := [(0, .inr (.inr (.inl k0))), (1, .inl s17.1), (2, .inl s17.2)]) (st' := [.inl s17.2, .inr (.inr (.inl k0))]) rfl ?_
      by_cases c14 : qO q9.2 k0 5 = true
      case neg => exact absurd ((if_neg c14).symm.trans h) (by simp)
      have h := (if_pos c14).symm.trans h
      obtain ⟨q12, h13, h⟩ := Option.bind_eq_some_iff.mp h
      refine J_callV (md' := md_X5_lossOf) (As := [.inl s17.2]) (st := []) (cs' := (0, 0)) (st' := [.inl q12.1]) (jat ok_X5_safe 21 (pc := 38) (i := .invokevirtual 209) (n := 3) rfl rfl) ml_RX5_209 yv_X5_lossOf c14 (c_X5_lossOf l g (d + 0) h13) (jRo_of (by decide)) (Nat.le_of_ble_eq_true rfl) ⟨Nat.le_of_ble_eq_true rfl, Nat.le_of_ble_eq_true rfl⟩ rfl rfl rfl ?_
      refine J_ne0 (jat ok_X5_safe 22 (pc := 41) (i := .ifCond .ne 9) (n := 3) rfl rfl) (tgt := 50) (by decide) (fun c => ?_) (fun c => ?_)
      · have h := (if_neg c).symm.trans h
        refine J_seg ok_X5_safe 29 2 (pc' := 17) (ls' := [(2, .inl (s17.2 + 1)), (0, .inr (.inr (.inl k0))), (1, .inl s17.1)]) (st' := []) rfl ?_
        exact J_sub (ls' := [(0, .inr (.inr (.inl k0))), (1, .inl s17.1), (2, .inl (s17.2 + 1))]) [1, 2, 0] rfl (hN ((s17.1, s17.2 + 1), q12.2) (Option.some.inj h).symm)
      · have h := (if_pos c).symm.trans h
        refine J_sub (ls' := [(0, .inr (.inr (.inl k0))), (1, .inl s17.1), (2, .inl s17.2)]) [0, 1, 2] rfl ?_
        exact k_X5_safe_b17_j44 d _ _ h hR hX hN
def f_X5_safe (x0 : Option Nat) (ah : AH) : Option (Int32 × AH) :=
  (gR ah x0 5 8).bind fun v1 => (gI ah v1 1 5).bind fun v3 => if v3 = 0 then (some ((-4), ah)) else ((jloop (f_X5_safe_b17 x0) jfuel (0, 0) ah).bind fun q15 => match q15 with | .inl r => none | .inr z17 => some (z17.1, z17.2))
set_option maxRecDepth 100000 in
set_option maxHeartbeats 4000000 in
theorem k_X5_safe {l : Launch} {g : GX} (d : Nat) {Q : jQ} {x0 : Option Nat} (ah : AH) (out : Int32 × AH) (h : f_X5_safe x0 ah = some out) (hR : jRetI l g md_X5_safe (jRm (d + 6) md_X5_safe) Q (0, 0) out.1 out.2) : J l g md_X5_safe (jRm (d + 6) md_X5_safe) Q 0 [(0, .inr (.inr (.inl x0)))] [] ah (0, 0) := by
  unfold f_X5_safe at h
  refine J_seg ok_X5_safe 0 1 (pc' := 1) (ls' := [(0, .inr (.inr (.inl x0)))]) (st' := [.inr (.inr (.inl x0))]) rfl ?_
  obtain ⟨v1, h2, h⟩ := Option.bind_eq_some_iff.mp h
  refine J_getR (jat ok_X5_safe 1 (pc := 1) (i := .getfield 53) (n := 3) rfl rfl) fl_RX5_53 h2 ?_
  obtain ⟨v3, h4, h⟩ := Option.bind_eq_some_iff.mp h
  refine J_getI (jat ok_X5_safe 2 (pc := 4) (i := .getfield 127) (n := 3) rfl rfl) fl_RX5_127 h4 ?_
  refine J_ne0 (jat ok_X5_safe 3 (pc := 7) (i := .ifCond .ne 6) (n := 3) rfl rfl) (tgt := 13) (by decide) (fun c => ?_) (fun c => ?_)
  · have h := (if_neg c).symm.trans h
    refine J_seg ok_X5_safe 6 4 (pc' := 17) (ls' := [(2, .inl 0), (1, .inl 0), (0, .inr (.inr (.inl x0)))]) (st' := []) rfl ?_
    obtain ⟨q15, h16, h⟩ := Option.bind_eq_some_iff.mp h
    refine J_sub (ls' := [(0, .inr (.inr (.inl x0))), (1, .inl 0), (2, .inl 0)]) [2, 1, 0] rfl ?_
    refine J_loop (pE := 56) (lh := fun t18 => [(0, .inr (.inr (.inl x0))), (1, .inl t18.1), (2, .inl t18.2)]) (lx := fun z17 => [(1, .inl z17)]) (P := jRetN) (fun s ah out hb hR hX hN => k_X5_safe_b17 d s ah out hb hR hX hN) jfuel (0, 0) _ _ h16 (fun r e => ?_) (fun z17 e => ?_)
    · subst e
      dsimp only at h
      cases h
    · subst e
      dsimp only at h
      refine J_seg ok_X5_safe 31 1 (pc' := 57) (ls' := [(1, .inl z17.1)]) (st' := [.inl z17.1]) rfl ?_
      have h := Option.some.inj h
      subst h
      exact hR _ _ (jat ok_X5_safe 32 (pc := 57) (i := .ireturn) (n := 1) rfl rfl)
  · have h := (if_pos c).symm.trans h
    refine J_seg ok_X5_safe 4 1 (pc' := 12) (ls' := [(0, .inr (.inr (.inl x0)))]) (st' := [.inl (-4)]) rfl ?_
    have h := Option.some.inj h
    subst h
    exact hR _ _ (jat ok_X5_safe 5 (pc := 12) (i := .ireturn) (n := 1) rfl rfl)
theorem c_X5_safe (l : Launch) (g : GX) (d : Nat) {x0 : Option Nat} {ah : AH} {q : Int32 × AH} (h : f_X5_safe x0 ah = some q) : jM l g (d + 6) md_X5_safe [.inr (.inr (.inl x0))] ah (some (.inl q.1)) q.2 :=
  jM_of (by decide) (Nat.le_of_ble_eq_true rfl) (k_X5_safe d ah q h (fun pc ls hd => J_reti hd rfl (jPV_int _) rfl (Nat.le_refl _) rfl rfl))
def f_X5_afterWeek (x0 : Int32) (x1 : Int32) (ah : AH) : Option (Int32 × AH) :=
  some ((if 0 < ((x0 + 1) - x1) then ((x0 + 1) - x1) else 0), ah)
set_option maxRecDepth 100000 in
set_option maxHeartbeats 4000000 in
theorem k_X5_afterWeek {l : Launch} {g : GX} (d : Nat) {Q : jQ} {x0 : Int32} {x1 : Int32} (ah : AH) (out : Int32 × AH) (h : f_X5_afterWeek x0 x1 ah = some out) (hR : jRetI l g md_X5_afterWeek (jRm (d + 1) md_X5_afterWeek) Q (0, 0) out.1 out.2) : J l g md_X5_afterWeek (jRm (d + 1) md_X5_afterWeek) Q 0 [(0, .inl x0), (1, .inl x1)] [] ah (0, 0) := by
  unfold f_X5_afterWeek at h
  refine J_seg ok_X5_afterWeek 0 6 (pc' := 6) (ls' := [(0, .inl x0), (1, .inl x1)]) (st' := [.inl ((x0 + 1) - x1), .inl 0]) rfl ?_
  refine J_max (jat ok_X5_afterWeek 6 (pc := 6) (i := .invokestatic 342) (n := 3) rfl rfl) mm_RX5_342 mw_max ⟨by show 1 ≤ d + 1; omega, by show 21 ≤ 64 * (d + 1); omega⟩ (Nat.le_of_ble_eq_true rfl) ⟨Nat.le_of_ble_eq_true rfl, Nat.le_of_ble_eq_true rfl⟩ ?_
  have h := Option.some.inj h
  subst h
  exact hR _ _ (jat ok_X5_afterWeek 7 (pc := 9) (i := .ireturn) (n := 1) rfl rfl)
theorem c_X5_afterWeek (l : Launch) (g : GX) (d : Nat) {x0 : Int32} {x1 : Int32} {ah : AH} {q : Int32 × AH} (h : f_X5_afterWeek x0 x1 ah = some q) : jM l g (d + 1) md_X5_afterWeek [.inl x0, .inl x1] ah (some (.inl q.1)) q.2 :=
  jM_of (by decide) (Nat.le_of_ble_eq_true rfl) (k_X5_afterWeek d ah q h (fun pc ls hd => J_reti hd rfl (jPV_int _) rfl (Nat.le_refl _) rfl rfl))
def f_X5_fewestWeeks_b29_j66 (k0 : Option Nat) (k1 : Int32) (k2 : Int32) (k4 : Int32) (x5 : Int32) (y0 : Int32) (y1 : Int32) (ah : AH) : Option ((Int32 × AH) ⊕ (((Unit) × AH) ⊕ ((Int32 × Int32) × AH))) :=
  (f_X5_afterWeek y1 y0 ah).bind fun q12 => (gR q12.2 k0 5 8).bind fun v14 => if qO q12.2 v14 1 = true then ((f_X1_aimOf v14 k1 q12.2).bind fun q16 => if q12.1 < q16.1 then (some (.inr (.inr ((q12.1, x5 + 1), q16.2)))) else (some (.inl (x5, q16.2)))) else none
set_option maxRecDepth 100000 in
set_option maxHeartbeats 4000000 in
theorem k_X5_fewestWeeks_b29_j66 {l : Launch} {g : GX} (d : Nat) {Q : jQ} {k0 : Option Nat} {k1 : Int32} {k2 : Int32} {k4 : Int32} {x5 : Int32} {y0 : Int32} {y1 : Int32} (ah : AH) (out : (Int32 × AH) ⊕ (((Unit) × AH) ⊕ ((Int32 × Int32) × AH))) (h : f_X5_fewestWeeks_b29_j66 k0 k1 k2 k4 x5 y0 y1 ah = some out) (hR : ∀ q, out = .inl q → jRetI l g md_X5_fewestWeeks (jRm (d + 6) md_X5_fewestWeeks) Q (0, 0) q.1 q.2) (hX : ∀ q, out = .inr (.inl q) → J l g md_X5_fewestWeeks (jRm (d + 6) md_X5_fewestWeeks) Q 91 [] [] q.2 (0, 0)) (hN : ∀ q, out = .inr (.inr q) → J l g md_X5_fewestWeeks (jRm (d + 6) md_X5_fewestWeeks) Q 29 [(0, .inr (.inr (.inl k0))), (1, .inl k1), (2, .inl k2), (3, .inl q.1.1), (4, .inl k4), (5, .inl q.1.2)] [] q.2 (0, 0)) : J l g md_X5_fewestWeeks (jRm (d + 6) md_X5_fewestWeeks) Q 66 [(0, .inr (.inr (.inl k0))), (1, .inl k1), (2, .inl k2), (4, .inl k4), (5, .inl x5)] [.inl y0, .inl y1] ah (0, 0) := by
  unfold f_X5_fewestWeeks_b29_j66 at h
  obtain ⟨q12, h13, h⟩ := Option.bind_eq_some_iff.mp h
  refine J_callS (md' := md_X5_afterWeek) (As := [.inl y1, .inl y0]) (st := []) (cs' := (0, 0)) (st' := [.inl q12.1]) (jat ok_X5_fewestWeeks 36 (pc := 66) (i := .invokestatic 354) (n := 3) rfl rfl) (Or.inl ml_RX5_354) ys_X5_afterWeek (c_X5_afterWeek l g (d + 4) h13) (jRo_of (by decide)) (Nat.le_of_ble_eq_true rfl) ⟨Nat.le_of_ble_eq_true rfl, Nat.le_of_ble_eq_true rfl⟩ rfl rfl rfl ?_
  refine J_seg ok_X5_fewestWeeks 37 3 (pc' := 72) (ls' := [(3, .inl q12.1), (0, .inr (.inr (.inl k0))), (1, .inl k1), (2, .inl k2), (4, .inl k4), (5, .inl x5)]) (st' := [.inr (.inr (.inl k0)), .inl q12.1]) rfl ?_
  obtain ⟨v14, h15, h⟩ := Option.bind_eq_some_iff.mp h
  refine J_getR (jat ok_X5_fewestWeeks 40 (pc := 72) (i := .getfield 53) (n := 3) rfl rfl) fl_RX5_53 h15 ?_
  refine J_seg ok_X5_fewestWeeks 41 1 (pc' := 76) (ls' := [(3, .inl q12.1), (0, .inr (.inr (.inl k0))), (1, .inl k1), (2, .inl k2), (4, .inl k4), (5, .inl x5)]) (st' := [.inl k1, .inr (.inr (.inl v14)), .inl q12.1]) rfl ?_
  by_cases c18 : qO q12.2 v14 1 = true
  case neg => exact absurd ((if_neg c18).symm.trans h) (by simp)
  have h := (if_pos c18).symm.trans h
  obtain ⟨q16, h17, h⟩ := Option.bind_eq_some_iff.mp h
  refine J_callV (md' := md_X1_aimOf) (As := [.inl k1]) (st := [.inl q12.1]) (cs' := (0, 0)) (st' := [.inl q16.1, .inl q12.1]) (jat ok_X5_fewestWeeks 42 (pc := 76) (i := .invokevirtual 324) (n := 3) rfl rfl) ml_RX5_324 yv_X1_aimOf c18 (c_X1_aimOf l g (d + 4) h17) (jRo_of (by decide)) (Nat.le_of_ble_eq_true rfl) ⟨Nat.le_of_ble_eq_true rfl, Nat.le_of_ble_eq_true rfl⟩ rfl rfl rfl ?_
  refine J_lt (jat ok_X5_fewestWeeks 43 (pc := 79) (i := .if_icmp .lt 6) (n := 3) rfl rfl) (tgt := 85) (by decide) (fun c => ?_) (fun c => ?_)
  · have h := (if_pos c).symm.trans h
    refine J_seg ok_X5_fewestWeeks 46 2 (pc' := 29) (ls' := [(5, .inl (x5 + 1)), (3, .inl q12.1), (0, .inr (.inr (.inl k0))), (1, .inl k1), (2, .inl k2), (4, .inl k4)]) (st' := []) rfl ?_
    exact J_sub (ls' := [(0, .inr (.inr (.inl k0))), (1, .inl k1), (2, .inl k2), (3, .inl q12.1), (4, .inl k4), (5, .inl (x5 + 1))]) [2, 3, 4, 1, 5, 0] rfl (hN ((q12.1, x5 + 1), q16.2) (Option.some.inj h).symm)
  · have h := (if_neg c).symm.trans h
    refine J_seg ok_X5_fewestWeeks 44 1 (pc' := 84) (ls' := [(3, .inl q12.1), (0, .inr (.inr (.inl k0))), (1, .inl k1), (2, .inl k2), (4, .inl k4), (5, .inl x5)]) (st' := [.inl x5]) rfl ?_
    exact hR _ (Option.some.inj h).symm _ _ (jat ok_X5_fewestWeeks 45 (pc := 84) (i := .ireturn) (n := 1) rfl rfl)
def f_X5_fewestWeeks_b29_j52 (k0 : Option Nat) (k1 : Int32) (k2 : Int32) (k4 : Int32) (x3 : Int32) (x5 : Int32) (y0 : Int32) (ah : AH) : Option ((Int32 × AH) ⊕ (((Unit) × AH) ⊕ ((Int32 × Int32) × AH))) :=
  if y0 = 0 then (f_X5_fewestWeeks_b29_j66 k0 k1 k2 k4 x5 0 x3 ah) else (f_X5_fewestWeeks_b29_j66 k0 k1 k2 k4 x5 k4 x3 ah)
set_option maxRecDepth 100000 in
set_option maxHeartbeats 4000000 in
theorem k_X5_fewestWeeks_b29_j52 {l : Launch} {g : GX} (d : Nat) {Q : jQ} {k0 : Option Nat} {k1 : Int32} {k2 : Int32} {k4 : Int32} {x3 : Int32} {x5 : Int32} {y0 : Int32} (ah : AH) (out : (Int32 × AH) ⊕ (((Unit) × AH) ⊕ ((Int32 × Int32) × AH))) (h : f_X5_fewestWeeks_b29_j52 k0 k1 k2 k4 x3 x5 y0 ah = some out) (hR : ∀ q, out = .inl q → jRetI l g md_X5_fewestWeeks (jRm (d + 6) md_X5_fewestWeeks) Q (0, 0) q.1 q.2) (hX : ∀ q, out = .inr (.inl q) → J l g md_X5_fewestWeeks (jRm (d + 6) md_X5_fewestWeeks) Q 91 [] [] q.2 (0, 0)) (hN : ∀ q, out = .inr (.inr q) → J l g md_X5_fewestWeeks (jRm (d + 6) md_X5_fewestWeeks) Q 29 [(0, .inr (.inr (.inl k0))), (1, .inl k1), (2, .inl k2), (3, .inl q.1.1), (4, .inl k4), (5, .inl q.1.2)] [] q.2 (0, 0)) : J l g md_X5_fewestWeeks (jRm (d + 6) md_X5_fewestWeeks) Q 52 [(0, .inr (.inr (.inl k0))), (1, .inl k1), (2, .inl k2), (3, .inl x3), (4, .inl k4), (5, .inl x5)] [.inl y0] ah (0, 0) := by
  unfold f_X5_fewestWeeks_b29_j52 at h
  refine J_seg ok_X5_fewestWeeks 29 3 (pc' := 57) (ls' := [(6, .inl y0), (0, .inr (.inr (.inl k0))), (1, .inl k1), (2, .inl k2), (3, .inl x3), (4, .inl k4), (5, .inl x5)]) (st' := [.inl y0, .inl x3]) rfl ?_
  refine J_eq0 (jat ok_X5_fewestWeeks 32 (pc := 57) (i := .ifCond .eq 8) (n := 3) rfl rfl) (tgt := 65) (by decide) (fun c => ?_) (fun c => ?_)
  · have h := (if_pos c).symm.trans h
    refine J_seg ok_X5_fewestWeeks 35 1 (pc' := 66) (ls' := [(6, .inl y0), (0, .inr (.inr (.inl k0))), (1, .inl k1), (2, .inl k2), (3, .inl x3), (4, .inl k4), (5, .inl x5)]) (st' := [.inl 0, .inl x3]) rfl ?_
    refine J_sub (ls' := [(0, .inr (.inr (.inl k0))), (1, .inl k1), (2, .inl k2), (4, .inl k4), (5, .inl x5)]) [1, 2, 3, 5, 6] rfl ?_
    exact k_X5_fewestWeeks_b29_j66 d _ _ h hR hX hN
  · have h := (if_neg c).symm.trans h
    refine J_seg ok_X5_fewestWeeks 33 2 (pc' := 66) (ls' := [(6, .inl y0), (0, .inr (.inr (.inl k0))), (1, .inl k1), (2, .inl k2), (3, .inl x3), (4, .inl k4), (5, .inl x5)]) (st' := [.inl k4, .inl x3]) rfl ?_
    refine J_sub (ls' := [(0, .inr (.inr (.inl k0))), (1, .inl k1), (2, .inl k2), (4, .inl k4), (5, .inl x5)]) [1, 2, 3, 5, 6] rfl ?_
    exact k_X5_fewestWeeks_b29_j66 d _ _ h hR hX hN
def f_X5_fewestWeeks_b29_j51 (k0 : Option Nat) (k1 : Int32) (k2 : Int32) (k4 : Int32) (x3 : Int32) (x5 : Int32) (ah : AH) : Option ((Int32 × AH) ⊕ (((Unit) × AH) ⊕ ((Int32 × Int32) × AH))) :=
  f_X5_fewestWeeks_b29_j52 k0 k1 k2 k4 x3 x5 0 ah
set_option maxRecDepth 100000 in
set_option maxHeartbeats 4000000 in
theorem k_X5_fewestWeeks_b29_j51 {l : Launch} {g : GX} (d : Nat) {Q : jQ} {k0 : Option Nat} {k1 : Int32} {k2 : Int32} {k4 : Int32} {x3 : Int32} {x5 : Int32} (ah : AH) (out : (Int32 × AH) ⊕ (((Unit) × AH) ⊕ ((Int32 × Int32) × AH))) (h : f_X5_fewestWeeks_b29_j51 k0 k1 k2 k4 x3 x5 ah = some out) (hR : ∀ q, out = .inl q → jRetI l g md_X5_fewestWeeks (jRm (d + 6) md_X5_fewestWeeks) Q (0, 0) q.1 q.2) (hX : ∀ q, out = .inr (.inl q) → J l g md_X5_fewestWeeks (jRm (d + 6) md_X5_fewestWeeks) Q 91 [] [] q.2 (0, 0)) (hN : ∀ q, out = .inr (.inr q) → J l g md_X5_fewestWeeks (jRm (d + 6) md_X5_fewestWeeks) Q 29 [(0, .inr (.inr (.inl k0))), (1, .inl k1), (2, .inl k2), (3, .inl q.1.1), (4, .inl k4), (5, .inl q.1.2)] [] q.2 (0, 0)) : J l g md_X5_fewestWeeks (jRm (d + 6) md_X5_fewestWeeks) Q 51 [(0, .inr (.inr (.inl k0))), (1, .inl k1), (2, .inl k2), (3, .inl x3), (4, .inl k4), (5, .inl x5)] [] ah (0, 0) := by
  unfold f_X5_fewestWeeks_b29_j51 at h
  refine J_seg ok_X5_fewestWeeks 28 1 (pc' := 52) (ls' := [(0, .inr (.inr (.inl k0))), (1, .inl k1), (2, .inl k2), (3, .inl x3), (4, .inl k4), (5, .inl x5)]) (st' := [.inl 0]) rfl ?_
  refine J_sub (ls' := [(0, .inr (.inr (.inl k0))), (1, .inl k1), (2, .inl k2), (3, .inl x3), (4, .inl k4), (5, .inl x5)]) [0, 1, 2, 3, 4, 5] rfl ?_
  exact k_X5_fewestWeeks_b29_j52 d _ _ h hR hX hN
def f_X5_fewestWeeks_b29 (k0 : Option Nat) (k1 : Int32) (k2 : Int32) (k4 : Int32) (s29 : Int32 × Int32) (ah : AH) : Option ((Int32 × AH) ⊕ (((Unit) × AH) ⊕ ((Int32 × Int32) × AH))) :=
  if 30 < s29.2 then (some (.inr (.inl ((), ah)))) else (if k2 ≤ 0 then (f_X5_fewestWeeks_b29_j51 k0 k1 k2 k4 s29.1 s29.2 ah) else (if k2 = 0 then none else (if (s29.2 - s29.2 / k2 * k2) = 0 then (f_X5_fewestWeeks_b29_j52 k0 k1 k2 k4 s29.1 s29.2 1 ah) else (f_X5_fewestWeeks_b29_j51 k0 k1 k2 k4 s29.1 s29.2 ah))))
set_option maxRecDepth 100000 in
set_option maxHeartbeats 4000000 in
theorem k_X5_fewestWeeks_b29 {l : Launch} {g : GX} (d : Nat) {Q : jQ} {k0 : Option Nat} {k1 : Int32} {k2 : Int32} {k4 : Int32} (s29 : Int32 × Int32) (ah : AH) (out : (Int32 × AH) ⊕ (((Unit) × AH) ⊕ ((Int32 × Int32) × AH))) (h : f_X5_fewestWeeks_b29 k0 k1 k2 k4 s29 ah = some out) (hR : ∀ q, out = .inl q → jRetI l g md_X5_fewestWeeks (jRm (d + 6) md_X5_fewestWeeks) Q (0, 0) q.1 q.2) (hX : ∀ q, out = .inr (.inl q) → J l g md_X5_fewestWeeks (jRm (d + 6) md_X5_fewestWeeks) Q 91 [] [] q.2 (0, 0)) (hN : ∀ q, out = .inr (.inr q) → J l g md_X5_fewestWeeks (jRm (d + 6) md_X5_fewestWeeks) Q 29 [(0, .inr (.inr (.inl k0))), (1, .inl k1), (2, .inl k2), (3, .inl q.1.1), (4, .inl k4), (5, .inl q.1.2)] [] q.2 (0, 0)) : J l g md_X5_fewestWeeks (jRm (d + 6) md_X5_fewestWeeks) Q 29 [(0, .inr (.inr (.inl k0))), (1, .inl k1), (2, .inl k2), (3, .inl s29.1), (4, .inl k4), (5, .inl s29.2)] [] ah (0, 0) := by
  unfold f_X5_fewestWeeks_b29 at h
  refine J_seg ok_X5_fewestWeeks 17 2 (pc' := 33) (ls' := [(0, .inr (.inr (.inl k0))), (1, .inl k1), (2, .inl k2), (3, .inl s29.1), (4, .inl k4), (5, .inl s29.2)]) (st' := [.inl 30, .inl s29.2]) rfl ?_
  refine J_gt (jat ok_X5_fewestWeeks 19 (pc := 33) (i := .if_icmp .gt 58) (n := 3) rfl rfl) (tgt := 91) (by decide) (fun c => ?_) (fun c => ?_)
  · have h := (if_pos c).symm.trans h
    exact J_sub (ls' := []) [] rfl (hX ((), ah) (Option.some.inj h).symm)
  · have h := (if_neg c).symm.trans h
    refine J_seg ok_X5_fewestWeeks 20 1 (pc' := 37) (ls' := [(0, .inr (.inr (.inl k0))), (1, .inl k1), (2, .inl k2), (3, .inl s29.1), (4, .inl k4), (5, .inl s29.2)]) (st' := [.inl k2]) rfl ?_
    refine J_le0 (jat ok_X5_fewestWeeks 21 (pc := 37) (i := .ifCond .le 14) (n := 3) rfl rfl) (tgt := 51) (by decide) (fun c => ?_) (fun c => ?_)
    · have h := (if_pos c).symm.trans h
      refine J_sub (ls' := [(0, .inr (.inr (.inl k0))), (1, .inl k1), (2, .inl k2), (3, .inl s29.1), (4, .inl k4), (5, .inl s29.2)]) [0, 1, 2, 3, 4, 5] rfl ?_
      exact k_X5_fewestWeeks_b29_j51 d _ _ h hR hX hN
    · have h := (if_neg c).symm.trans h
      refine J_seg ok_X5_fewestWeeks 22 2 (pc' := 43) (ls' := [(0, .inr (.inr (.inl k0))), (1, .inl k1), (2, .inl k2), (3, .inl s29.1), (4, .inl k4), (5, .inl s29.2)]) (st' := [.inl k2, .inl s29.2]) rfl ?_
      by_cases e19 : k2 = 0
      · exact absurd ((if_pos e19).symm.trans h) (by simp)
      have h := (if_neg e19).symm.trans h
      refine J_irem (jat ok_X5_fewestWeeks 24 (pc := 43) (i := .irem) (n := 1) rfl rfl) e19 ?_
      refine J_ne0 (jat ok_X5_fewestWeeks 25 (pc := 44) (i := .ifCond .ne 7) (n := 3) rfl rfl) (tgt := 51) (by decide) (fun c => ?_) (fun c => ?_)
      · have h := (if_neg c).symm.trans h
        refine J_sub (ls' := [(0, .inr (.inr (.inl k0))), (1, .inl k1), (2, .inl k2), (3, .inl s29.1), (4, .inl k4), (5, .inl s29.2)]) [0, 1, 2, 3, 4, 5] rfl ?_
        exact k_X5_fewestWeeks_b29_j51 d _ _ h hR hX hN
      · have h := (if_pos c).symm.trans h
        refine J_seg ok_X5_fewestWeeks 26 2 (pc' := 52) (ls' := [(0, .inr (.inr (.inl k0))), (1, .inl k1), (2, .inl k2), (3, .inl s29.1), (4, .inl k4), (5, .inl s29.2)]) (st' := [.inl 1]) rfl ?_
        refine J_sub (ls' := [(0, .inr (.inr (.inl k0))), (1, .inl k1), (2, .inl k2), (3, .inl s29.1), (4, .inl k4), (5, .inl s29.2)]) [0, 1, 2, 3, 4, 5] rfl ?_
        exact k_X5_fewestWeeks_b29_j52 d _ _ h hR hX hN
def f_X5_fewestWeeks (x0 : Option Nat) (x1 : Int32) (x2 : Int32) (ah : AH) : Option (Int32 × AH) :=
  (gR ah x0 5 3).bind fun v1 => if qO ah v1 4 = true then ((f_X4_deedsOf v1 x1 ah).bind fun q3 => if qO q3.2 x0 5 = true then ((f_X5_lossOf x0 x1 q3.2).bind fun q6 => if qO q6.2 x0 5 = true then ((f_X5_hasReached x0 x1 q6.2).bind fun q9 => if q9.1 = 0 then ((jloop (f_X5_fewestWeeks_b29 x0 x1 x2 q6.1) jfuel (q3.1, 1) q9.2).bind fun q20 => match q20 with | .inl r => some r | .inr z22 => some ((-9), z22.2)) else (some (0, q9.2))) else none) else none) else none
set_option maxRecDepth 100000 in
set_option maxHeartbeats 4000000 in
theorem k_X5_fewestWeeks {l : Launch} {g : GX} (d : Nat) {Q : jQ} {x0 : Option Nat} {x1 : Int32} {x2 : Int32} (ah : AH) (out : Int32 × AH) (h : f_X5_fewestWeeks x0 x1 x2 ah = some out) (hR : jRetI l g md_X5_fewestWeeks (jRm (d + 6) md_X5_fewestWeeks) Q (0, 0) out.1 out.2) : J l g md_X5_fewestWeeks (jRm (d + 6) md_X5_fewestWeeks) Q 0 [(0, .inr (.inr (.inl x0))), (1, .inl x1), (2, .inl x2)] [] ah (0, 0) := by
  unfold f_X5_fewestWeeks at h
  refine J_seg ok_X5_fewestWeeks 0 1 (pc' := 1) (ls' := [(0, .inr (.inr (.inl x0))), (1, .inl x1), (2, .inl x2)]) (st' := [.inr (.inr (.inl x0))]) rfl ?_
  obtain ⟨v1, h2, h⟩ := Option.bind_eq_some_iff.mp h
  refine J_getR (jat ok_X5_fewestWeeks 1 (pc := 1) (i := .getfield 28) (n := 3) rfl rfl) fl_RX5_28 h2 ?_
  refine J_seg ok_X5_fewestWeeks 2 1 (pc' := 5) (ls' := [(0, .inr (.inr (.inl x0))), (1, .inl x1), (2, .inl x2)]) (st' := [.inl x1, .inr (.inr (.inl v1))]) rfl ?_
  by_cases c5 : qO ah v1 4 = true
  case neg => exact absurd ((if_neg c5).symm.trans h) (by simp)
  have h := (if_pos c5).symm.trans h
  obtain ⟨q3, h4, h⟩ := Option.bind_eq_some_iff.mp h
  refine J_callV (md' := md_X4_deedsOf) (As := [.inl x1]) (st := []) (cs' := (0, 0)) (st' := [.inl q3.1]) (jat ok_X5_fewestWeeks 3 (pc := 5) (i := .invokevirtual 330) (n := 3) rfl rfl) ml_RX5_330 yv_X4_deedsOf c5 (c_X4_deedsOf l g (d + 4) h4) (jRo_of (by decide)) (Nat.le_of_ble_eq_true rfl) ⟨Nat.le_of_ble_eq_true rfl, Nat.le_of_ble_eq_true rfl⟩ rfl rfl rfl ?_
  refine J_seg ok_X5_fewestWeeks 4 3 (pc' := 11) (ls' := [(3, .inl q3.1), (0, .inr (.inr (.inl x0))), (1, .inl x1), (2, .inl x2)]) (st' := [.inl x1, .inr (.inr (.inl x0))]) rfl ?_
  by_cases c8 : qO q3.2 x0 5 = true
  case neg => exact absurd ((if_neg c8).symm.trans h) (by simp)
  have h := (if_pos c8).symm.trans h
  obtain ⟨q6, h7, h⟩ := Option.bind_eq_some_iff.mp h
  refine J_callV (md' := md_X5_lossOf) (As := [.inl x1]) (st := []) (cs' := (0, 0)) (st' := [.inl q6.1]) (jat ok_X5_fewestWeeks 7 (pc := 11) (i := .invokevirtual 209) (n := 3) rfl rfl) ml_RX5_209 yv_X5_lossOf c8 (c_X5_lossOf l g (d + 0) h7) (jRo_of (by decide)) (Nat.le_of_ble_eq_true rfl) ⟨Nat.le_of_ble_eq_true rfl, Nat.le_of_ble_eq_true rfl⟩ rfl rfl rfl ?_
  refine J_seg ok_X5_fewestWeeks 8 3 (pc' := 18) (ls' := [(4, .inl q6.1), (3, .inl q3.1), (0, .inr (.inr (.inl x0))), (1, .inl x1), (2, .inl x2)]) (st' := [.inl x1, .inr (.inr (.inl x0))]) rfl ?_
  by_cases c11 : qO q6.2 x0 5 = true
  case neg => exact absurd ((if_neg c11).symm.trans h) (by simp)
  have h := (if_pos c11).symm.trans h
  obtain ⟨q9, h10, h⟩ := Option.bind_eq_some_iff.mp h
  refine J_callV (md' := md_X5_hasReached) (As := [.inl x1]) (st := []) (cs' := (0, 0)) (st' := [.inl q9.1]) (jat ok_X5_fewestWeeks 11 (pc := 18) (i := .invokevirtual 206) (n := 3) rfl rfl) ml_RX5_206 yv_X5_hasReached c11 (c_X5_hasReached l g (d + 3) h10) (jRo_of (by decide)) (Nat.le_of_ble_eq_true rfl) ⟨Nat.le_of_ble_eq_true rfl, Nat.le_of_ble_eq_true rfl⟩ rfl rfl rfl ?_
  refine J_eq0 (jat ok_X5_fewestWeeks 12 (pc := 21) (i := .ifCond .eq 5) (n := 3) rfl rfl) (tgt := 26) (by decide) (fun c => ?_) (fun c => ?_)
  · have h := (if_pos c).symm.trans h
    refine J_seg ok_X5_fewestWeeks 15 2 (pc' := 29) (ls' := [(5, .inl 1), (4, .inl q6.1), (3, .inl q3.1), (0, .inr (.inr (.inl x0))), (1, .inl x1), (2, .inl x2)]) (st' := []) rfl ?_
    obtain ⟨q20, h21, h⟩ := Option.bind_eq_some_iff.mp h
    refine J_sub (ls' := [(0, .inr (.inr (.inl x0))), (1, .inl x1), (2, .inl x2), (3, .inl q3.1), (4, .inl q6.1), (5, .inl 1)]) [3, 4, 5, 2, 1, 0] rfl ?_
    refine J_loop (pE := 91) (lh := fun t23 => [(0, .inr (.inr (.inl x0))), (1, .inl x1), (2, .inl x2), (3, .inl t23.1), (4, .inl q6.1), (5, .inl t23.2)]) (lx := fun z22 => []) (P := jRetI l g md_X5_fewestWeeks (jRm (d + 6) md_X5_fewestWeeks) Q (0, 0)) (fun s ah out hb hR hX hN => k_X5_fewestWeeks_b29 d s ah out hb hR hX hN) jfuel (q3.1, 1) _ _ h21 (fun r e => ?_) (fun z22 e => ?_)
    · subst e
      dsimp only at h
      have h := Option.some.inj h
      subst h
      exact hR
    · subst e
      dsimp only at h
      refine J_seg ok_X5_fewestWeeks 48 1 (pc' := 93) (ls' := []) (st' := [.inl (-9)]) rfl ?_
      have h := Option.some.inj h
      subst h
      exact hR _ _ (jat ok_X5_fewestWeeks 49 (pc := 93) (i := .ireturn) (n := 1) rfl rfl)
  · have h := (if_neg c).symm.trans h
    refine J_seg ok_X5_fewestWeeks 13 1 (pc' := 25) (ls' := [(4, .inl q6.1), (3, .inl q3.1), (0, .inr (.inr (.inl x0))), (1, .inl x1), (2, .inl x2)]) (st' := [.inl 0]) rfl ?_
    have h := Option.some.inj h
    subst h
    exact hR _ _ (jat ok_X5_fewestWeeks 14 (pc := 25) (i := .ireturn) (n := 1) rfl rfl)
theorem c_X5_fewestWeeks (l : Launch) (g : GX) (d : Nat) {x0 : Option Nat} {x1 : Int32} {x2 : Int32} {ah : AH} {q : Int32 × AH} (h : f_X5_fewestWeeks x0 x1 x2 ah = some q) : jM l g (d + 6) md_X5_fewestWeeks [.inr (.inr (.inl x0)), .inl x1, .inl x2] ah (some (.inl q.1)) q.2 :=
  jM_of (by decide) (Nat.le_of_ble_eq_true rfl) (k_X5_fewestWeeks d ah q h (fun pc ls hd => J_reti hd rfl (jPV_int _) rfl (Nat.le_refl _) rfl rfl))
def f_X5_weeks (x0 : Option Nat) (x1 : Int32) (x2 : Int32) (ah : AH) : Option (Int32 × AH) :=
  (gR ah x0 5 8).bind fun v1 => if qO ah v1 1 = true then ((f_X1_has v1 x1 ah).bind fun q3 => if q3.1 = 0 then (some ((-1), q3.2)) else (if x2 < 0 then (some ((-1), q3.2)) else (if x2 ≤ 9 then (if qO q3.2 x0 5 = true then ((f_X5_fewestWeeks x0 x1 x2 q3.2).bind fun q6 => some (q6.1, q6.2)) else none) else (some ((-1), q3.2))))) else none
set_option maxRecDepth 100000 in
set_option maxHeartbeats 4000000 in
theorem k_X5_weeks {l : Launch} {g : GX} (d : Nat) {Q : jQ} {x0 : Option Nat} {x1 : Int32} {x2 : Int32} (ah : AH) (out : Int32 × AH) (h : f_X5_weeks x0 x1 x2 ah = some out) (hR : jRetI l g md_X5_weeks (jRm (d + 7) md_X5_weeks) Q (0, 0) out.1 out.2) : J l g md_X5_weeks (jRm (d + 7) md_X5_weeks) Q 0 [(0, .inr (.inr (.inl x0))), (1, .inl x1), (2, .inl x2)] [] ah (0, 0) := by
  unfold f_X5_weeks at h
  refine J_seg ok_X5_weeks 0 1 (pc' := 1) (ls' := [(0, .inr (.inr (.inl x0))), (1, .inl x1), (2, .inl x2)]) (st' := [.inr (.inr (.inl x0))]) rfl ?_
  obtain ⟨v1, h2, h⟩ := Option.bind_eq_some_iff.mp h
  refine J_getR (jat ok_X5_weeks 1 (pc := 1) (i := .getfield 53) (n := 3) rfl rfl) fl_RX5_53 h2 ?_
  refine J_seg ok_X5_weeks 2 1 (pc' := 5) (ls' := [(0, .inr (.inr (.inl x0))), (1, .inl x1), (2, .inl x2)]) (st' := [.inl x1, .inr (.inr (.inl v1))]) rfl ?_
  by_cases c5 : qO ah v1 1 = true
  case neg => exact absurd ((if_neg c5).symm.trans h) (by simp)
  have h := (if_pos c5).symm.trans h
  obtain ⟨q3, h4, h⟩ := Option.bind_eq_some_iff.mp h
  refine J_callV (md' := md_X1_has) (As := [.inl x1]) (st := []) (cs' := (0, 0)) (st' := [.inl q3.1]) (jat ok_X5_weeks 3 (pc := 5) (i := .invokevirtual 128) (n := 3) rfl rfl) ml_RX5_128 yv_X1_has c5 (c_X1_has l g (d + 6) h4) (jRo_of (by decide)) (Nat.le_of_ble_eq_true rfl) ⟨Nat.le_of_ble_eq_true rfl, Nat.le_of_ble_eq_true rfl⟩ rfl rfl rfl ?_
  refine J_eq0 (jat ok_X5_weeks 4 (pc := 8) (i := .ifCond .eq 13) (n := 3) rfl rfl) (tgt := 21) (by decide) (fun c => ?_) (fun c => ?_)
  · have h := (if_pos c).symm.trans h
    refine J_seg ok_X5_weeks 10 1 (pc' := 22) (ls' := [(0, .inr (.inr (.inl x0))), (1, .inl x1), (2, .inl x2)]) (st' := [.inl (-1)]) rfl ?_
    have h := Option.some.inj h
    subst h
    exact hR _ _ (jat ok_X5_weeks 11 (pc := 22) (i := .ireturn) (n := 1) rfl rfl)
  · have h := (if_neg c).symm.trans h
    refine J_seg ok_X5_weeks 5 1 (pc' := 12) (ls' := [(0, .inr (.inr (.inl x0))), (1, .inl x1), (2, .inl x2)]) (st' := [.inl x2]) rfl ?_
    refine J_lt0 (jat ok_X5_weeks 6 (pc := 12) (i := .ifCond .lt 9) (n := 3) rfl rfl) (tgt := 21) (by decide) (fun c => ?_) (fun c => ?_)
    · have h := (if_pos c).symm.trans h
      refine J_seg ok_X5_weeks 10 1 (pc' := 22) (ls' := [(0, .inr (.inr (.inl x0))), (1, .inl x1), (2, .inl x2)]) (st' := [.inl (-1)]) rfl ?_
      have h := Option.some.inj h
      subst h
      exact hR _ _ (jat ok_X5_weeks 11 (pc := 22) (i := .ireturn) (n := 1) rfl rfl)
    · have h := (if_neg c).symm.trans h
      refine J_seg ok_X5_weeks 7 2 (pc' := 18) (ls' := [(0, .inr (.inr (.inl x0))), (1, .inl x1), (2, .inl x2)]) (st' := [.inl 9, .inl x2]) rfl ?_
      refine J_le (jat ok_X5_weeks 9 (pc := 18) (i := .if_icmp .le 5) (n := 3) rfl rfl) (tgt := 23) (by decide) (fun c => ?_) (fun c => ?_)
      · have h := (if_pos c).symm.trans h
        refine J_seg ok_X5_weeks 12 3 (pc' := 26) (ls' := [(0, .inr (.inr (.inl x0))), (1, .inl x1), (2, .inl x2)]) (st' := [.inl x2, .inl x1, .inr (.inr (.inl x0))]) rfl ?_
        by_cases c8 : qO q3.2 x0 5 = true
        case neg => exact absurd ((if_neg c8).symm.trans h) (by simp)
        have h := (if_pos c8).symm.trans h
        obtain ⟨q6, h7, h⟩ := Option.bind_eq_some_iff.mp h
        refine J_callV (md' := md_X5_fewestWeeks) (As := [.inl x1, .inl x2]) (st := []) (cs' := (0, 0)) (st' := [.inl q6.1]) (jat ok_X5_weeks 15 (pc := 26) (i := .invokevirtual 212) (n := 3) rfl rfl) ml_RX5_212 yv_X5_fewestWeeks c8 (c_X5_fewestWeeks l g (d + 0) h7) (jRo_of (by decide)) (Nat.le_of_ble_eq_true rfl) ⟨Nat.le_of_ble_eq_true rfl, Nat.le_of_ble_eq_true rfl⟩ rfl rfl rfl ?_
        have h := Option.some.inj h
        subst h
        exact hR _ _ (jat ok_X5_weeks 16 (pc := 29) (i := .ireturn) (n := 1) rfl rfl)
      · have h := (if_neg c).symm.trans h
        refine J_seg ok_X5_weeks 10 1 (pc' := 22) (ls' := [(0, .inr (.inr (.inl x0))), (1, .inl x1), (2, .inl x2)]) (st' := [.inl (-1)]) rfl ?_
        have h := Option.some.inj h
        subst h
        exact hR _ _ (jat ok_X5_weeks 11 (pc := 22) (i := .ireturn) (n := 1) rfl rfl)
theorem c_X5_weeks (l : Launch) (g : GX) (d : Nat) {x0 : Option Nat} {x1 : Int32} {x2 : Int32} {ah : AH} {q : Int32 × AH} (h : f_X5_weeks x0 x1 x2 ah = some q) : jM l g (d + 7) md_X5_weeks [.inr (.inr (.inl x0)), .inl x1, .inl x2] ah (some (.inl q.1)) q.2 :=
  jM_of (by decide) (Nat.le_of_ble_eq_true rfl) (k_X5_weeks d ah q h (fun pc ls hd => J_reti hd rfl (jPV_int _) rfl (Nat.le_refl _) rfl rfl))
def f_X5_thwart_b27 (k0 : Option Nat) (k1 : Int32) (k2 : Int32) (s27 : Int32) (ah : AH) : Option ((Int32 × AH) ⊕ (((Unit) × AH) ⊕ ((Int32) × AH))) :=
  if s27 < 1 then (some (.inr (.inl ((), ah)))) else (if qO ah k0 5 = true then ((f_X5_fewestWeeks k0 k1 s27 ah).bind fun q6 => if q6.1 = (-9) then (some (.inl (s27, q6.2))) else (if q6.1 ≤ k2 then (some (.inr (.inr (s27 + (-1), q6.2)))) else (some (.inl (s27, q6.2))))) else none)
set_option maxRecDepth 100000 in
set_option maxHeartbeats 4000000 in
theorem k_X5_thwart_b27 {l : Launch} {g : GX} (d : Nat) {Q : jQ} {k0 : Option Nat} {k1 : Int32} {k2 : Int32} (s27 : Int32) (ah : AH) (out : (Int32 × AH) ⊕ (((Unit) × AH) ⊕ ((Int32) × AH))) (h : f_X5_thwart_b27 k0 k1 k2 s27 ah = some out) (hR : ∀ q, out = .inl q → jRetI l g md_X5_thwart (jRm (d + 7) md_X5_thwart) Q (0, 0) q.1 q.2) (hX : ∀ q, out = .inr (.inl q) → J l g md_X5_thwart (jRm (d + 7) md_X5_thwart) Q 61 [] [] q.2 (0, 0)) (hN : ∀ q, out = .inr (.inr q) → J l g md_X5_thwart (jRm (d + 7) md_X5_thwart) Q 27 [(0, .inr (.inr (.inl k0))), (1, .inl k1), (2, .inl k2), (3, .inl q.1)] [] q.2 (0, 0)) : J l g md_X5_thwart (jRm (d + 7) md_X5_thwart) Q 27 [(0, .inr (.inr (.inl k0))), (1, .inl k1), (2, .inl k2), (3, .inl s27)] [] ah (0, 0) := by
  unfold f_X5_thwart_b27 at h
  refine J_seg ok_X5_thwart 15 2 (pc' := 29) (ls' := [(0, .inr (.inr (.inl k0))), (1, .inl k1), (2, .inl k2), (3, .inl s27)]) (st' := [.inl 1, .inl s27]) rfl ?_
  refine J_lt (jat ok_X5_thwart 17 (pc := 29) (i := .if_icmp .lt 32) (n := 3) rfl rfl) (tgt := 61) (by decide) (fun c => ?_) (fun c => ?_)
  · have h := (if_pos c).symm.trans h
    exact J_sub (ls' := []) [] rfl (hX ((), ah) (Option.some.inj h).symm)
  · have h := (if_neg c).symm.trans h
    refine J_seg ok_X5_thwart 18 3 (pc' := 35) (ls' := [(0, .inr (.inr (.inl k0))), (1, .inl k1), (2, .inl k2), (3, .inl s27)]) (st' := [.inl s27, .inl k1, .inr (.inr (.inl k0))]) rfl ?_
    by_cases c8 : qO ah k0 5 = true
    case neg => exact absurd ((if_neg c8).symm.trans h) (by simp)
    have h := (if_pos c8).symm.trans h
    obtain ⟨q6, h7, h⟩ := Option.bind_eq_some_iff.mp h
    refine J_callV (md' := md_X5_fewestWeeks) (As := [.inl k1, .inl s27]) (st := []) (cs' := (0, 0)) (st' := [.inl q6.1]) (jat ok_X5_thwart 21 (pc := 35) (i := .invokevirtual 212) (n := 3) rfl rfl) ml_RX5_212 yv_X5_fewestWeeks c8 (c_X5_fewestWeeks l g (d + 0) h7) (jRo_of (by decide)) (Nat.le_of_ble_eq_true rfl) ⟨Nat.le_of_ble_eq_true rfl, Nat.le_of_ble_eq_true rfl⟩ rfl rfl rfl ?_
    refine J_seg ok_X5_thwart 22 3 (pc' := 44) (ls' := [(4, .inl q6.1), (0, .inr (.inr (.inl k0))), (1, .inl k1), (2, .inl k2), (3, .inl s27)]) (st' := [.inl (-9), .inl q6.1]) rfl ?_
    refine J_eq (jat ok_X5_thwart 25 (pc := 44) (i := .if_icmp .eq 9) (n := 3) rfl rfl) (tgt := 53) (by decide) (fun c => ?_) (fun c => ?_)
    · have h := (if_pos c).symm.trans h
      refine J_seg ok_X5_thwart 29 1 (pc' := 54) (ls' := [(4, .inl q6.1), (0, .inr (.inr (.inl k0))), (1, .inl k1), (2, .inl k2), (3, .inl s27)]) (st' := [.inl s27]) rfl ?_
      exact hR _ (Option.some.inj h).symm _ _ (jat ok_X5_thwart 30 (pc := 54) (i := .ireturn) (n := 1) rfl rfl)
    · have h := (if_neg c).symm.trans h
      refine J_seg ok_X5_thwart 26 2 (pc' := 50) (ls' := [(4, .inl q6.1), (0, .inr (.inr (.inl k0))), (1, .inl k1), (2, .inl k2), (3, .inl s27)]) (st' := [.inl k2, .inl q6.1]) rfl ?_
      refine J_le (jat ok_X5_thwart 28 (pc := 50) (i := .if_icmp .le 5) (n := 3) rfl rfl) (tgt := 55) (by decide) (fun c => ?_) (fun c => ?_)
      · have h := (if_pos c).symm.trans h
        refine J_seg ok_X5_thwart 31 2 (pc' := 27) (ls' := [(3, .inl (s27 + (-1))), (4, .inl q6.1), (0, .inr (.inr (.inl k0))), (1, .inl k1), (2, .inl k2)]) (st' := []) rfl ?_
        exact J_sub (ls' := [(0, .inr (.inr (.inl k0))), (1, .inl k1), (2, .inl k2), (3, .inl (s27 + (-1)))]) [2, 3, 4, 0] rfl (hN (s27 + (-1), q6.2) (Option.some.inj h).symm)
      · have h := (if_neg c).symm.trans h
        refine J_seg ok_X5_thwart 29 1 (pc' := 54) (ls' := [(4, .inl q6.1), (0, .inr (.inr (.inl k0))), (1, .inl k1), (2, .inl k2), (3, .inl s27)]) (st' := [.inl s27]) rfl ?_
        exact hR _ (Option.some.inj h).symm _ _ (jat ok_X5_thwart 30 (pc := 54) (i := .ireturn) (n := 1) rfl rfl)
def f_X5_thwart (x0 : Option Nat) (x1 : Int32) (x2 : Int32) (ah : AH) : Option (Int32 × AH) :=
  (gR ah x0 5 8).bind fun v1 => if qO ah v1 1 = true then ((f_X1_has v1 x1 ah).bind fun q3 => if q3.1 = 0 then (some ((-1), q3.2)) else (if x2 < 1 then (some ((-1), q3.2)) else (if x2 ≤ 30 then ((jloop (f_X5_thwart_b27 x0 x1 x2) jfuel 9 q3.2).bind fun q9 => match q9 with | .inl r => some r | .inr z11 => some ((-9), z11.2)) else (some ((-1), q3.2))))) else none
set_option maxRecDepth 100000 in
set_option maxHeartbeats 4000000 in
theorem k_X5_thwart {l : Launch} {g : GX} (d : Nat) {Q : jQ} {x0 : Option Nat} {x1 : Int32} {x2 : Int32} (ah : AH) (out : Int32 × AH) (h : f_X5_thwart x0 x1 x2 ah = some out) (hR : jRetI l g md_X5_thwart (jRm (d + 7) md_X5_thwart) Q (0, 0) out.1 out.2) : J l g md_X5_thwart (jRm (d + 7) md_X5_thwart) Q 0 [(0, .inr (.inr (.inl x0))), (1, .inl x1), (2, .inl x2)] [] ah (0, 0) := by
  unfold f_X5_thwart at h
  refine J_seg ok_X5_thwart 0 1 (pc' := 1) (ls' := [(0, .inr (.inr (.inl x0))), (1, .inl x1), (2, .inl x2)]) (st' := [.inr (.inr (.inl x0))]) rfl ?_
  obtain ⟨v1, h2, h⟩ := Option.bind_eq_some_iff.mp h
  refine J_getR (jat ok_X5_thwart 1 (pc := 1) (i := .getfield 53) (n := 3) rfl rfl) fl_RX5_53 h2 ?_
  refine J_seg ok_X5_thwart 2 1 (pc' := 5) (ls' := [(0, .inr (.inr (.inl x0))), (1, .inl x1), (2, .inl x2)]) (st' := [.inl x1, .inr (.inr (.inl v1))]) rfl ?_
  by_cases c5 : qO ah v1 1 = true
  case neg => exact absurd ((if_neg c5).symm.trans h) (by simp)
  have h := (if_pos c5).symm.trans h
  obtain ⟨q3, h4, h⟩ := Option.bind_eq_some_iff.mp h
  refine J_callV (md' := md_X1_has) (As := [.inl x1]) (st := []) (cs' := (0, 0)) (st' := [.inl q3.1]) (jat ok_X5_thwart 3 (pc := 5) (i := .invokevirtual 128) (n := 3) rfl rfl) ml_RX5_128 yv_X1_has c5 (c_X1_has l g (d + 6) h4) (jRo_of (by decide)) (Nat.le_of_ble_eq_true rfl) ⟨Nat.le_of_ble_eq_true rfl, Nat.le_of_ble_eq_true rfl⟩ rfl rfl rfl ?_
  refine J_eq0 (jat ok_X5_thwart 4 (pc := 8) (i := .ifCond .eq 14) (n := 3) rfl rfl) (tgt := 22) (by decide) (fun c => ?_) (fun c => ?_)
  · have h := (if_pos c).symm.trans h
    refine J_seg ok_X5_thwart 11 1 (pc' := 23) (ls' := [(0, .inr (.inr (.inl x0))), (1, .inl x1), (2, .inl x2)]) (st' := [.inl (-1)]) rfl ?_
    have h := Option.some.inj h
    subst h
    exact hR _ _ (jat ok_X5_thwart 12 (pc := 23) (i := .ireturn) (n := 1) rfl rfl)
  · have h := (if_neg c).symm.trans h
    refine J_seg ok_X5_thwart 5 2 (pc' := 13) (ls' := [(0, .inr (.inr (.inl x0))), (1, .inl x1), (2, .inl x2)]) (st' := [.inl 1, .inl x2]) rfl ?_
    refine J_lt (jat ok_X5_thwart 7 (pc := 13) (i := .if_icmp .lt 9) (n := 3) rfl rfl) (tgt := 22) (by decide) (fun c => ?_) (fun c => ?_)
    · have h := (if_pos c).symm.trans h
      refine J_seg ok_X5_thwart 11 1 (pc' := 23) (ls' := [(0, .inr (.inr (.inl x0))), (1, .inl x1), (2, .inl x2)]) (st' := [.inl (-1)]) rfl ?_
      have h := Option.some.inj h
      subst h
      exact hR _ _ (jat ok_X5_thwart 12 (pc := 23) (i := .ireturn) (n := 1) rfl rfl)
    · have h := (if_neg c).symm.trans h
      refine J_seg ok_X5_thwart 8 2 (pc' := 19) (ls' := [(0, .inr (.inr (.inl x0))), (1, .inl x1), (2, .inl x2)]) (st' := [.inl 30, .inl x2]) rfl ?_
      refine J_le (jat ok_X5_thwart 10 (pc := 19) (i := .if_icmp .le 5) (n := 3) rfl rfl) (tgt := 24) (by decide) (fun c => ?_) (fun c => ?_)
      · have h := (if_pos c).symm.trans h
        refine J_seg ok_X5_thwart 13 2 (pc' := 27) (ls' := [(3, .inl 9), (0, .inr (.inr (.inl x0))), (1, .inl x1), (2, .inl x2)]) (st' := []) rfl ?_
        obtain ⟨q9, h10, h⟩ := Option.bind_eq_some_iff.mp h
        refine J_sub (ls' := [(0, .inr (.inr (.inl x0))), (1, .inl x1), (2, .inl x2), (3, .inl 9)]) [1, 2, 3, 0] rfl ?_
        refine J_loop (pE := 61) (lh := fun t12 => [(0, .inr (.inr (.inl x0))), (1, .inl x1), (2, .inl x2), (3, .inl t12)]) (lx := fun z11 => []) (P := jRetI l g md_X5_thwart (jRm (d + 7) md_X5_thwart) Q (0, 0)) (fun s ah out hb hR hX hN => k_X5_thwart_b27 d s ah out hb hR hX hN) jfuel 9 _ _ h10 (fun r e => ?_) (fun z11 e => ?_)
        · subst e
          dsimp only at h
          have h := Option.some.inj h
          subst h
          exact hR
        · subst e
          dsimp only at h
          refine J_seg ok_X5_thwart 33 1 (pc' := 63) (ls' := []) (st' := [.inl (-9)]) rfl ?_
          have h := Option.some.inj h
          subst h
          exact hR _ _ (jat ok_X5_thwart 34 (pc := 63) (i := .ireturn) (n := 1) rfl rfl)
      · have h := (if_neg c).symm.trans h
        refine J_seg ok_X5_thwart 11 1 (pc' := 23) (ls' := [(0, .inr (.inr (.inl x0))), (1, .inl x1), (2, .inl x2)]) (st' := [.inl (-1)]) rfl ?_
        have h := Option.some.inj h
        subst h
        exact hR _ _ (jat ok_X5_thwart 12 (pc := 23) (i := .ireturn) (n := 1) rfl rfl)
theorem c_X5_thwart (l : Launch) (g : GX) (d : Nat) {x0 : Option Nat} {x1 : Int32} {x2 : Int32} {ah : AH} {q : Int32 × AH} (h : f_X5_thwart x0 x1 x2 ah = some q) : jM l g (d + 7) md_X5_thwart [.inr (.inr (.inl x0)), .inl x1, .inl x2] ah (some (.inl q.1)) q.2 :=
  jM_of (by decide) (Nat.le_of_ble_eq_true rfl) (k_X5_thwart d ah q h (fun pc ls hd => J_reti hd rfl (jPV_int _) rfl (Nat.le_refl _) rfl rfl))
def f_X5_reachesThrough_b20_j59 (k0 : Option Nat) (k1 : Int32) (k2 : Int32) (k3 : Int32) (k5 : Int32) (x6 : Int32) (y0 : Int32) (y1 : Int32) (ah : AH) : Option ((Int32 × AH) ⊕ (((Int32) × AH) ⊕ ((Int32 × Int32) × AH))) :=
  (f_X5_afterWeek y1 y0 ah).bind fun q14 => some (.inr (.inr ((q14.1, x6 + 1), q14.2)))
set_option maxRecDepth 100000 in
set_option maxHeartbeats 4000000 in
theorem k_X5_reachesThrough_b20_j59 {l : Launch} {g : GX} (d : Nat) {Q : jQ} {k0 : Option Nat} {k1 : Int32} {k2 : Int32} {k3 : Int32} {k5 : Int32} {x6 : Int32} {y0 : Int32} {y1 : Int32} (ah : AH) (out : (Int32 × AH) ⊕ (((Int32) × AH) ⊕ ((Int32 × Int32) × AH))) (h : f_X5_reachesThrough_b20_j59 k0 k1 k2 k3 k5 x6 y0 y1 ah = some out) (hR : ∀ q, out = .inl q → jRetZ l g md_X5_reachesThrough (jRm (d + 6) md_X5_reachesThrough) Q (0, 0) q.1 q.2) (hX : ∀ q, out = .inr (.inl q) → J l g md_X5_reachesThrough (jRm (d + 6) md_X5_reachesThrough) Q 70 [(0, .inr (.inr (.inl k0))), (1, .inl k1), (4, .inl q.1)] [] q.2 (0, 0)) (hN : ∀ q, out = .inr (.inr q) → J l g md_X5_reachesThrough (jRm (d + 6) md_X5_reachesThrough) Q 20 [(0, .inr (.inr (.inl k0))), (1, .inl k1), (2, .inl k2), (3, .inl k3), (4, .inl q.1.1), (5, .inl k5), (6, .inl q.1.2)] [] q.2 (0, 0)) : J l g md_X5_reachesThrough (jRm (d + 6) md_X5_reachesThrough) Q 59 [(0, .inr (.inr (.inl k0))), (1, .inl k1), (2, .inl k2), (3, .inl k3), (5, .inl k5), (6, .inl x6)] [.inl y0, .inl y1] ah (0, 0) := by
  unfold f_X5_reachesThrough_b20_j59 at h
  obtain ⟨q14, h15, h⟩ := Option.bind_eq_some_iff.mp h
  refine J_callS (md' := md_X5_afterWeek) (As := [.inl y1, .inl y0]) (st := []) (cs' := (0, 0)) (st' := [.inl q14.1]) (jat ok_X5_reachesThrough 33 (pc := 59) (i := .invokestatic 354) (n := 3) rfl rfl) (Or.inl ml_RX5_354) ys_X5_afterWeek (c_X5_afterWeek l g (d + 4) h15) (jRo_of (by decide)) (Nat.le_of_ble_eq_true rfl) ⟨Nat.le_of_ble_eq_true rfl, Nat.le_of_ble_eq_true rfl⟩ rfl rfl rfl ?_
  refine J_seg ok_X5_reachesThrough 34 3 (pc' := 20) (ls' := [(6, .inl (x6 + 1)), (4, .inl q14.1), (0, .inr (.inr (.inl k0))), (1, .inl k1), (2, .inl k2), (3, .inl k3), (5, .inl k5)]) (st' := []) rfl ?_
  exact J_sub (ls' := [(0, .inr (.inr (.inl k0))), (1, .inl k1), (2, .inl k2), (3, .inl k3), (4, .inl q14.1), (5, .inl k5), (6, .inl (x6 + 1))]) [2, 3, 4, 5, 1, 6, 0] rfl (hN ((q14.1, x6 + 1), q14.2) (Option.some.inj h).symm)
def f_X5_reachesThrough_b20 (k0 : Option Nat) (k1 : Int32) (k2 : Int32) (k3 : Int32) (k5 : Int32) (s20 : Int32 × Int32) (ah : AH) : Option ((Int32 × AH) ⊕ (((Int32) × AH) ⊕ ((Int32 × Int32) × AH))) :=
  if k2 ≤ s20.2 then (some (.inr (.inl (s20.1, ah)))) else ((gR ah k0 5 8).bind fun v9 => if qO ah v9 1 = true then ((f_X1_aimOf v9 k1 ah).bind fun q11 => if s20.1 < q11.1 then (if ((k3 >>> (s20.2 &&& 31)) &&& 1) = 1 then (f_X5_reachesThrough_b20_j59 k0 k1 k2 k3 k5 s20.2 k5 s20.1 q11.2) else (f_X5_reachesThrough_b20_j59 k0 k1 k2 k3 k5 s20.2 0 s20.1 q11.2)) else (some (.inl (1, q11.2)))) else none)
set_option maxRecDepth 100000 in
set_option maxHeartbeats 4000000 in
theorem k_X5_reachesThrough_b20 {l : Launch} {g : GX} (d : Nat) {Q : jQ} {k0 : Option Nat} {k1 : Int32} {k2 : Int32} {k3 : Int32} {k5 : Int32} (s20 : Int32 × Int32) (ah : AH) (out : (Int32 × AH) ⊕ (((Int32) × AH) ⊕ ((Int32 × Int32) × AH))) (h : f_X5_reachesThrough_b20 k0 k1 k2 k3 k5 s20 ah = some out) (hR : ∀ q, out = .inl q → jRetZ l g md_X5_reachesThrough (jRm (d + 6) md_X5_reachesThrough) Q (0, 0) q.1 q.2) (hX : ∀ q, out = .inr (.inl q) → J l g md_X5_reachesThrough (jRm (d + 6) md_X5_reachesThrough) Q 70 [(0, .inr (.inr (.inl k0))), (1, .inl k1), (4, .inl q.1)] [] q.2 (0, 0)) (hN : ∀ q, out = .inr (.inr q) → J l g md_X5_reachesThrough (jRm (d + 6) md_X5_reachesThrough) Q 20 [(0, .inr (.inr (.inl k0))), (1, .inl k1), (2, .inl k2), (3, .inl k3), (4, .inl q.1.1), (5, .inl k5), (6, .inl q.1.2)] [] q.2 (0, 0)) : J l g md_X5_reachesThrough (jRm (d + 6) md_X5_reachesThrough) Q 20 [(0, .inr (.inr (.inl k0))), (1, .inl k1), (2, .inl k2), (3, .inl k3), (4, .inl s20.1), (5, .inl k5), (6, .inl s20.2)] [] ah (0, 0) := by
  unfold f_X5_reachesThrough_b20 at h
  refine J_seg ok_X5_reachesThrough 11 2 (pc' := 23) (ls' := [(0, .inr (.inr (.inl k0))), (1, .inl k1), (2, .inl k2), (3, .inl k3), (4, .inl s20.1), (5, .inl k5), (6, .inl s20.2)]) (st' := [.inl k2, .inl s20.2]) rfl ?_
  refine J_ge (jat ok_X5_reachesThrough 13 (pc := 23) (i := .if_icmp .ge 47) (n := 3) rfl rfl) (tgt := 70) (by decide) (fun c => ?_) (fun c => ?_)
  · have h := (if_pos c).symm.trans h
    exact J_sub (ls' := [(0, .inr (.inr (.inl k0))), (1, .inl k1), (4, .inl s20.1)]) [0, 1, 4] rfl (hX (s20.1, ah) (Option.some.inj h).symm)
  · have h := (if_neg c).symm.trans h
    refine J_seg ok_X5_reachesThrough 14 2 (pc' := 29) (ls' := [(0, .inr (.inr (.inl k0))), (1, .inl k1), (2, .inl k2), (3, .inl k3), (4, .inl s20.1), (5, .inl k5), (6, .inl s20.2)]) (st' := [.inr (.inr (.inl k0)), .inl s20.1]) rfl ?_
    obtain ⟨v9, h10, h⟩ := Option.bind_eq_some_iff.mp h
    refine J_getR (jat ok_X5_reachesThrough 16 (pc := 29) (i := .getfield 53) (n := 3) rfl rfl) fl_RX5_53 h10 ?_
    refine J_seg ok_X5_reachesThrough 17 1 (pc' := 33) (ls' := [(0, .inr (.inr (.inl k0))), (1, .inl k1), (2, .inl k2), (3, .inl k3), (4, .inl s20.1), (5, .inl k5), (6, .inl s20.2)]) (st' := [.inl k1, .inr (.inr (.inl v9)), .inl s20.1]) rfl ?_
    by_cases c13 : qO ah v9 1 = true
    case neg => exact absurd ((if_neg c13).symm.trans h) (by simp)
    have h := (if_pos c13).symm.trans h
    obtain ⟨q11, h12, h⟩ := Option.bind_eq_some_iff.mp h
    refine J_callV (md' := md_X1_aimOf) (As := [.inl k1]) (st := [.inl s20.1]) (cs' := (0, 0)) (st' := [.inl q11.1, .inl s20.1]) (jat ok_X5_reachesThrough 18 (pc := 33) (i := .invokevirtual 324) (n := 3) rfl rfl) ml_RX5_324 yv_X1_aimOf c13 (c_X1_aimOf l g (d + 4) h12) (jRo_of (by decide)) (Nat.le_of_ble_eq_true rfl) ⟨Nat.le_of_ble_eq_true rfl, Nat.le_of_ble_eq_true rfl⟩ rfl rfl rfl ?_
    refine J_lt (jat ok_X5_reachesThrough 19 (pc := 36) (i := .if_icmp .lt 5) (n := 3) rfl rfl) (tgt := 41) (by decide) (fun c => ?_) (fun c => ?_)
    · have h := (if_pos c).symm.trans h
      refine J_seg ok_X5_reachesThrough 22 7 (pc' := 50) (ls' := [(0, .inr (.inr (.inl k0))), (1, .inl k1), (2, .inl k2), (3, .inl k3), (4, .inl s20.1), (5, .inl k5), (6, .inl s20.2)]) (st' := [.inl 1, .inl ((k3 >>> (s20.2 &&& 31)) &&& 1), .inl s20.1]) rfl ?_
      refine J_ne (jat ok_X5_reachesThrough 29 (pc := 50) (i := .if_icmp .ne 8) (n := 3) rfl rfl) (tgt := 58) (by decide) (fun c => ?_) (fun c => ?_)
      · have h := (if_neg c).symm.trans h
        refine J_seg ok_X5_reachesThrough 32 1 (pc' := 59) (ls' := [(0, .inr (.inr (.inl k0))), (1, .inl k1), (2, .inl k2), (3, .inl k3), (4, .inl s20.1), (5, .inl k5), (6, .inl s20.2)]) (st' := [.inl 0, .inl s20.1]) rfl ?_
        refine J_sub (ls' := [(0, .inr (.inr (.inl k0))), (1, .inl k1), (2, .inl k2), (3, .inl k3), (5, .inl k5), (6, .inl s20.2)]) [0, 1, 2, 3, 5, 6] rfl ?_
        exact k_X5_reachesThrough_b20_j59 d _ _ h hR hX hN
      · have h := (if_pos c).symm.trans h
        refine J_seg ok_X5_reachesThrough 30 2 (pc' := 59) (ls' := [(0, .inr (.inr (.inl k0))), (1, .inl k1), (2, .inl k2), (3, .inl k3), (4, .inl s20.1), (5, .inl k5), (6, .inl s20.2)]) (st' := [.inl k5, .inl s20.1]) rfl ?_
        refine J_sub (ls' := [(0, .inr (.inr (.inl k0))), (1, .inl k1), (2, .inl k2), (3, .inl k3), (5, .inl k5), (6, .inl s20.2)]) [0, 1, 2, 3, 5, 6] rfl ?_
        exact k_X5_reachesThrough_b20_j59 d _ _ h hR hX hN
    · have h := (if_neg c).symm.trans h
      refine J_seg ok_X5_reachesThrough 20 1 (pc' := 40) (ls' := [(0, .inr (.inr (.inl k0))), (1, .inl k1), (2, .inl k2), (3, .inl k3), (4, .inl s20.1), (5, .inl k5), (6, .inl s20.2)]) (st' := [.inl 1]) rfl ?_
      exact hR _ (Option.some.inj h).symm _ _ (jat ok_X5_reachesThrough 21 (pc := 40) (i := .ireturn) (n := 1) rfl rfl) (Or.inr rfl)
def f_X5_reachesThrough (x0 : Option Nat) (x1 : Int32) (x2 : Int32) (x3 : Int32) (ah : AH) : Option (Int32 × AH) :=
  (gR ah x0 5 3).bind fun v1 => if qO ah v1 4 = true then ((f_X4_deedsOf v1 x1 ah).bind fun q3 => if qO q3.2 x0 5 = true then ((f_X5_lossOf x0 x1 q3.2).bind fun q6 => (jloop (f_X5_reachesThrough_b20 x0 x1 x2 x3 q6.1) jfuel (q3.1, 0) q6.2).bind fun q16 => match q16 with | .inl r => some r | .inr z18 => (gR z18.2 x0 5 8).bind fun v20 => if qO z18.2 v20 1 = true then ((f_X1_aimOf v20 x1 z18.2).bind fun q22 => if z18.1 < q22.1 then (some (0, q22.2)) else (some (1, q22.2))) else none) else none) else none
set_option maxRecDepth 100000 in
set_option maxHeartbeats 4000000 in
theorem k_X5_reachesThrough {l : Launch} {g : GX} (d : Nat) {Q : jQ} {x0 : Option Nat} {x1 : Int32} {x2 : Int32} {x3 : Int32} (ah : AH) (out : Int32 × AH) (h : f_X5_reachesThrough x0 x1 x2 x3 ah = some out) (hR : jRetZ l g md_X5_reachesThrough (jRm (d + 6) md_X5_reachesThrough) Q (0, 0) out.1 out.2) : J l g md_X5_reachesThrough (jRm (d + 6) md_X5_reachesThrough) Q 0 [(0, .inr (.inr (.inl x0))), (1, .inl x1), (2, .inl x2), (3, .inl x3)] [] ah (0, 0) := by
  unfold f_X5_reachesThrough at h
  refine J_seg ok_X5_reachesThrough 0 1 (pc' := 1) (ls' := [(0, .inr (.inr (.inl x0))), (1, .inl x1), (2, .inl x2), (3, .inl x3)]) (st' := [.inr (.inr (.inl x0))]) rfl ?_
  obtain ⟨v1, h2, h⟩ := Option.bind_eq_some_iff.mp h
  refine J_getR (jat ok_X5_reachesThrough 1 (pc := 1) (i := .getfield 28) (n := 3) rfl rfl) fl_RX5_28 h2 ?_
  refine J_seg ok_X5_reachesThrough 2 1 (pc' := 5) (ls' := [(0, .inr (.inr (.inl x0))), (1, .inl x1), (2, .inl x2), (3, .inl x3)]) (st' := [.inl x1, .inr (.inr (.inl v1))]) rfl ?_
  by_cases c5 : qO ah v1 4 = true
  case neg => exact absurd ((if_neg c5).symm.trans h) (by simp)
  have h := (if_pos c5).symm.trans h
  obtain ⟨q3, h4, h⟩ := Option.bind_eq_some_iff.mp h
  refine J_callV (md' := md_X4_deedsOf) (As := [.inl x1]) (st := []) (cs' := (0, 0)) (st' := [.inl q3.1]) (jat ok_X5_reachesThrough 3 (pc := 5) (i := .invokevirtual 330) (n := 3) rfl rfl) ml_RX5_330 yv_X4_deedsOf c5 (c_X4_deedsOf l g (d + 4) h4) (jRo_of (by decide)) (Nat.le_of_ble_eq_true rfl) ⟨Nat.le_of_ble_eq_true rfl, Nat.le_of_ble_eq_true rfl⟩ rfl rfl rfl ?_
  refine J_seg ok_X5_reachesThrough 4 3 (pc' := 12) (ls' := [(4, .inl q3.1), (0, .inr (.inr (.inl x0))), (1, .inl x1), (2, .inl x2), (3, .inl x3)]) (st' := [.inl x1, .inr (.inr (.inl x0))]) rfl ?_
  by_cases c8 : qO q3.2 x0 5 = true
  case neg => exact absurd ((if_neg c8).symm.trans h) (by simp)
  have h := (if_pos c8).symm.trans h
  obtain ⟨q6, h7, h⟩ := Option.bind_eq_some_iff.mp h
  refine J_callV (md' := md_X5_lossOf) (As := [.inl x1]) (st := []) (cs' := (0, 0)) (st' := [.inl q6.1]) (jat ok_X5_reachesThrough 7 (pc := 12) (i := .invokevirtual 209) (n := 3) rfl rfl) ml_RX5_209 yv_X5_lossOf c8 (c_X5_lossOf l g (d + 0) h7) (jRo_of (by decide)) (Nat.le_of_ble_eq_true rfl) ⟨Nat.le_of_ble_eq_true rfl, Nat.le_of_ble_eq_true rfl⟩ rfl rfl rfl ?_
  refine J_seg ok_X5_reachesThrough 8 3 (pc' := 20) (ls' := [(6, .inl 0), (5, .inl q6.1), (4, .inl q3.1), (0, .inr (.inr (.inl x0))), (1, .inl x1), (2, .inl x2), (3, .inl x3)]) (st' := []) rfl ?_
  obtain ⟨q16, h17, h⟩ := Option.bind_eq_some_iff.mp h
  refine J_sub (ls' := [(0, .inr (.inr (.inl x0))), (1, .inl x1), (2, .inl x2), (3, .inl x3), (4, .inl q3.1), (5, .inl q6.1), (6, .inl 0)]) [3, 4, 5, 6, 2, 1, 0] rfl ?_
  refine J_loop (pE := 70) (lh := fun t19 => [(0, .inr (.inr (.inl x0))), (1, .inl x1), (2, .inl x2), (3, .inl x3), (4, .inl t19.1), (5, .inl q6.1), (6, .inl t19.2)]) (lx := fun z18 => [(0, .inr (.inr (.inl x0))), (1, .inl x1), (4, .inl z18)]) (P := jRetZ l g md_X5_reachesThrough (jRm (d + 6) md_X5_reachesThrough) Q (0, 0)) (fun s ah out hb hR hX hN => k_X5_reachesThrough_b20 d s ah out hb hR hX hN) jfuel (q3.1, 0) _ _ h17 (fun r e => ?_) (fun z18 e => ?_)
  · subst e
    dsimp only at h
    have h := Option.some.inj h
    subst h
    exact hR
  · subst e
    dsimp only at h
    refine J_seg ok_X5_reachesThrough 37 2 (pc' := 73) (ls' := [(0, .inr (.inr (.inl x0))), (1, .inl x1), (4, .inl z18.1)]) (st' := [.inr (.inr (.inl x0)), .inl z18.1]) rfl ?_
    obtain ⟨v20, h21, h⟩ := Option.bind_eq_some_iff.mp h
    refine J_getR (jat ok_X5_reachesThrough 39 (pc := 73) (i := .getfield 53) (n := 3) rfl rfl) fl_RX5_53 h21 ?_
    refine J_seg ok_X5_reachesThrough 40 1 (pc' := 77) (ls' := [(0, .inr (.inr (.inl x0))), (1, .inl x1), (4, .inl z18.1)]) (st' := [.inl x1, .inr (.inr (.inl v20)), .inl z18.1]) rfl ?_
    by_cases c24 : qO z18.2 v20 1 = true
    case neg => exact absurd ((if_neg c24).symm.trans h) (by simp)
    have h := (if_pos c24).symm.trans h
    obtain ⟨q22, h23, h⟩ := Option.bind_eq_some_iff.mp h
    refine J_callV (md' := md_X1_aimOf) (As := [.inl x1]) (st := [.inl z18.1]) (cs' := (0, 0)) (st' := [.inl q22.1, .inl z18.1]) (jat ok_X5_reachesThrough 41 (pc := 77) (i := .invokevirtual 324) (n := 3) rfl rfl) ml_RX5_324 yv_X1_aimOf c24 (c_X1_aimOf l g (d + 4) h23) (jRo_of (by decide)) (Nat.le_of_ble_eq_true rfl) ⟨Nat.le_of_ble_eq_true rfl, Nat.le_of_ble_eq_true rfl⟩ rfl rfl rfl ?_
    refine J_lt (jat ok_X5_reachesThrough 42 (pc := 80) (i := .if_icmp .lt 7) (n := 3) rfl rfl) (tgt := 87) (by decide) (fun c => ?_) (fun c => ?_)
    · have h := (if_pos c).symm.trans h
      refine J_seg ok_X5_reachesThrough 45 1 (pc' := 88) (ls' := [(0, .inr (.inr (.inl x0))), (1, .inl x1), (4, .inl z18.1)]) (st' := [.inl 0]) rfl ?_
      have h := Option.some.inj h
      subst h
      exact hR _ _ (jat ok_X5_reachesThrough 46 (pc := 88) (i := .ireturn) (n := 1) rfl rfl) (Or.inl rfl)
    · have h := (if_neg c).symm.trans h
      refine J_seg ok_X5_reachesThrough 43 2 (pc' := 88) (ls' := [(0, .inr (.inr (.inl x0))), (1, .inl x1), (4, .inl z18.1)]) (st' := [.inl 1]) rfl ?_
      have h := Option.some.inj h
      subst h
      exact hR _ _ (jat ok_X5_reachesThrough 46 (pc := 88) (i := .ireturn) (n := 1) rfl rfl) (Or.inr rfl)
theorem c_X5_reachesThrough (l : Launch) (g : GX) (d : Nat) {x0 : Option Nat} {x1 : Int32} {x2 : Int32} {x3 : Int32} {ah : AH} {q : Int32 × AH} (h : f_X5_reachesThrough x0 x1 x2 x3 ah = some q) : jM l g (d + 6) md_X5_reachesThrough [.inr (.inr (.inl x0)), .inl x1, .inl x2, .inl x3] ah (some (.inl q.1)) q.2 :=
  jM_of (by decide) (Nat.le_of_ble_eq_true rfl) (k_X5_reachesThrough d ah q h (fun pc ls hd c => J_reti hd rfl (jPV_z c) rfl (Nat.le_refl _) rfl rfl))
def f_X5_ways_b32 (k0 : Option Nat) (k1 : Int32) (k2 : Int32) (s32 : Int32 × Int32 × Int32) (ah : AH) : Option ((Unit × AH) ⊕ (((Int32 × Int32) × AH) ⊕ ((Int32 × Int32 × Int32) × AH))) :=
  if (1 <<< (k2 &&& 31)) ≤ s32.2.2 then (some (.inr (.inl ((s32.1, s32.2.1), ah)))) else (if qO ah k0 5 = true then ((f_X5_reachesThrough k0 k1 k2 s32.2.2 ah).bind fun q6 => if q6.1 = 0 then ((f_J6_bitCount_0f7a4 s32.2.2 q6.2).bind fun q9 => if s32.2.1 = (-9) then (some (.inr (.inr ((s32.1 + 1, q9.1, s32.2.2 + 1), q9.2)))) else (if s32.2.1 ≤ q9.1 then (some (.inr (.inr ((s32.1 + 1, s32.2.1, s32.2.2 + 1), q9.2)))) else (some (.inr (.inr ((s32.1 + 1, q9.1, s32.2.2 + 1), q9.2)))))) else (some (.inr (.inr ((s32.1, s32.2.1, s32.2.2 + 1), q6.2))))) else none)
set_option maxRecDepth 100000 in
set_option maxHeartbeats 4000000 in
theorem k_X5_ways_b32 {l : Launch} {g : GX} (d : Nat) {Q : jQ} {k0 : Option Nat} {k1 : Int32} {k2 : Int32} (s32 : Int32 × Int32 × Int32) (ah : AH) (out : (Unit × AH) ⊕ (((Int32 × Int32) × AH) ⊕ ((Int32 × Int32 × Int32) × AH))) (h : f_X5_ways_b32 k0 k1 k2 s32 ah = some out) (hR : ∀ q, out = .inl q → jRetN q.1 q.2) (hX : ∀ q, out = .inr (.inl q) → J l g md_X5_ways (jRm (d + 7) md_X5_ways) Q 88 [(0, .inr (.inr (.inl k0))), (3, .inl q.1.1), (4, .inl q.1.2)] [] q.2 (0, 0)) (hN : ∀ q, out = .inr (.inr q) → J l g md_X5_ways (jRm (d + 7) md_X5_ways) Q 32 [(0, .inr (.inr (.inl k0))), (1, .inl k1), (2, .inl k2), (3, .inl q.1.1), (4, .inl q.1.2.1), (5, .inl q.1.2.2)] [] q.2 (0, 0)) : J l g md_X5_ways (jRm (d + 7) md_X5_ways) Q 32 [(0, .inr (.inr (.inl k0))), (1, .inl k1), (2, .inl k2), (3, .inl s32.1), (4, .inl s32.2.1), (5, .inl s32.2.2)] [] ah (0, 0) := by
  unfold f_X5_ways_b32 at h
  refine J_seg ok_X5_ways 18 4 (pc' := 37) (ls' := [(0, .inr (.inr (.inl k0))), (1, .inl k1), (2, .inl k2), (3, .inl s32.1), (4, .inl s32.2.1), (5, .inl s32.2.2)]) (st' := [.inl (1 <<< (k2 &&& 31)), .inl s32.2.2]) rfl ?_
  refine J_ge (jat ok_X5_ways 22 (pc := 37) (i := .if_icmp .ge 51) (n := 3) rfl rfl) (tgt := 88) (by decide) (fun c => ?_) (fun c => ?_)
  · have h := (if_pos c).symm.trans h
    exact J_sub (ls' := [(0, .inr (.inr (.inl k0))), (3, .inl s32.1), (4, .inl s32.2.1)]) [0, 3, 4] rfl (hX ((s32.1, s32.2.1), ah) (Option.some.inj h).symm)
  · have h := (if_neg c).symm.trans h
    refine J_seg ok_X5_ways 23 4 (pc' := 45) (ls' := [(0, .inr (.inr (.inl k0))), (1, .inl k1), (2, .inl k2), (3, .inl s32.1), (4, .inl s32.2.1), (5, .inl s32.2.2)]) (st' := [.inl s32.2.2, .inl k2, .inl k1, .inr (.inr (.inl k0))]) rfl ?_
    by_cases c8 : qO ah k0 5 = true
    case neg => exact absurd ((if_neg c8).symm.trans h) (by simp)
    have h := (if_pos c8).symm.trans h
    obtain ⟨q6, h7, h⟩ := Option.bind_eq_some_iff.mp h
    refine J_callV (md' := md_X5_reachesThrough) (As := [.inl k1, .inl k2, .inl s32.2.2]) (st := []) (cs' := (0, 0)) (st' := [.inl q6.1]) (jat ok_X5_ways 27 (pc := 45) (i := .invokevirtual 215) (n := 3) rfl rfl) ml_RX5_215 yv_X5_reachesThrough c8 (c_X5_reachesThrough l g (d + 0) h7) (jRo_of (by decide)) (Nat.le_of_ble_eq_true rfl) ⟨Nat.le_of_ble_eq_true rfl, Nat.le_of_ble_eq_true rfl⟩ rfl rfl rfl ?_
    refine J_eq0 (jat ok_X5_ways 28 (pc := 48) (i := .ifCond .eq 6) (n := 3) rfl rfl) (tgt := 54) (by decide) (fun c => ?_) (fun c => ?_)
    · have h := (if_pos c).symm.trans h
      refine J_seg ok_X5_ways 30 2 (pc' := 59) (ls' := [(3, .inl (s32.1 + 1)), (0, .inr (.inr (.inl k0))), (1, .inl k1), (2, .inl k2), (4, .inl s32.2.1), (5, .inl s32.2.2)]) (st' := [.inl s32.2.2]) rfl ?_
      obtain ⟨q9, h10, h⟩ := Option.bind_eq_some_iff.mp h
      refine J_callS (md' := md_J6_bitCount_0f7a4) (As := [.inl s32.2.2]) (st := []) (cs' := (0, 0)) (st' := [.inl q9.1]) (jat ok_X5_ways 32 (pc := 59) (i := .invokestatic 148) (n := 3) rfl rfl) (Or.inl ml_RX5_148) ys_J6_bitCount_0f7a4 (c_J6_bitCount_0f7a4 l g (d + 6) h10) (jRo_of (by decide)) (Nat.le_of_ble_eq_true rfl) ⟨Nat.le_of_ble_eq_true rfl, Nat.le_of_ble_eq_true rfl⟩ rfl rfl rfl ?_
      refine J_seg ok_X5_ways 33 3 (pc' := 68) (ls' := [(6, .inl q9.1), (3, .inl (s32.1 + 1)), (0, .inr (.inr (.inl k0))), (1, .inl k1), (2, .inl k2), (4, .inl s32.2.1), (5, .inl s32.2.2)]) (st' := [.inl (-9), .inl s32.2.1]) rfl ?_
      refine J_eq (jat ok_X5_ways 36 (pc := 68) (i := .if_icmp .eq 10) (n := 3) rfl rfl) (tgt := 78) (by decide) (fun c => ?_) (fun c => ?_)
      · have h := (if_pos c).symm.trans h
        refine J_seg ok_X5_ways 40 4 (pc' := 32) (ls' := [(5, .inl (s32.2.2 + 1)), (4, .inl q9.1), (6, .inl q9.1), (3, .inl (s32.1 + 1)), (0, .inr (.inr (.inl k0))), (1, .inl k1), (2, .inl k2)]) (st' := []) rfl ?_
        exact J_sub (ls' := [(0, .inr (.inr (.inl k0))), (1, .inl k1), (2, .inl k2), (3, .inl (s32.1 + 1)), (4, .inl q9.1), (5, .inl (s32.2.2 + 1))]) [4, 5, 6, 3, 1, 0] rfl (hN ((s32.1 + 1, q9.1, s32.2.2 + 1), q9.2) (Option.some.inj h).symm)
      · have h := (if_neg c).symm.trans h
        refine J_seg ok_X5_ways 37 2 (pc' := 75) (ls' := [(6, .inl q9.1), (3, .inl (s32.1 + 1)), (0, .inr (.inr (.inl k0))), (1, .inl k1), (2, .inl k2), (4, .inl s32.2.1), (5, .inl s32.2.2)]) (st' := [.inl s32.2.1, .inl q9.1]) rfl ?_
        refine J_ge (jat ok_X5_ways 39 (pc := 75) (i := .if_icmp .ge 7) (n := 3) rfl rfl) (tgt := 82) (by decide) (fun c => ?_) (fun c => ?_)
        · have h := (if_pos c).symm.trans h
          refine J_seg ok_X5_ways 42 2 (pc' := 32) (ls' := [(5, .inl (s32.2.2 + 1)), (6, .inl q9.1), (3, .inl (s32.1 + 1)), (0, .inr (.inr (.inl k0))), (1, .inl k1), (2, .inl k2), (4, .inl s32.2.1)]) (st' := []) rfl ?_
          exact J_sub (ls' := [(0, .inr (.inr (.inl k0))), (1, .inl k1), (2, .inl k2), (3, .inl (s32.1 + 1)), (4, .inl s32.2.1), (5, .inl (s32.2.2 + 1))]) [3, 4, 5, 2, 6, 0] rfl (hN ((s32.1 + 1, s32.2.1, s32.2.2 + 1), q9.2) (Option.some.inj h).symm)
        · have h := (if_neg c).symm.trans h
          refine J_seg ok_X5_ways 40 4 (pc' := 32) (ls' := [(5, .inl (s32.2.2 + 1)), (4, .inl q9.1), (6, .inl q9.1), (3, .inl (s32.1 + 1)), (0, .inr (.inr (.inl k0))), (1, .inl k1), (2, .inl k2)]) (st' := []) rfl ?_
          exact J_sub (ls' := [(0, .inr (.inr (.inl k0))), (1, .inl k1), (2, .inl k2), (3, .inl (s32.1 + 1)), (4, .inl q9.1), (5, .inl (s32.2.2 + 1))]) [4, 5, 6, 3, 1, 0] rfl (hN ((s32.1 + 1, q9.1, s32.2.2 + 1), q9.2) (Option.some.inj h).symm)
    · have h := (if_neg c).symm.trans h
      refine J_seg ok_X5_ways 29 1 (pc' := 82) (ls' := [(0, .inr (.inr (.inl k0))), (1, .inl k1), (2, .inl k2), (3, .inl s32.1), (4, .inl s32.2.1), (5, .inl s32.2.2)]) (st' := []) rfl ?_
      refine J_seg ok_X5_ways 42 2 (pc' := 32) (ls' := [(5, .inl (s32.2.2 + 1)), (0, .inr (.inr (.inl k0))), (1, .inl k1), (2, .inl k2), (3, .inl s32.1), (4, .inl s32.2.1)]) (st' := []) rfl ?_
      exact J_sub (ls' := [(0, .inr (.inr (.inl k0))), (1, .inl k1), (2, .inl k2), (3, .inl s32.1), (4, .inl s32.2.1), (5, .inl (s32.2.2 + 1))]) [1, 2, 3, 4, 5, 0] rfl (hN ((s32.1, s32.2.1, s32.2.2 + 1), q6.2) (Option.some.inj h).symm)
def f_X5_ways (x0 : Option Nat) (x1 : Int32) (x2 : Int32) (ah : AH) : Option (Int32 × AH) :=
  (gR ah x0 5 8).bind fun v1 => if qO ah v1 1 = true then ((f_X1_has v1 x1 ah).bind fun q3 => if q3.1 = 0 then (some ((-1), q3.2)) else (if x2 < 0 then (some ((-1), q3.2)) else (if x2 ≤ 8 then ((jloop (f_X5_ways_b32 x0 x1 x2) jfuel (0, (-9), 0) q3.2).bind fun q11 => match q11 with | .inl r => none | .inr z13 => (sF z13.2 x0 5 11 (.inl z13.1.2)).bind fun a15 => some (z13.1.1, a15)) else (some ((-1), q3.2))))) else none
set_option maxRecDepth 100000 in
set_option maxHeartbeats 4000000 in
theorem k_X5_ways {l : Launch} {g : GX} (d : Nat) {Q : jQ} {x0 : Option Nat} {x1 : Int32} {x2 : Int32} (ah : AH) (out : Int32 × AH) (h : f_X5_ways x0 x1 x2 ah = some out) (hR : jRetI l g md_X5_ways (jRm (d + 7) md_X5_ways) Q (0, 0) out.1 out.2) : J l g md_X5_ways (jRm (d + 7) md_X5_ways) Q 0 [(0, .inr (.inr (.inl x0))), (1, .inl x1), (2, .inl x2)] [] ah (0, 0) := by
  unfold f_X5_ways at h
  refine J_seg ok_X5_ways 0 1 (pc' := 1) (ls' := [(0, .inr (.inr (.inl x0))), (1, .inl x1), (2, .inl x2)]) (st' := [.inr (.inr (.inl x0))]) rfl ?_
  obtain ⟨v1, h2, h⟩ := Option.bind_eq_some_iff.mp h
  refine J_getR (jat ok_X5_ways 1 (pc := 1) (i := .getfield 53) (n := 3) rfl rfl) fl_RX5_53 h2 ?_
  refine J_seg ok_X5_ways 2 1 (pc' := 5) (ls' := [(0, .inr (.inr (.inl x0))), (1, .inl x1), (2, .inl x2)]) (st' := [.inl x1, .inr (.inr (.inl v1))]) rfl ?_
  by_cases c5 : qO ah v1 1 = true
  case neg => exact absurd ((if_neg c5).symm.trans h) (by simp)
  have h := (if_pos c5).symm.trans h
  obtain ⟨q3, h4, h⟩ := Option.bind_eq_some_iff.mp h
  refine J_callV (md' := md_X1_has) (As := [.inl x1]) (st := []) (cs' := (0, 0)) (st' := [.inl q3.1]) (jat ok_X5_ways 3 (pc := 5) (i := .invokevirtual 128) (n := 3) rfl rfl) ml_RX5_128 yv_X1_has c5 (c_X1_has l g (d + 6) h4) (jRo_of (by decide)) (Nat.le_of_ble_eq_true rfl) ⟨Nat.le_of_ble_eq_true rfl, Nat.le_of_ble_eq_true rfl⟩ rfl rfl rfl ?_
  refine J_eq0 (jat ok_X5_ways 4 (pc := 8) (i := .ifCond .eq 13) (n := 3) rfl rfl) (tgt := 21) (by decide) (fun c => ?_) (fun c => ?_)
  · have h := (if_pos c).symm.trans h
    refine J_seg ok_X5_ways 10 1 (pc' := 22) (ls' := [(0, .inr (.inr (.inl x0))), (1, .inl x1), (2, .inl x2)]) (st' := [.inl (-1)]) rfl ?_
    have h := Option.some.inj h
    subst h
    exact hR _ _ (jat ok_X5_ways 11 (pc := 22) (i := .ireturn) (n := 1) rfl rfl)
  · have h := (if_neg c).symm.trans h
    refine J_seg ok_X5_ways 5 1 (pc' := 12) (ls' := [(0, .inr (.inr (.inl x0))), (1, .inl x1), (2, .inl x2)]) (st' := [.inl x2]) rfl ?_
    refine J_lt0 (jat ok_X5_ways 6 (pc := 12) (i := .ifCond .lt 9) (n := 3) rfl rfl) (tgt := 21) (by decide) (fun c => ?_) (fun c => ?_)
    · have h := (if_pos c).symm.trans h
      refine J_seg ok_X5_ways 10 1 (pc' := 22) (ls' := [(0, .inr (.inr (.inl x0))), (1, .inl x1), (2, .inl x2)]) (st' := [.inl (-1)]) rfl ?_
      have h := Option.some.inj h
      subst h
      exact hR _ _ (jat ok_X5_ways 11 (pc := 22) (i := .ireturn) (n := 1) rfl rfl)
    · have h := (if_neg c).symm.trans h
      refine J_seg ok_X5_ways 7 2 (pc' := 18) (ls' := [(0, .inr (.inr (.inl x0))), (1, .inl x1), (2, .inl x2)]) (st' := [.inl 8, .inl x2]) rfl ?_
      refine J_le (jat ok_X5_ways 9 (pc := 18) (i := .if_icmp .le 5) (n := 3) rfl rfl) (tgt := 23) (by decide) (fun c => ?_) (fun c => ?_)
      · have h := (if_pos c).symm.trans h
        refine J_seg ok_X5_ways 12 6 (pc' := 32) (ls' := [(5, .inl 0), (4, .inl (-9)), (3, .inl 0), (0, .inr (.inr (.inl x0))), (1, .inl x1), (2, .inl x2)]) (st' := []) rfl ?_
        obtain ⟨q11, h12, h⟩ := Option.bind_eq_some_iff.mp h
        refine J_sub (ls' := [(0, .inr (.inr (.inl x0))), (1, .inl x1), (2, .inl x2), (3, .inl 0), (4, .inl (-9)), (5, .inl 0)]) [3, 4, 5, 2, 1, 0] rfl ?_
        refine J_loop (pE := 88) (lh := fun t14 => [(0, .inr (.inr (.inl x0))), (1, .inl x1), (2, .inl x2), (3, .inl t14.1), (4, .inl t14.2.1), (5, .inl t14.2.2)]) (lx := fun z13 => [(0, .inr (.inr (.inl x0))), (3, .inl z13.1), (4, .inl z13.2)]) (P := jRetN) (fun s ah out hb hR hX hN => k_X5_ways_b32 d s ah out hb hR hX hN) jfuel (0, (-9), 0) _ _ h12 (fun r e => ?_) (fun z13 e => ?_)
        · subst e
          dsimp only at h
          cases h
        · subst e
          dsimp only at h
          refine J_seg ok_X5_ways 44 2 (pc' := 91) (ls' := [(0, .inr (.inr (.inl x0))), (3, .inl z13.1.1), (4, .inl z13.1.2)]) (st' := [.inl z13.1.2, .inr (.inr (.inl x0))]) rfl ?_
          obtain ⟨a15, h16, h⟩ := Option.bind_eq_some_iff.mp h
          refine J_put (jat ok_X5_ways 46 (pc := 91) (i := .putfield 90) (n := 3) rfl rfl) (fp_RX5_90 _) (jPV_int _) h16 ?_
          refine J_seg ok_X5_ways 47 1 (pc' := 95) (ls' := [(0, .inr (.inr (.inl x0))), (3, .inl z13.1.1), (4, .inl z13.1.2)]) (st' := [.inl z13.1.1]) rfl ?_
          have h := Option.some.inj h
          subst h
          exact hR _ _ (jat ok_X5_ways 48 (pc := 95) (i := .ireturn) (n := 1) rfl rfl)
      · have h := (if_neg c).symm.trans h
        refine J_seg ok_X5_ways 10 1 (pc' := 22) (ls' := [(0, .inr (.inr (.inl x0))), (1, .inl x1), (2, .inl x2)]) (st' := [.inl (-1)]) rfl ?_
        have h := Option.some.inj h
        subst h
        exact hR _ _ (jat ok_X5_ways 11 (pc := 22) (i := .ireturn) (n := 1) rfl rfl)
theorem c_X5_ways (l : Launch) (g : GX) (d : Nat) {x0 : Option Nat} {x1 : Int32} {x2 : Int32} {ah : AH} {q : Int32 × AH} (h : f_X5_ways x0 x1 x2 ah = some q) : jM l g (d + 7) md_X5_ways [.inr (.inr (.inl x0)), .inl x1, .inl x2] ah (some (.inl q.1)) q.2 :=
  jM_of (by decide) (Nat.le_of_ble_eq_true rfl) (k_X5_ways d ah q h (fun pc ls hd => J_reti hd rfl (jPV_int _) rfl (Nat.le_refl _) rfl rfl))
