def f_X6_isOf_j25 (x0 : Option Nat) (x1 : Int32) (x2 : Int32) (ah : AH) : Option (Int32 × AH) :=
  if x2 = 3 then ((gR ah x0 6 2).bind fun v5 => (gA ah v5 x1).bind fun v7 => if v7 = 5 then (some (1, ah)) else (some (0, ah))) else (some (0, ah))
set_option maxRecDepth 100000 in
set_option maxHeartbeats 4000000 in
theorem k_X6_isOf_j25 {l : Launch} {g : GX} (d : Nat) {Q : jQ} {x0 : Option Nat} {x1 : Int32} {x2 : Int32} (ah : AH) (out : Int32 × AH) (h : f_X6_isOf_j25 x0 x1 x2 ah = some out) (hR : jRetZ l g md_X6_isOf (jRm (d + 0) md_X6_isOf) Q (0, 0) out.1 out.2) : J l g md_X6_isOf (jRm (d + 0) md_X6_isOf) Q 25 [(0, .inr (.inr (.inl x0))), (1, .inl x1), (2, .inl x2)] [] ah (0, 0) := by
  unfold f_X6_isOf_j25 at h
  refine J_seg ok_X6_isOf 15 2 (pc' := 27) (ls' := [(0, .inr (.inr (.inl x0))), (1, .inl x1), (2, .inl x2)]) (st' := [.inl 3, .inl x2]) rfl ?_
  refine J_ne (jat ok_X6_isOf 17 (pc := 27) (i := .if_icmp .ne 17) (n := 3) rfl rfl) (tgt := 44) (by decide) (fun c => ?_) (fun c => ?_)
  · have h := (if_neg c).symm.trans h
    refine J_seg ok_X6_isOf 26 1 (pc' := 45) (ls' := [(0, .inr (.inr (.inl x0))), (1, .inl x1), (2, .inl x2)]) (st' := [.inl 0]) rfl ?_
    have h := Option.some.inj h
    subst h
    exact hR _ _ (jat ok_X6_isOf 27 (pc := 45) (i := .ireturn) (n := 1) rfl rfl) (Or.inl rfl)
  · have h := (if_pos c).symm.trans h
    refine J_seg ok_X6_isOf 18 1 (pc' := 31) (ls' := [(0, .inr (.inr (.inl x0))), (1, .inl x1), (2, .inl x2)]) (st' := [.inr (.inr (.inl x0))]) rfl ?_
    obtain ⟨v5, h6, h⟩ := Option.bind_eq_some_iff.mp h
    refine J_getR (jat ok_X6_isOf 19 (pc := 31) (i := .getfield 13) (n := 3) rfl rfl) fl_RX6_13 h6 ?_
    refine J_seg ok_X6_isOf 20 1 (pc' := 35) (ls' := [(0, .inr (.inr (.inl x0))), (1, .inl x1), (2, .inl x2)]) (st' := [.inl x1, .inr (.inr (.inl v5))]) rfl ?_
    obtain ⟨v7, h8, h⟩ := Option.bind_eq_some_iff.mp h
    refine J_iald (jat ok_X6_isOf 21 (pc := 35) (i := .iaload) (n := 1) rfl rfl) h8 ?_
    refine J_seg ok_X6_isOf 22 1 (pc' := 37) (ls' := [(0, .inr (.inr (.inl x0))), (1, .inl x1), (2, .inl x2)]) (st' := [.inl 5, .inl v7]) rfl ?_
    refine J_ne (jat ok_X6_isOf 23 (pc := 37) (i := .if_icmp .ne 7) (n := 3) rfl rfl) (tgt := 44) (by decide) (fun c => ?_) (fun c => ?_)
    · have h := (if_neg c).symm.trans h
      refine J_seg ok_X6_isOf 26 1 (pc' := 45) (ls' := [(0, .inr (.inr (.inl x0))), (1, .inl x1), (2, .inl x2)]) (st' := [.inl 0]) rfl ?_
      have h := Option.some.inj h
      subst h
      exact hR _ _ (jat ok_X6_isOf 27 (pc := 45) (i := .ireturn) (n := 1) rfl rfl) (Or.inl rfl)
    · have h := (if_pos c).symm.trans h
      refine J_seg ok_X6_isOf 24 2 (pc' := 45) (ls' := [(0, .inr (.inr (.inl x0))), (1, .inl x1), (2, .inl x2)]) (st' := [.inl 1]) rfl ?_
      have h := Option.some.inj h
      subst h
      exact hR _ _ (jat ok_X6_isOf 27 (pc := 45) (i := .ireturn) (n := 1) rfl rfl) (Or.inr rfl)
def f_X6_isOf (x0 : Option Nat) (x1 : Int32) (x2 : Int32) (ah : AH) : Option (Int32 × AH) :=
  (gR ah x0 6 2).bind fun v1 => (gA ah v1 x1).bind fun v3 => if v3 = x2 then (some (1, ah)) else (if x2 = 1 then ((gR ah x0 6 2).bind fun v9 => (gA ah v9 x1).bind fun v11 => if v11 = 4 then (some (1, ah)) else (f_X6_isOf_j25 x0 x1 x2 ah)) else (f_X6_isOf_j25 x0 x1 x2 ah))
set_option maxRecDepth 100000 in
set_option maxHeartbeats 4000000 in
theorem k_X6_isOf {l : Launch} {g : GX} (d : Nat) {Q : jQ} {x0 : Option Nat} {x1 : Int32} {x2 : Int32} (ah : AH) (out : Int32 × AH) (h : f_X6_isOf x0 x1 x2 ah = some out) (hR : jRetZ l g md_X6_isOf (jRm (d + 0) md_X6_isOf) Q (0, 0) out.1 out.2) : J l g md_X6_isOf (jRm (d + 0) md_X6_isOf) Q 0 [(0, .inr (.inr (.inl x0))), (1, .inl x1), (2, .inl x2)] [] ah (0, 0) := by
  unfold f_X6_isOf at h
  refine J_seg ok_X6_isOf 0 1 (pc' := 1) (ls' := [(0, .inr (.inr (.inl x0))), (1, .inl x1), (2, .inl x2)]) (st' := [.inr (.inr (.inl x0))]) rfl ?_
  obtain ⟨v1, h2, h⟩ := Option.bind_eq_some_iff.mp h
  refine J_getR (jat ok_X6_isOf 1 (pc := 1) (i := .getfield 13) (n := 3) rfl rfl) fl_RX6_13 h2 ?_
  refine J_seg ok_X6_isOf 2 1 (pc' := 5) (ls' := [(0, .inr (.inr (.inl x0))), (1, .inl x1), (2, .inl x2)]) (st' := [.inl x1, .inr (.inr (.inl v1))]) rfl ?_
  obtain ⟨v3, h4, h⟩ := Option.bind_eq_some_iff.mp h
  refine J_iald (jat ok_X6_isOf 3 (pc := 5) (i := .iaload) (n := 1) rfl rfl) h4 ?_
  refine J_seg ok_X6_isOf 4 1 (pc' := 7) (ls' := [(0, .inr (.inr (.inl x0))), (1, .inl x1), (2, .inl x2)]) (st' := [.inl x2, .inl v3]) rfl ?_
  refine J_eq (jat ok_X6_isOf 5 (pc := 7) (i := .if_icmp .eq 33) (n := 3) rfl rfl) (tgt := 40) (by decide) (fun c => ?_) (fun c => ?_)
  · have h := (if_pos c).symm.trans h
    refine J_seg ok_X6_isOf 24 2 (pc' := 45) (ls' := [(0, .inr (.inr (.inl x0))), (1, .inl x1), (2, .inl x2)]) (st' := [.inl 1]) rfl ?_
    have h := Option.some.inj h
    subst h
    exact hR _ _ (jat ok_X6_isOf 27 (pc := 45) (i := .ireturn) (n := 1) rfl rfl) (Or.inr rfl)
  · have h := (if_neg c).symm.trans h
    refine J_seg ok_X6_isOf 6 2 (pc' := 12) (ls' := [(0, .inr (.inr (.inl x0))), (1, .inl x1), (2, .inl x2)]) (st' := [.inl 1, .inl x2]) rfl ?_
    refine J_ne (jat ok_X6_isOf 8 (pc := 12) (i := .if_icmp .ne 13) (n := 3) rfl rfl) (tgt := 25) (by decide) (fun c => ?_) (fun c => ?_)
    · have h := (if_neg c).symm.trans h
      refine J_sub (ls' := [(0, .inr (.inr (.inl x0))), (1, .inl x1), (2, .inl x2)]) [0, 1, 2] rfl ?_
      exact k_X6_isOf_j25 d _ _ h hR
    · have h := (if_pos c).symm.trans h
      refine J_seg ok_X6_isOf 9 1 (pc' := 16) (ls' := [(0, .inr (.inr (.inl x0))), (1, .inl x1), (2, .inl x2)]) (st' := [.inr (.inr (.inl x0))]) rfl ?_
      obtain ⟨v9, h10, h⟩ := Option.bind_eq_some_iff.mp h
      refine J_getR (jat ok_X6_isOf 10 (pc := 16) (i := .getfield 13) (n := 3) rfl rfl) fl_RX6_13 h10 ?_
      refine J_seg ok_X6_isOf 11 1 (pc' := 20) (ls' := [(0, .inr (.inr (.inl x0))), (1, .inl x1), (2, .inl x2)]) (st' := [.inl x1, .inr (.inr (.inl v9))]) rfl ?_
      obtain ⟨v11, h12, h⟩ := Option.bind_eq_some_iff.mp h
      refine J_iald (jat ok_X6_isOf 12 (pc := 20) (i := .iaload) (n := 1) rfl rfl) h12 ?_
      refine J_seg ok_X6_isOf 13 1 (pc' := 22) (ls' := [(0, .inr (.inr (.inl x0))), (1, .inl x1), (2, .inl x2)]) (st' := [.inl 4, .inl v11]) rfl ?_
      refine J_eq (jat ok_X6_isOf 14 (pc := 22) (i := .if_icmp .eq 18) (n := 3) rfl rfl) (tgt := 40) (by decide) (fun c => ?_) (fun c => ?_)
      · have h := (if_pos c).symm.trans h
        refine J_seg ok_X6_isOf 24 2 (pc' := 45) (ls' := [(0, .inr (.inr (.inl x0))), (1, .inl x1), (2, .inl x2)]) (st' := [.inl 1]) rfl ?_
        have h := Option.some.inj h
        subst h
        exact hR _ _ (jat ok_X6_isOf 27 (pc := 45) (i := .ireturn) (n := 1) rfl rfl) (Or.inr rfl)
      · have h := (if_neg c).symm.trans h
        refine J_sub (ls' := [(0, .inr (.inr (.inl x0))), (1, .inl x1), (2, .inl x2)]) [0, 1, 2] rfl ?_
        exact k_X6_isOf_j25 d _ _ h hR
theorem c_X6_isOf (l : Launch) (g : GX) (d : Nat) {x0 : Option Nat} {x1 : Int32} {x2 : Int32} {ah : AH} {q : Int32 × AH} (h : f_X6_isOf x0 x1 x2 ah = some q) : jM l g (d + 0) md_X6_isOf [.inr (.inr (.inl x0)), .inl x1, .inl x2] ah (some (.inl q.1)) q.2 :=
  jM_of (by decide) (Nat.le_of_ble_eq_true rfl) (k_X6_isOf d ah q h (fun pc ls hd c => J_reti hd rfl (jPV_z c) rfl (Nat.le_refl _) rfl rfl))
def f_X6_saved_b4_j49 (k0 : Option Nat) (k1 : Int32) (x3 : Int32) (y0 : Int32) (ah : AH) : Option ((Unit × AH) ⊕ (((Int32) × AH) ⊕ ((Int32 × Int32) × AH))) :=
  some (.inr (.inr ((y0 + 0, x3 + 1), ah)))
set_option maxRecDepth 100000 in
set_option maxHeartbeats 4000000 in
theorem k_X6_saved_b4_j49 {l : Launch} {g : GX} (d : Nat) {Q : jQ} {k0 : Option Nat} {k1 : Int32} {x3 : Int32} {y0 : Int32} (ah : AH) (out : (Unit × AH) ⊕ (((Int32) × AH) ⊕ ((Int32 × Int32) × AH))) (h : f_X6_saved_b4_j49 k0 k1 x3 y0 ah = some out) (hR : ∀ q, out = .inl q → jRetN q.1 q.2) (hX : ∀ q, out = .inr (.inl q) → J l g md_X6_saved (jRm (d + 2) md_X6_saved) Q 58 [(2, .inl q.1)] [] q.2 (0, 0)) (hN : ∀ q, out = .inr (.inr q) → J l g md_X6_saved (jRm (d + 2) md_X6_saved) Q 4 [(0, .inr (.inr (.inl k0))), (1, .inl k1), (2, .inl q.1.1), (3, .inl q.1.2)] [] q.2 (0, 0)) : J l g md_X6_saved (jRm (d + 2) md_X6_saved) Q 49 [(0, .inr (.inr (.inl k0))), (1, .inl k1), (3, .inl x3)] [.inl y0] ah (0, 0) := by
  unfold f_X6_saved_b4_j49 at h
  refine J_seg ok_X6_saved 29 5 (pc' := 4) (ls' := [(3, .inl (x3 + 1)), (2, .inl (y0 + 0)), (0, .inr (.inr (.inl k0))), (1, .inl k1)]) (st' := []) rfl ?_
  exact J_sub (ls' := [(0, .inr (.inr (.inl k0))), (1, .inl k1), (2, .inl (y0 + 0)), (3, .inl (x3 + 1))]) [2, 3, 1, 0] rfl (hN ((y0 + 0, x3 + 1), ah) (Option.some.inj h).symm)
def f_X6_saved_b4 (k0 : Option Nat) (k1 : Int32) (s4 : Int32 × Int32) (ah : AH) : Option ((Unit × AH) ⊕ (((Int32) × AH) ⊕ ((Int32 × Int32) × AH))) :=
  (gI ah k0 6 1).bind fun v1 => if v1 ≤ s4.2 then (some (.inr (.inl (s4.1, ah)))) else (if s4.2 = k1 then (f_X6_saved_b4_j49 k0 k1 s4.2 s4.1 ah) else ((gR ah k0 6 5).bind fun v3 => (gA ah v3 s4.2).bind fun v5 => (f_X6_has v5 k1 ah).bind fun q7 => if q7.1 = 0 then (if qO q7.2 k0 6 = true then ((f_X6_plain k0 s4.2 q7.2).bind fun q9 => if qO q9.2 k0 6 = true then ((f_X6_strengthOf k0 s4.2 k1 q9.2).bind fun q12 => if q9.1 ≤ q12.1 then (f_X6_saved_b4_j49 k0 k1 s4.2 s4.1 q12.2) else (some (.inr (.inr ((s4.1 + 1, s4.2 + 1), q12.2))))) else none) else none) else (f_X6_saved_b4_j49 k0 k1 s4.2 s4.1 q7.2)))
set_option maxRecDepth 100000 in
set_option maxHeartbeats 4000000 in
theorem k_X6_saved_b4 {l : Launch} {g : GX} (d : Nat) {Q : jQ} {k0 : Option Nat} {k1 : Int32} (s4 : Int32 × Int32) (ah : AH) (out : (Unit × AH) ⊕ (((Int32) × AH) ⊕ ((Int32 × Int32) × AH))) (h : f_X6_saved_b4 k0 k1 s4 ah = some out) (hR : ∀ q, out = .inl q → jRetN q.1 q.2) (hX : ∀ q, out = .inr (.inl q) → J l g md_X6_saved (jRm (d + 2) md_X6_saved) Q 58 [(2, .inl q.1)] [] q.2 (0, 0)) (hN : ∀ q, out = .inr (.inr q) → J l g md_X6_saved (jRm (d + 2) md_X6_saved) Q 4 [(0, .inr (.inr (.inl k0))), (1, .inl k1), (2, .inl q.1.1), (3, .inl q.1.2)] [] q.2 (0, 0)) : J l g md_X6_saved (jRm (d + 2) md_X6_saved) Q 4 [(0, .inr (.inr (.inl k0))), (1, .inl k1), (2, .inl s4.1), (3, .inl s4.2)] [] ah (0, 0) := by
  unfold f_X6_saved_b4 at h
  refine J_seg ok_X6_saved 4 2 (pc' := 6) (ls' := [(0, .inr (.inr (.inl k0))), (1, .inl k1), (2, .inl s4.1), (3, .inl s4.2)]) (st' := [.inr (.inr (.inl k0)), .inl s4.2]) rfl ?_
  obtain ⟨v1, h2, h⟩ := Option.bind_eq_some_iff.mp h
  refine J_getI (jat ok_X6_saved 6 (pc := 6) (i := .getfield 148) (n := 3) rfl rfl) fl_RX6_148 h2 ?_
  refine J_ge (jat ok_X6_saved 7 (pc := 9) (i := .if_icmp .ge 49) (n := 3) rfl rfl) (tgt := 58) (by decide) (fun c => ?_) (fun c => ?_)
  · have h := (if_pos c).symm.trans h
    exact J_sub (ls' := [(2, .inl s4.1)]) [2] rfl (hX (s4.1, ah) (Option.some.inj h).symm)
  · have h := (if_neg c).symm.trans h
    refine J_seg ok_X6_saved 8 3 (pc' := 15) (ls' := [(0, .inr (.inr (.inl k0))), (1, .inl k1), (2, .inl s4.1), (3, .inl s4.2)]) (st' := [.inl k1, .inl s4.2, .inl s4.1]) rfl ?_
    refine J_eq (jat ok_X6_saved 11 (pc := 15) (i := .if_icmp .eq 34) (n := 3) rfl rfl) (tgt := 49) (by decide) (fun c => ?_) (fun c => ?_)
    · have h := (if_pos c).symm.trans h
      refine J_sub (ls' := [(0, .inr (.inr (.inl k0))), (1, .inl k1), (3, .inl s4.2)]) [0, 1, 3] rfl ?_
      exact k_X6_saved_b4_j49 d _ _ h hR hX hN
    · have h := (if_neg c).symm.trans h
      refine J_seg ok_X6_saved 12 1 (pc' := 19) (ls' := [(0, .inr (.inr (.inl k0))), (1, .inl k1), (2, .inl s4.1), (3, .inl s4.2)]) (st' := [.inr (.inr (.inl k0)), .inl s4.1]) rfl ?_
      obtain ⟨v3, h4, h⟩ := Option.bind_eq_some_iff.mp h
      refine J_getR (jat ok_X6_saved 13 (pc := 19) (i := .getfield 22) (n := 3) rfl rfl) fl_RX6_22 h4 ?_
      refine J_seg ok_X6_saved 14 1 (pc' := 23) (ls' := [(0, .inr (.inr (.inl k0))), (1, .inl k1), (2, .inl s4.1), (3, .inl s4.2)]) (st' := [.inl s4.2, .inr (.inr (.inl v3)), .inl s4.1]) rfl ?_
      obtain ⟨v5, h6, h⟩ := Option.bind_eq_some_iff.mp h
      refine J_iald (jat ok_X6_saved 15 (pc := 23) (i := .iaload) (n := 1) rfl rfl) h6 ?_
      refine J_seg ok_X6_saved 16 1 (pc' := 25) (ls' := [(0, .inr (.inr (.inl k0))), (1, .inl k1), (2, .inl s4.1), (3, .inl s4.2)]) (st' := [.inl k1, .inl v5, .inl s4.1]) rfl ?_
      obtain ⟨q7, h8, h⟩ := Option.bind_eq_some_iff.mp h
      refine J_callS (md' := md_X6_has) (As := [.inl v5, .inl k1]) (st := [.inl s4.1]) (cs' := (0, 0)) (st' := [.inl q7.1, .inl s4.1]) (jat ok_X6_saved 17 (pc := 25) (i := .invokestatic 128) (n := 3) rfl rfl) (Or.inl ml_RX6_128) ys_X6_has (c_X6_has l g (d + 1) h8) (jRo_of (by decide)) (Nat.le_of_ble_eq_true rfl) ⟨Nat.le_of_ble_eq_true rfl, Nat.le_of_ble_eq_true rfl⟩ rfl rfl rfl ?_
      refine J_ne0 (jat ok_X6_saved 18 (pc := 28) (i := .ifCond .ne 21) (n := 3) rfl rfl) (tgt := 49) (by decide) (fun c => ?_) (fun c => ?_)
      · have h := (if_neg c).symm.trans h
        refine J_sub (ls' := [(0, .inr (.inr (.inl k0))), (1, .inl k1), (3, .inl s4.2)]) [0, 1, 3] rfl ?_
        exact k_X6_saved_b4_j49 d _ _ h hR hX hN
      · have h := (if_pos c).symm.trans h
        refine J_seg ok_X6_saved 19 2 (pc' := 33) (ls' := [(0, .inr (.inr (.inl k0))), (1, .inl k1), (2, .inl s4.1), (3, .inl s4.2)]) (st' := [.inl s4.2, .inr (.inr (.inl k0)), .inl s4.1]) rfl ?_
        by_cases c11 : qO q7.2 k0 6 = true
        case neg => exact absurd ((if_neg c11).symm.trans h) (by simp)
        have h := (if_pos c11).symm.trans h
        obtain ⟨q9, h10, h⟩ := Option.bind_eq_some_iff.mp h
        refine J_callV (md' := md_X6_plain) (As := [.inl s4.2]) (st := [.inl s4.1]) (cs' := (0, 0)) (st' := [.inl q9.1, .inl s4.1]) (jat ok_X6_saved 21 (pc := 33) (i := .invokevirtual 160) (n := 3) rfl rfl) ml_RX6_160 yv_X6_plain c11 (c_X6_plain l g (d + 1) h10) (jRo_of (by decide)) (Nat.le_of_ble_eq_true rfl) ⟨Nat.le_of_ble_eq_true rfl, Nat.le_of_ble_eq_true rfl⟩ rfl rfl rfl ?_
        refine J_seg ok_X6_saved 22 3 (pc' := 39) (ls' := [(0, .inr (.inr (.inl k0))), (1, .inl k1), (2, .inl s4.1), (3, .inl s4.2)]) (st' := [.inl k1, .inl s4.2, .inr (.inr (.inl k0)), .inl q9.1, .inl s4.1]) rfl ?_
        by_cases c14 : qO q9.2 k0 6 = true
        case neg => exact absurd ((if_neg c14).symm.trans h) (by simp)
        have h := (if_pos c14).symm.trans h
        obtain ⟨q12, h13, h⟩ := Option.bind_eq_some_iff.mp h
        refine J_callV (md' := md_X6_strengthOf) (As := [.inl s4.2, .inl k1]) (st := [.inl q9.1, .inl s4.1]) (cs' := (0, 0)) (st' := [.inl q12.1, .inl q9.1, .inl s4.1]) (jat ok_X6_saved 25 (pc := 39) (i := .invokevirtual 166) (n := 3) rfl rfl) ml_RX6_166 yv_X6_strengthOf c14 (c_X6_strengthOf l g (d + 0) h13) (jRo_of (by decide)) (Nat.le_of_ble_eq_true rfl) ⟨Nat.le_of_ble_eq_true rfl, Nat.le_of_ble_eq_true rfl⟩ rfl rfl rfl ?_
        refine J_le (jat ok_X6_saved 26 (pc := 42) (i := .if_icmp .le 7) (n := 3) rfl rfl) (tgt := 49) (by decide) (fun c => ?_) (fun c => ?_)
        · have h := (if_pos c).symm.trans h
          refine J_sub (ls' := [(0, .inr (.inr (.inl k0))), (1, .inl k1), (3, .inl s4.2)]) [0, 1, 3] rfl ?_
          exact k_X6_saved_b4_j49 d _ _ h hR hX hN
        · have h := (if_neg c).symm.trans h
          refine J_seg ok_X6_saved 27 2 (pc' := 50) (ls' := [(0, .inr (.inr (.inl k0))), (1, .inl k1), (2, .inl s4.1), (3, .inl s4.2)]) (st' := [.inl 1, .inl s4.1]) rfl ?_
          refine J_seg ok_X6_saved 30 4 (pc' := 4) (ls' := [(3, .inl (s4.2 + 1)), (2, .inl (s4.1 + 1)), (0, .inr (.inr (.inl k0))), (1, .inl k1)]) (st' := []) rfl ?_
          exact J_sub (ls' := [(0, .inr (.inr (.inl k0))), (1, .inl k1), (2, .inl (s4.1 + 1)), (3, .inl (s4.2 + 1))]) [2, 3, 1, 0] rfl (hN ((s4.1 + 1, s4.2 + 1), q12.2) (Option.some.inj h).symm)
def f_X6_saved (x0 : Option Nat) (x1 : Int32) (ah : AH) : Option (Int32 × AH) :=
  (jloop (f_X6_saved_b4 x0 x1) jfuel (0, 0) ah).bind fun q15 => match q15 with | .inl r => none | .inr z17 => some (z17.1, z17.2)
set_option maxRecDepth 100000 in
set_option maxHeartbeats 4000000 in
theorem k_X6_saved {l : Launch} {g : GX} (d : Nat) {Q : jQ} {x0 : Option Nat} {x1 : Int32} (ah : AH) (out : Int32 × AH) (h : f_X6_saved x0 x1 ah = some out) (hR : jRetI l g md_X6_saved (jRm (d + 2) md_X6_saved) Q (0, 0) out.1 out.2) : J l g md_X6_saved (jRm (d + 2) md_X6_saved) Q 0 [(0, .inr (.inr (.inl x0))), (1, .inl x1)] [] ah (0, 0) := by
  unfold f_X6_saved at h
  refine J_seg ok_X6_saved 0 4 (pc' := 4) (ls' := [(3, .inl 0), (2, .inl 0), (0, .inr (.inr (.inl x0))), (1, .inl x1)]) (st' := []) rfl ?_
  obtain ⟨q15, h16, h⟩ := Option.bind_eq_some_iff.mp h
  refine J_sub (ls' := [(0, .inr (.inr (.inl x0))), (1, .inl x1), (2, .inl 0), (3, .inl 0)]) [2, 3, 1, 0] rfl ?_
  refine J_loop (pE := 58) (lh := fun t18 => [(0, .inr (.inr (.inl x0))), (1, .inl x1), (2, .inl t18.1), (3, .inl t18.2)]) (lx := fun z17 => [(2, .inl z17)]) (P := jRetN) (fun s ah out hb hR hX hN => k_X6_saved_b4 d s ah out hb hR hX hN) jfuel (0, 0) _ _ h16 (fun r e => ?_) (fun z17 e => ?_)
  · subst e
    dsimp only at h
    cases h
  · subst e
    dsimp only at h
    refine J_seg ok_X6_saved 34 1 (pc' := 59) (ls' := [(2, .inl z17.1)]) (st' := [.inl z17.1]) rfl ?_
    have h := Option.some.inj h
    subst h
    exact hR _ _ (jat ok_X6_saved 35 (pc := 59) (i := .ireturn) (n := 1) rfl rfl)
theorem c_X6_saved (l : Launch) (g : GX) (d : Nat) {x0 : Option Nat} {x1 : Int32} {ah : AH} {q : Int32 × AH} (h : f_X6_saved x0 x1 ah = some q) : jM l g (d + 2) md_X6_saved [.inr (.inr (.inl x0)), .inl x1] ah (some (.inl q.1)) q.2 :=
  jM_of (by decide) (Nat.le_of_ble_eq_true rfl) (k_X6_saved d ah q h (fun pc ls hd => J_reti hd rfl (jPV_int _) rfl (Nat.le_refl _) rfl rfl))
def f_X6_owes (x0 : Option Nat) (x1 : Int32) (x2 : Int32) (ah : AH) : Option (Int32 × AH) :=
  if qO ah x0 6 = true then ((f_X6_victim x0 x1 ah).bind fun q1 => if q1.1 = (-9) then (some (0, q1.2)) else ((gR q1.2 x0 6 2).bind fun v4 => (gA q1.2 v4 x1).bind fun v6 => if v6 = 2 then (some (0, q1.2)) else ((gR q1.2 x0 6 5).bind fun v8 => (gA q1.2 v8 x1).bind fun v10 => (f_X6_has v10 q1.1 q1.2).bind fun q12 => if q12.1 = 0 then ((f_X6_has x2 q1.1 q12.2).bind fun q14 => if q14.1 = 0 then (some (1, q14.2)) else (some (0, q14.2))) else (some (0, q12.2))))) else none
set_option maxRecDepth 100000 in
set_option maxHeartbeats 4000000 in
theorem k_X6_owes {l : Launch} {g : GX} (d : Nat) {Q : jQ} {x0 : Option Nat} {x1 : Int32} {x2 : Int32} (ah : AH) (out : Int32 × AH) (h : f_X6_owes x0 x1 x2 ah = some out) (hR : jRetZ l g md_X6_owes (jRm (d + 1) md_X6_owes) Q (0, 0) out.1 out.2) : J l g md_X6_owes (jRm (d + 1) md_X6_owes) Q 0 [(0, .inr (.inr (.inl x0))), (1, .inl x1), (2, .inl x2)] [] ah (0, 0) := by
  unfold f_X6_owes at h
  refine J_seg ok_X6_owes 0 2 (pc' := 2) (ls' := [(0, .inr (.inr (.inl x0))), (1, .inl x1), (2, .inl x2)]) (st' := [.inl x1, .inr (.inr (.inl x0))]) rfl ?_
  by_cases c3 : qO ah x0 6 = true
  case neg => exact absurd ((if_neg c3).symm.trans h) (by simp)
  have h := (if_pos c3).symm.trans h
  obtain ⟨q1, h2, h⟩ := Option.bind_eq_some_iff.mp h
  refine J_callV (md' := md_X6_victim) (As := [.inl x1]) (st := []) (cs' := (0, 0)) (st' := [.inl q1.1]) (jat ok_X6_owes 2 (pc := 2) (i := .invokevirtual 157) (n := 3) rfl rfl) ml_RX6_157 yv_X6_victim c3 (c_X6_victim l g (d + 0) h2) (jRo_of (by decide)) (Nat.le_of_ble_eq_true rfl) ⟨Nat.le_of_ble_eq_true rfl, Nat.le_of_ble_eq_true rfl⟩ rfl rfl rfl ?_
  refine J_seg ok_X6_owes 3 3 (pc' := 9) (ls' := [(3, .inl q1.1), (0, .inr (.inr (.inl x0))), (1, .inl x1), (2, .inl x2)]) (st' := [.inl (-9), .inl q1.1]) rfl ?_
  refine J_eq (jat ok_X6_owes 6 (pc := 9) (i := .if_icmp .eq 38) (n := 3) rfl rfl) (tgt := 47) (by decide) (fun c => ?_) (fun c => ?_)
  · have h := (if_pos c).symm.trans h
    refine J_seg ok_X6_owes 26 1 (pc' := 48) (ls' := [(3, .inl q1.1), (0, .inr (.inr (.inl x0))), (1, .inl x1), (2, .inl x2)]) (st' := [.inl 0]) rfl ?_
    have h := Option.some.inj h
    subst h
    exact hR _ _ (jat ok_X6_owes 27 (pc := 48) (i := .ireturn) (n := 1) rfl rfl) (Or.inl rfl)
  · have h := (if_neg c).symm.trans h
    refine J_seg ok_X6_owes 7 1 (pc' := 13) (ls' := [(3, .inl q1.1), (0, .inr (.inr (.inl x0))), (1, .inl x1), (2, .inl x2)]) (st' := [.inr (.inr (.inl x0))]) rfl ?_
    obtain ⟨v4, h5, h⟩ := Option.bind_eq_some_iff.mp h
    refine J_getR (jat ok_X6_owes 8 (pc := 13) (i := .getfield 13) (n := 3) rfl rfl) fl_RX6_13 h5 ?_
    refine J_seg ok_X6_owes 9 1 (pc' := 17) (ls' := [(3, .inl q1.1), (0, .inr (.inr (.inl x0))), (1, .inl x1), (2, .inl x2)]) (st' := [.inl x1, .inr (.inr (.inl v4))]) rfl ?_
    obtain ⟨v6, h7, h⟩ := Option.bind_eq_some_iff.mp h
    refine J_iald (jat ok_X6_owes 10 (pc := 17) (i := .iaload) (n := 1) rfl rfl) h7 ?_
    refine J_seg ok_X6_owes 11 1 (pc' := 19) (ls' := [(3, .inl q1.1), (0, .inr (.inr (.inl x0))), (1, .inl x1), (2, .inl x2)]) (st' := [.inl 2, .inl v6]) rfl ?_
    refine J_eq (jat ok_X6_owes 12 (pc := 19) (i := .if_icmp .eq 28) (n := 3) rfl rfl) (tgt := 47) (by decide) (fun c => ?_) (fun c => ?_)
    · have h := (if_pos c).symm.trans h
      refine J_seg ok_X6_owes 26 1 (pc' := 48) (ls' := [(3, .inl q1.1), (0, .inr (.inr (.inl x0))), (1, .inl x1), (2, .inl x2)]) (st' := [.inl 0]) rfl ?_
      have h := Option.some.inj h
      subst h
      exact hR _ _ (jat ok_X6_owes 27 (pc := 48) (i := .ireturn) (n := 1) rfl rfl) (Or.inl rfl)
    · have h := (if_neg c).symm.trans h
      refine J_seg ok_X6_owes 13 1 (pc' := 23) (ls' := [(3, .inl q1.1), (0, .inr (.inr (.inl x0))), (1, .inl x1), (2, .inl x2)]) (st' := [.inr (.inr (.inl x0))]) rfl ?_
      obtain ⟨v8, h9, h⟩ := Option.bind_eq_some_iff.mp h
      refine J_getR (jat ok_X6_owes 14 (pc := 23) (i := .getfield 22) (n := 3) rfl rfl) fl_RX6_22 h9 ?_
      refine J_seg ok_X6_owes 15 1 (pc' := 27) (ls' := [(3, .inl q1.1), (0, .inr (.inr (.inl x0))), (1, .inl x1), (2, .inl x2)]) (st' := [.inl x1, .inr (.inr (.inl v8))]) rfl ?_
      obtain ⟨v10, h11, h⟩ := Option.bind_eq_some_iff.mp h
      refine J_iald (jat ok_X6_owes 16 (pc := 27) (i := .iaload) (n := 1) rfl rfl) h11 ?_
      refine J_seg ok_X6_owes 17 1 (pc' := 29) (ls' := [(3, .inl q1.1), (0, .inr (.inr (.inl x0))), (1, .inl x1), (2, .inl x2)]) (st' := [.inl q1.1, .inl v10]) rfl ?_
      obtain ⟨q12, h13, h⟩ := Option.bind_eq_some_iff.mp h
      refine J_callS (md' := md_X6_has) (As := [.inl v10, .inl q1.1]) (st := []) (cs' := (0, 0)) (st' := [.inl q12.1]) (jat ok_X6_owes 18 (pc := 29) (i := .invokestatic 128) (n := 3) rfl rfl) (Or.inl ml_RX6_128) ys_X6_has (c_X6_has l g (d + 0) h13) (jRo_of (by decide)) (Nat.le_of_ble_eq_true rfl) ⟨Nat.le_of_ble_eq_true rfl, Nat.le_of_ble_eq_true rfl⟩ rfl rfl rfl ?_
      refine J_ne0 (jat ok_X6_owes 19 (pc := 32) (i := .ifCond .ne 15) (n := 3) rfl rfl) (tgt := 47) (by decide) (fun c => ?_) (fun c => ?_)
      · have h := (if_neg c).symm.trans h
        refine J_seg ok_X6_owes 26 1 (pc' := 48) (ls' := [(3, .inl q1.1), (0, .inr (.inr (.inl x0))), (1, .inl x1), (2, .inl x2)]) (st' := [.inl 0]) rfl ?_
        have h := Option.some.inj h
        subst h
        exact hR _ _ (jat ok_X6_owes 27 (pc := 48) (i := .ireturn) (n := 1) rfl rfl) (Or.inl rfl)
      · have h := (if_pos c).symm.trans h
        refine J_seg ok_X6_owes 20 2 (pc' := 37) (ls' := [(3, .inl q1.1), (0, .inr (.inr (.inl x0))), (1, .inl x1), (2, .inl x2)]) (st' := [.inl q1.1, .inl x2]) rfl ?_
        obtain ⟨q14, h15, h⟩ := Option.bind_eq_some_iff.mp h
        refine J_callS (md' := md_X6_has) (As := [.inl x2, .inl q1.1]) (st := []) (cs' := (0, 0)) (st' := [.inl q14.1]) (jat ok_X6_owes 22 (pc := 37) (i := .invokestatic 128) (n := 3) rfl rfl) (Or.inl ml_RX6_128) ys_X6_has (c_X6_has l g (d + 0) h15) (jRo_of (by decide)) (Nat.le_of_ble_eq_true rfl) ⟨Nat.le_of_ble_eq_true rfl, Nat.le_of_ble_eq_true rfl⟩ rfl rfl rfl ?_
        refine J_ne0 (jat ok_X6_owes 23 (pc := 40) (i := .ifCond .ne 7) (n := 3) rfl rfl) (tgt := 47) (by decide) (fun c => ?_) (fun c => ?_)
        · have h := (if_neg c).symm.trans h
          refine J_seg ok_X6_owes 26 1 (pc' := 48) (ls' := [(3, .inl q1.1), (0, .inr (.inr (.inl x0))), (1, .inl x1), (2, .inl x2)]) (st' := [.inl 0]) rfl ?_
          have h := Option.some.inj h
          subst h
          exact hR _ _ (jat ok_X6_owes 27 (pc := 48) (i := .ireturn) (n := 1) rfl rfl) (Or.inl rfl)
        · have h := (if_pos c).symm.trans h
          refine J_seg ok_X6_owes 24 2 (pc' := 48) (ls' := [(3, .inl q1.1), (0, .inr (.inr (.inl x0))), (1, .inl x1), (2, .inl x2)]) (st' := [.inl 1]) rfl ?_
          have h := Option.some.inj h
          subst h
          exact hR _ _ (jat ok_X6_owes 27 (pc := 48) (i := .ireturn) (n := 1) rfl rfl) (Or.inr rfl)
theorem c_X6_owes (l : Launch) (g : GX) (d : Nat) {x0 : Option Nat} {x1 : Int32} {x2 : Int32} {ah : AH} {q : Int32 × AH} (h : f_X6_owes x0 x1 x2 ah = some q) : jM l g (d + 1) md_X6_owes [.inr (.inr (.inl x0)), .inl x1, .inl x2] ah (some (.inl q.1)) q.2 :=
  jM_of (by decide) (Nat.le_of_ble_eq_true rfl) (k_X6_owes d ah q h (fun pc ls hd c => J_reti hd rfl (jPV_z c) rfl (Nat.le_refl _) rfl rfl))
def f_X6_weeksForNine_j24 (y0 : Int32) (ah : AH) : Option (Int32 × AH) :=
  if y0 = 0 then (some ((-9), ah)) else (if y0 = 0 then none else (some ((8 + y0) / y0, ah)))
set_option maxRecDepth 100000 in
set_option maxHeartbeats 4000000 in
theorem k_X6_weeksForNine_j24 {l : Launch} {g : GX} (d : Nat) {Q : jQ} {y0 : Int32} (ah : AH) (out : Int32 × AH) (h : f_X6_weeksForNine_j24 y0 ah = some out) (hR : jRetI l g md_X6_weeksForNine (jRm (d + 2) md_X6_weeksForNine) Q (0, 0) out.1 out.2) : J l g md_X6_weeksForNine (jRm (d + 2) md_X6_weeksForNine) Q 24 [] [.inl y0] ah (0, 0) := by
  unfold f_X6_weeksForNine_j24 at h
  refine J_seg ok_X6_weeksForNine 13 2 (pc' := 26) (ls' := [(2, .inl y0)]) (st' := [.inl y0]) rfl ?_
  refine J_ne0 (jat ok_X6_weeksForNine 15 (pc := 26) (i := .ifCond .ne 8) (n := 3) rfl rfl) (tgt := 34) (by decide) (fun c => ?_) (fun c => ?_)
  · have h := (if_neg c).symm.trans h
    refine J_seg ok_X6_weeksForNine 18 4 (pc' := 39) (ls' := [(2, .inl y0)]) (st' := [.inl y0, .inl (8 + y0)]) rfl ?_
    by_cases e10 : y0 = 0
    · exact absurd ((if_pos e10).symm.trans h) (by simp)
    have h := (if_neg e10).symm.trans h
    refine J_idiv (jat ok_X6_weeksForNine 22 (pc := 39) (i := .idiv) (n := 1) rfl rfl) e10 ?_
    have h := Option.some.inj h
    subst h
    exact hR _ _ (jat ok_X6_weeksForNine 23 (pc := 40) (i := .ireturn) (n := 1) rfl rfl)
  · have h := (if_pos c).symm.trans h
    refine J_seg ok_X6_weeksForNine 16 2 (pc' := 40) (ls' := [(2, .inl y0)]) (st' := [.inl (-9)]) rfl ?_
    have h := Option.some.inj h
    subst h
    exact hR _ _ (jat ok_X6_weeksForNine 23 (pc := 40) (i := .ireturn) (n := 1) rfl rfl)
def f_X6_weeksForNine (x0 : Option Nat) (x1 : Int32) (ah : AH) : Option (Int32 × AH) :=
  if qO ah x0 6 = true then ((f_X6_victim x0 x1 ah).bind fun q1 => if q1.1 = (-9) then (f_X6_weeksForNine_j24 0 q1.2) else (if qO q1.2 x0 6 = true then ((f_X6_victim x0 x1 q1.2).bind fun q4 => if qO q4.2 x0 6 = true then ((f_X6_strengthOf x0 x1 q4.1 q4.2).bind fun q7 => f_X6_weeksForNine_j24 q7.1 q7.2) else none) else none)) else none
set_option maxRecDepth 100000 in
set_option maxHeartbeats 4000000 in
theorem k_X6_weeksForNine {l : Launch} {g : GX} (d : Nat) {Q : jQ} {x0 : Option Nat} {x1 : Int32} (ah : AH) (out : Int32 × AH) (h : f_X6_weeksForNine x0 x1 ah = some out) (hR : jRetI l g md_X6_weeksForNine (jRm (d + 2) md_X6_weeksForNine) Q (0, 0) out.1 out.2) : J l g md_X6_weeksForNine (jRm (d + 2) md_X6_weeksForNine) Q 0 [(0, .inr (.inr (.inl x0))), (1, .inl x1)] [] ah (0, 0) := by
  unfold f_X6_weeksForNine at h
  refine J_seg ok_X6_weeksForNine 0 2 (pc' := 2) (ls' := [(0, .inr (.inr (.inl x0))), (1, .inl x1)]) (st' := [.inl x1, .inr (.inr (.inl x0))]) rfl ?_
  by_cases c3 : qO ah x0 6 = true
  case neg => exact absurd ((if_neg c3).symm.trans h) (by simp)
  have h := (if_pos c3).symm.trans h
  obtain ⟨q1, h2, h⟩ := Option.bind_eq_some_iff.mp h
  refine J_callV (md' := md_X6_victim) (As := [.inl x1]) (st := []) (cs' := (0, 0)) (st' := [.inl q1.1]) (jat ok_X6_weeksForNine 2 (pc := 2) (i := .invokevirtual 157) (n := 3) rfl rfl) ml_RX6_157 yv_X6_victim c3 (c_X6_victim l g (d + 1) h2) (jRo_of (by decide)) (Nat.le_of_ble_eq_true rfl) ⟨Nat.le_of_ble_eq_true rfl, Nat.le_of_ble_eq_true rfl⟩ rfl rfl rfl ?_
  refine J_seg ok_X6_weeksForNine 3 1 (pc' := 7) (ls' := [(0, .inr (.inr (.inl x0))), (1, .inl x1)]) (st' := [.inl (-9), .inl q1.1]) rfl ?_
  refine J_ne (jat ok_X6_weeksForNine 4 (pc := 7) (i := .if_icmp .ne 7) (n := 3) rfl rfl) (tgt := 14) (by decide) (fun c => ?_) (fun c => ?_)
  · have h := (if_neg c).symm.trans h
    refine J_seg ok_X6_weeksForNine 7 4 (pc' := 18) (ls' := [(0, .inr (.inr (.inl x0))), (1, .inl x1)]) (st' := [.inl x1, .inr (.inr (.inl x0)), .inl x1, .inr (.inr (.inl x0))]) rfl ?_
    by_cases c6 : qO q1.2 x0 6 = true
    case neg => exact absurd ((if_neg c6).symm.trans h) (by simp)
    have h := (if_pos c6).symm.trans h
    obtain ⟨q4, h5, h⟩ := Option.bind_eq_some_iff.mp h
    refine J_callV (md' := md_X6_victim) (As := [.inl x1]) (st := [.inl x1, .inr (.inr (.inl x0))]) (cs' := (0, 0)) (st' := [.inl q4.1, .inl x1, .inr (.inr (.inl x0))]) (jat ok_X6_weeksForNine 11 (pc := 18) (i := .invokevirtual 157) (n := 3) rfl rfl) ml_RX6_157 yv_X6_victim c6 (c_X6_victim l g (d + 1) h5) (jRo_of (by decide)) (Nat.le_of_ble_eq_true rfl) ⟨Nat.le_of_ble_eq_true rfl, Nat.le_of_ble_eq_true rfl⟩ rfl rfl rfl ?_
    by_cases c9 : qO q4.2 x0 6 = true
    case neg => exact absurd ((if_neg c9).symm.trans h) (by simp)
    have h := (if_pos c9).symm.trans h
    obtain ⟨q7, h8, h⟩ := Option.bind_eq_some_iff.mp h
    refine J_callV (md' := md_X6_strengthOf) (As := [.inl x1, .inl q4.1]) (st := []) (cs' := (0, 0)) (st' := [.inl q7.1]) (jat ok_X6_weeksForNine 12 (pc := 21) (i := .invokevirtual 166) (n := 3) rfl rfl) ml_RX6_166 yv_X6_strengthOf c9 (c_X6_strengthOf l g (d + 0) h8) (jRo_of (by decide)) (Nat.le_of_ble_eq_true rfl) ⟨Nat.le_of_ble_eq_true rfl, Nat.le_of_ble_eq_true rfl⟩ rfl rfl rfl ?_
    refine J_sub (ls' := []) [] rfl ?_
    exact k_X6_weeksForNine_j24 d _ _ h hR
  · have h := (if_pos c).symm.trans h
    refine J_seg ok_X6_weeksForNine 5 2 (pc' := 24) (ls' := [(0, .inr (.inr (.inl x0))), (1, .inl x1)]) (st' := [.inl 0]) rfl ?_
    refine J_sub (ls' := []) [] rfl ?_
    exact k_X6_weeksForNine_j24 d _ _ h hR
theorem c_X6_weeksForNine (l : Launch) (g : GX) (d : Nat) {x0 : Option Nat} {x1 : Int32} {ah : AH} {q : Int32 × AH} (h : f_X6_weeksForNine x0 x1 ah = some q) : jM l g (d + 2) md_X6_weeksForNine [.inr (.inr (.inl x0)), .inl x1] ah (some (.inl q.1)) q.2 :=
  jM_of (by decide) (Nat.le_of_ble_eq_true rfl) (k_X6_weeksForNine d ah q h (fun pc ls hd => J_reti hd rfl (jPV_int _) rfl (Nat.le_refl _) rfl rfl))
def f_X6_mark (x0 : Option Nat) (x1 : Int32) (x2 : Int32) (ah : AH) : Option (Int32 × AH) :=
  if qO ah x0 6 = true then ((f_X6_isPerson x0 x1 ah).bind fun q1 => if q1.1 = 0 then (some ((-1), q1.2)) else ((f_X6_in (Int32.toInt64 x2) 1 5 q1.2).bind fun q4 => if q4.1 = 0 then (some ((-1), q4.2)) else (if qO q4.2 x0 6 = true then ((f_X6_isOf x0 x1 x2 q4.2).bind fun q6 => if q6.1 = 0 then (if qO q6.2 x0 6 = true then ((f_X6_find x0 3 q6.2).bind fun q31 => some (q31.1, q31.2)) else none) else (if x2 = 1 then (if qO q6.2 x0 6 = true then ((f_X6_plain x0 x1 q6.2).bind fun q9 => some (q9.1, q9.2)) else none) else (if x2 = 2 then (if qO q6.2 x0 6 = true then ((f_X6_saved x0 x1 q6.2).bind fun q12 => some (q12.1, q12.2)) else none) else (if x2 = 3 then ((gR q6.2 x0 6 5).bind fun v15 => (gA q6.2 v15 x1).bind fun v17 => (f_X6_bits v17 q6.2).bind fun q19 => some (q19.1, q19.2)) else (if x2 = 4 then (if qO q6.2 x0 6 = true then ((f_X6_weeksForNine x0 x1 q6.2).bind fun q21 => some (q21.1, q21.2)) else none) else ((gR q6.2 x0 6 0).bind fun v24 => (gA q6.2 v24 19).bind fun v26 => if qO q6.2 x0 6 = true then ((f_X6_owes x0 x1 v26 q6.2).bind fun q28 => if q28.1 = 0 then (some (0, q28.2)) else (some (1, q28.2))) else none)))))) else none))) else none
set_option maxRecDepth 100000 in
set_option maxHeartbeats 4000000 in
theorem k_X6_mark {l : Launch} {g : GX} (d : Nat) {Q : jQ} {x0 : Option Nat} {x1 : Int32} {x2 : Int32} (ah : AH) (out : Int32 × AH) (h : f_X6_mark x0 x1 x2 ah = some out) (hR : jRetI l g md_X6_mark (jRm (d + 3) md_X6_mark) Q (0, 0) out.1 out.2) : J l g md_X6_mark (jRm (d + 3) md_X6_mark) Q 0 [(0, .inr (.inr (.inl x0))), (1, .inl x1), (2, .inl x2)] [] ah (0, 0) := by
  unfold f_X6_mark at h
  refine J_seg ok_X6_mark 0 2 (pc' := 2) (ls' := [(0, .inr (.inr (.inl x0))), (1, .inl x1), (2, .inl x2)]) (st' := [.inl x1, .inr (.inr (.inl x0))]) rfl ?_
  by_cases c3 : qO ah x0 6 = true
  case neg => exact absurd ((if_neg c3).symm.trans h) (by simp)
  have h := (if_pos c3).symm.trans h
  obtain ⟨q1, h2, h⟩ := Option.bind_eq_some_iff.mp h
  refine J_callV (md' := md_X6_isPerson) (As := [.inl x1]) (st := []) (cs' := (0, 0)) (st' := [.inl q1.1]) (jat ok_X6_mark 2 (pc := 2) (i := .invokevirtual 154) (n := 3) rfl rfl) ml_RX6_154 yv_X6_isPerson c3 (c_X6_isPerson l g (d + 1) h2) (jRo_of (by decide)) (Nat.le_of_ble_eq_true rfl) ⟨Nat.le_of_ble_eq_true rfl, Nat.le_of_ble_eq_true rfl⟩ rfl rfl rfl ?_
  refine J_eq0 (jat ok_X6_mark 3 (pc := 5) (i := .ifCond .eq 15) (n := 3) rfl rfl) (tgt := 20) (by decide) (fun c => ?_) (fun c => ?_)
  · have h := (if_pos c).symm.trans h
    refine J_seg ok_X6_mark 10 1 (pc' := 21) (ls' := [(0, .inr (.inr (.inl x0))), (1, .inl x1), (2, .inl x2)]) (st' := [.inl (-1)]) rfl ?_
    have h := Option.some.inj h
    subst h
    exact hR _ _ (jat ok_X6_mark 11 (pc := 21) (i := .ireturn) (n := 1) rfl rfl)
  · have h := (if_neg c).symm.trans h
    refine J_seg ok_X6_mark 4 3 (pc' := 11) (ls' := [(0, .inr (.inr (.inl x0))), (1, .inl x1), (2, .inl x2)]) (st' := [.inr (.inl 1), .inr (.inl (Int32.toInt64 x2))]) rfl ?_
    refine J_ldc2 (jat ok_X6_mark 7 (pc := 11) (i := .ldc2_w 69) (n := 3) rfl rfl) lc_RX6_69 ?_
    obtain ⟨q4, h5, h⟩ := Option.bind_eq_some_iff.mp h
    refine J_callS (md' := md_X6_in) (As := [.inr (.inl (Int32.toInt64 x2)), .inr (.inl 1), .inr (.inl 5)]) (st := []) (cs' := (0, 0)) (st' := [.inl q4.1]) (jat ok_X6_mark 8 (pc := 14) (i := .invokestatic 71) (n := 3) rfl rfl) (Or.inl ml_RX6_71) ys_X6_in (c_X6_in l g (d + 2) h5) (jRo_of (by decide)) (Nat.le_of_ble_eq_true rfl) ⟨Nat.le_of_ble_eq_true rfl, Nat.le_of_ble_eq_true rfl⟩ rfl rfl rfl ?_
    refine J_ne0 (jat ok_X6_mark 9 (pc := 17) (i := .ifCond .ne 5) (n := 3) rfl rfl) (tgt := 22) (by decide) (fun c => ?_) (fun c => ?_)
    · have h := (if_neg c).symm.trans h
      refine J_seg ok_X6_mark 12 3 (pc' := 25) (ls' := [(0, .inr (.inr (.inl x0))), (1, .inl x1), (2, .inl x2)]) (st' := [.inl x2, .inl x1, .inr (.inr (.inl x0))]) rfl ?_
      by_cases c8 : qO q4.2 x0 6 = true
      case neg => exact absurd ((if_neg c8).symm.trans h) (by simp)
      have h := (if_pos c8).symm.trans h
      obtain ⟨q6, h7, h⟩ := Option.bind_eq_some_iff.mp h
      refine J_callV (md' := md_X6_isOf) (As := [.inl x1, .inl x2]) (st := []) (cs' := (0, 0)) (st' := [.inl q6.1]) (jat ok_X6_mark 15 (pc := 25) (i := .invokevirtual 177) (n := 3) rfl rfl) ml_RX6_177 yv_X6_isOf c8 (c_X6_isOf l g (d + 2) h7) (jRo_of (by decide)) (Nat.le_of_ble_eq_true rfl) ⟨Nat.le_of_ble_eq_true rfl, Nat.le_of_ble_eq_true rfl⟩ rfl rfl rfl ?_
      refine J_ne0 (jat ok_X6_mark 16 (pc := 28) (i := .ifCond .ne 9) (n := 3) rfl rfl) (tgt := 37) (by decide) (fun c => ?_) (fun c => ?_)
      · have h := (if_neg c).symm.trans h
        refine J_seg ok_X6_mark 21 1 (pc' := 38) (ls' := [(0, .inr (.inr (.inl x0))), (1, .inl x1), (2, .inl x2)]) (st' := [.inl x2]) rfl ?_
        by_cases c0 : x2 = 1
        · have h := (if_pos c0).symm.trans h
          refine J_tabIn sw_X6_mark_38 (off := 30) (tgt := 68) (by rw [c0]; decide) (by rw [c0]; decide) (by rw [c0]; decide) (by decide) ?_
          refine J_seg ok_X6_mark 22 2 (pc' := 70) (ls' := [(0, .inr (.inr (.inl x0))), (1, .inl x1), (2, .inl x2)]) (st' := [.inl x1, .inr (.inr (.inl x0))]) rfl ?_
          by_cases c11 : qO q6.2 x0 6 = true
          case neg => exact absurd ((if_neg c11).symm.trans h) (by simp)
          have h := (if_pos c11).symm.trans h
          obtain ⟨q9, h10, h⟩ := Option.bind_eq_some_iff.mp h
          refine J_callV (md' := md_X6_plain) (As := [.inl x1]) (st := []) (cs' := (0, 0)) (st' := [.inl q9.1]) (jat ok_X6_mark 24 (pc := 70) (i := .invokevirtual 160) (n := 3) rfl rfl) ml_RX6_160 yv_X6_plain c11 (c_X6_plain l g (d + 2) h10) (jRo_of (by decide)) (Nat.le_of_ble_eq_true rfl) ⟨Nat.le_of_ble_eq_true rfl, Nat.le_of_ble_eq_true rfl⟩ rfl rfl rfl ?_
          have h := Option.some.inj h
          subst h
          exact hR _ _ (jat ok_X6_mark 25 (pc := 73) (i := .ireturn) (n := 1) rfl rfl)
        · have h := (if_neg c0).symm.trans h
          by_cases c1 : x2 = 2
          · have h := (if_pos c1).symm.trans h
            refine J_tabIn sw_X6_mark_38 (off := 36) (tgt := 74) (by rw [c1]; decide) (by rw [c1]; decide) (by rw [c1]; decide) (by decide) ?_
            refine J_seg ok_X6_mark 26 2 (pc' := 76) (ls' := [(0, .inr (.inr (.inl x0))), (1, .inl x1), (2, .inl x2)]) (st' := [.inl x1, .inr (.inr (.inl x0))]) rfl ?_
            by_cases c14 : qO q6.2 x0 6 = true
            case neg => exact absurd ((if_neg c14).symm.trans h) (by simp)
            have h := (if_pos c14).symm.trans h
            obtain ⟨q12, h13, h⟩ := Option.bind_eq_some_iff.mp h
            refine J_callV (md' := md_X6_saved) (As := [.inl x1]) (st := []) (cs' := (0, 0)) (st' := [.inl q12.1]) (jat ok_X6_mark 28 (pc := 76) (i := .invokevirtual 180) (n := 3) rfl rfl) ml_RX6_180 yv_X6_saved c14 (c_X6_saved l g (d + 0) h13) (jRo_of (by decide)) (Nat.le_of_ble_eq_true rfl) ⟨Nat.le_of_ble_eq_true rfl, Nat.le_of_ble_eq_true rfl⟩ rfl rfl rfl ?_
            have h := Option.some.inj h
            subst h
            exact hR _ _ (jat ok_X6_mark 29 (pc := 79) (i := .ireturn) (n := 1) rfl rfl)
          · have h := (if_neg c1).symm.trans h
            by_cases c2 : x2 = 3
            · have h := (if_pos c2).symm.trans h
              refine J_tabIn sw_X6_mark_38 (off := 42) (tgt := 80) (by rw [c2]; decide) (by rw [c2]; decide) (by rw [c2]; decide) (by decide) ?_
              refine J_seg ok_X6_mark 30 1 (pc' := 81) (ls' := [(0, .inr (.inr (.inl x0))), (1, .inl x1), (2, .inl x2)]) (st' := [.inr (.inr (.inl x0))]) rfl ?_
              obtain ⟨v15, h16, h⟩ := Option.bind_eq_some_iff.mp h
              refine J_getR (jat ok_X6_mark 31 (pc := 81) (i := .getfield 22) (n := 3) rfl rfl) fl_RX6_22 h16 ?_
              refine J_seg ok_X6_mark 32 1 (pc' := 85) (ls' := [(0, .inr (.inr (.inl x0))), (1, .inl x1), (2, .inl x2)]) (st' := [.inl x1, .inr (.inr (.inl v15))]) rfl ?_
              obtain ⟨v17, h18, h⟩ := Option.bind_eq_some_iff.mp h
              refine J_iald (jat ok_X6_mark 33 (pc := 85) (i := .iaload) (n := 1) rfl rfl) h18 ?_
              obtain ⟨q19, h20, h⟩ := Option.bind_eq_some_iff.mp h
              refine J_callS (md' := md_X6_bits) (As := [.inl v17]) (st := []) (cs' := (0, 0)) (st' := [.inl q19.1]) (jat ok_X6_mark 34 (pc := 86) (i := .invokestatic 183) (n := 3) rfl rfl) (Or.inl ml_RX6_183) ys_X6_bits (c_X6_bits l g (d + 2) h20) (jRo_of (by decide)) (Nat.le_of_ble_eq_true rfl) ⟨Nat.le_of_ble_eq_true rfl, Nat.le_of_ble_eq_true rfl⟩ rfl rfl rfl ?_
              have h := Option.some.inj h
              subst h
              exact hR _ _ (jat ok_X6_mark 35 (pc := 89) (i := .ireturn) (n := 1) rfl rfl)
            · have h := (if_neg c2).symm.trans h
              by_cases c3 : x2 = 4
              · have h := (if_pos c3).symm.trans h
                refine J_tabIn sw_X6_mark_38 (off := 52) (tgt := 90) (by rw [c3]; decide) (by rw [c3]; decide) (by rw [c3]; decide) (by decide) ?_
                refine J_seg ok_X6_mark 36 2 (pc' := 92) (ls' := [(0, .inr (.inr (.inl x0))), (1, .inl x1), (2, .inl x2)]) (st' := [.inl x1, .inr (.inr (.inl x0))]) rfl ?_
                by_cases c23 : qO q6.2 x0 6 = true
                case neg => exact absurd ((if_neg c23).symm.trans h) (by simp)
                have h := (if_pos c23).symm.trans h
                obtain ⟨q21, h22, h⟩ := Option.bind_eq_some_iff.mp h
                refine J_callV (md' := md_X6_weeksForNine) (As := [.inl x1]) (st := []) (cs' := (0, 0)) (st' := [.inl q21.1]) (jat ok_X6_mark 38 (pc := 92) (i := .invokevirtual 186) (n := 3) rfl rfl) ml_RX6_186 yv_X6_weeksForNine c23 (c_X6_weeksForNine l g (d + 0) h22) (jRo_of (by decide)) (Nat.le_of_ble_eq_true rfl) ⟨Nat.le_of_ble_eq_true rfl, Nat.le_of_ble_eq_true rfl⟩ rfl rfl rfl ?_
                have h := Option.some.inj h
                subst h
                exact hR _ _ (jat ok_X6_mark 39 (pc := 95) (i := .ireturn) (n := 1) rfl rfl)
              · have h := (if_neg c3).symm.trans h
                have c0 := jtoInt_ne (n := 1) (by decide) c0
                have c1 := jtoInt_ne (n := 2) (by decide) c1
                have c2 := jtoInt_ne (n := 3) (by decide) c2
                have c3 := jtoInt_ne (n := 4) (by decide) c3
                refine J_tabOut sw_X6_mark_38 (tgt := 96) (by omega) (by decide) ?_
                refine J_seg ok_X6_mark 40 3 (pc' := 99) (ls' := [(0, .inr (.inr (.inl x0))), (1, .inl x1), (2, .inl x2)]) (st' := [.inr (.inr (.inl x0)), .inl x1, .inr (.inr (.inl x0))]) rfl ?_
                obtain ⟨v24, h25, h⟩ := Option.bind_eq_some_iff.mp h
                refine J_getR (jat ok_X6_mark 43 (pc := 99) (i := .getfield 7) (n := 3) rfl rfl) fl_RX6_7 h25 ?_
                refine J_seg ok_X6_mark 44 1 (pc' := 104) (ls' := [(0, .inr (.inr (.inl x0))), (1, .inl x1), (2, .inl x2)]) (st' := [.inl 19, .inr (.inr (.inl v24)), .inl x1, .inr (.inr (.inl x0))]) rfl ?_
                obtain ⟨v26, h27, h⟩ := Option.bind_eq_some_iff.mp h
                refine J_iald (jat ok_X6_mark 45 (pc := 104) (i := .iaload) (n := 1) rfl rfl) h27 ?_
                by_cases c30 : qO q6.2 x0 6 = true
                case neg => exact absurd ((if_neg c30).symm.trans h) (by simp)
                have h := (if_pos c30).symm.trans h
                obtain ⟨q28, h29, h⟩ := Option.bind_eq_some_iff.mp h
                refine J_callV (md' := md_X6_owes) (As := [.inl x1, .inl v26]) (st := []) (cs' := (0, 0)) (st' := [.inl q28.1]) (jat ok_X6_mark 46 (pc := 105) (i := .invokevirtual 189) (n := 3) rfl rfl) ml_RX6_189 yv_X6_owes c30 (c_X6_owes l g (d + 1) h29) (jRo_of (by decide)) (Nat.le_of_ble_eq_true rfl) ⟨Nat.le_of_ble_eq_true rfl, Nat.le_of_ble_eq_true rfl⟩ rfl rfl rfl ?_
                refine J_eq0 (jat ok_X6_mark 47 (pc := 108) (i := .ifCond .eq 7) (n := 3) rfl rfl) (tgt := 115) (by decide) (fun c => ?_) (fun c => ?_)
                · have h := (if_pos c).symm.trans h
                  refine J_seg ok_X6_mark 50 1 (pc' := 116) (ls' := [(0, .inr (.inr (.inl x0))), (1, .inl x1), (2, .inl x2)]) (st' := [.inl 0]) rfl ?_
                  have h := Option.some.inj h
                  subst h
                  exact hR _ _ (jat ok_X6_mark 51 (pc := 116) (i := .ireturn) (n := 1) rfl rfl)
                · have h := (if_neg c).symm.trans h
                  refine J_seg ok_X6_mark 48 2 (pc' := 116) (ls' := [(0, .inr (.inr (.inl x0))), (1, .inl x1), (2, .inl x2)]) (st' := [.inl 1]) rfl ?_
                  have h := Option.some.inj h
                  subst h
                  exact hR _ _ (jat ok_X6_mark 51 (pc := 116) (i := .ireturn) (n := 1) rfl rfl)
      · have h := (if_pos c).symm.trans h
        refine J_seg ok_X6_mark 17 2 (pc' := 33) (ls' := [(0, .inr (.inr (.inl x0))), (1, .inl x1), (2, .inl x2)]) (st' := [.inl 3, .inr (.inr (.inl x0))]) rfl ?_
        by_cases c33 : qO q6.2 x0 6 = true
        case neg => exact absurd ((if_neg c33).symm.trans h) (by simp)
        have h := (if_pos c33).symm.trans h
        obtain ⟨q31, h32, h⟩ := Option.bind_eq_some_iff.mp h
        refine J_callV (md' := md_X6_find) (As := [.inl 3]) (st := []) (cs' := (0, 0)) (st' := [.inl q31.1]) (jat ok_X6_mark 19 (pc := 33) (i := .invokevirtual 81) (n := 3) rfl rfl) ml_RX6_81 yv_X6_find c33 (c_X6_find l g (d + 2) h32) (jRo_of (by decide)) (Nat.le_of_ble_eq_true rfl) ⟨Nat.le_of_ble_eq_true rfl, Nat.le_of_ble_eq_true rfl⟩ rfl rfl rfl ?_
        have h := Option.some.inj h
        subst h
        exact hR _ _ (jat ok_X6_mark 20 (pc := 36) (i := .ireturn) (n := 1) rfl rfl)
    · have h := (if_pos c).symm.trans h
      refine J_seg ok_X6_mark 10 1 (pc' := 21) (ls' := [(0, .inr (.inr (.inl x0))), (1, .inl x1), (2, .inl x2)]) (st' := [.inl (-1)]) rfl ?_
      have h := Option.some.inj h
      subst h
      exact hR _ _ (jat ok_X6_mark 11 (pc := 21) (i := .ireturn) (n := 1) rfl rfl)
theorem c_X6_mark (l : Launch) (g : GX) (d : Nat) {x0 : Option Nat} {x1 : Int32} {x2 : Int32} {ah : AH} {q : Int32 × AH} (h : f_X6_mark x0 x1 x2 ah = some q) : jM l g (d + 3) md_X6_mark [.inr (.inr (.inl x0)), .inl x1, .inl x2] ah (some (.inl q.1)) q.2 :=
  jM_of (by decide) (Nat.le_of_ble_eq_true rfl) (k_X6_mark d ah q h (fun pc ls hd => J_reti hd rfl (jPV_int _) rfl (Nat.le_refl _) rfl rfl))
def f_X6_strength (x0 : Option Nat) (x1 : Int32) (x2 : Int32) (ah : AH) : Option (Int32 × AH) :=
  if qO ah x0 6 = true then ((f_X6_areTwo x0 x1 x2 ah).bind fun q1 => if q1.1 = 0 then (some ((-1), q1.2)) else (if qO q1.2 x0 6 = true then ((f_X6_strengthOf x0 x1 x2 q1.2).bind fun q4 => some (q4.1, q4.2)) else none)) else none
set_option maxRecDepth 100000 in
set_option maxHeartbeats 4000000 in
theorem k_X6_strength {l : Launch} {g : GX} (d : Nat) {Q : jQ} {x0 : Option Nat} {x1 : Int32} {x2 : Int32} (ah : AH) (out : Int32 × AH) (h : f_X6_strength x0 x1 x2 ah = some out) (hR : jRetI l g md_X6_strength (jRm (d + 3) md_X6_strength) Q (0, 0) out.1 out.2) : J l g md_X6_strength (jRm (d + 3) md_X6_strength) Q 0 [(0, .inr (.inr (.inl x0))), (1, .inl x1), (2, .inl x2)] [] ah (0, 0) := by
  unfold f_X6_strength at h
  refine J_seg ok_X6_strength 0 3 (pc' := 3) (ls' := [(0, .inr (.inr (.inl x0))), (1, .inl x1), (2, .inl x2)]) (st' := [.inl x2, .inl x1, .inr (.inr (.inl x0))]) rfl ?_
  by_cases c3 : qO ah x0 6 = true
  case neg => exact absurd ((if_neg c3).symm.trans h) (by simp)
  have h := (if_pos c3).symm.trans h
  obtain ⟨q1, h2, h⟩ := Option.bind_eq_some_iff.mp h
  refine J_callV (md' := md_X6_areTwo) (As := [.inl x1, .inl x2]) (st := []) (cs' := (0, 0)) (st' := [.inl q1.1]) (jat ok_X6_strength 3 (pc := 3) (i := .invokevirtual 192) (n := 3) rfl rfl) ml_RX6_192 yv_X6_areTwo c3 (c_X6_areTwo l g (d + 0) h2) (jRo_of (by decide)) (Nat.le_of_ble_eq_true rfl) ⟨Nat.le_of_ble_eq_true rfl, Nat.le_of_ble_eq_true rfl⟩ rfl rfl rfl ?_
  refine J_eq0 (jat ok_X6_strength 4 (pc := 6) (i := .ifCond .eq 12) (n := 3) rfl rfl) (tgt := 18) (by decide) (fun c => ?_) (fun c => ?_)
  · have h := (if_pos c).symm.trans h
    refine J_seg ok_X6_strength 10 1 (pc' := 19) (ls' := [(0, .inr (.inr (.inl x0))), (1, .inl x1), (2, .inl x2)]) (st' := [.inl (-1)]) rfl ?_
    have h := Option.some.inj h
    subst h
    exact hR _ _ (jat ok_X6_strength 11 (pc := 19) (i := .ireturn) (n := 1) rfl rfl)
  · have h := (if_neg c).symm.trans h
    refine J_seg ok_X6_strength 5 3 (pc' := 12) (ls' := [(0, .inr (.inr (.inl x0))), (1, .inl x1), (2, .inl x2)]) (st' := [.inl x2, .inl x1, .inr (.inr (.inl x0))]) rfl ?_
    by_cases c6 : qO q1.2 x0 6 = true
    case neg => exact absurd ((if_neg c6).symm.trans h) (by simp)
    have h := (if_pos c6).symm.trans h
    obtain ⟨q4, h5, h⟩ := Option.bind_eq_some_iff.mp h
    refine J_callV (md' := md_X6_strengthOf) (As := [.inl x1, .inl x2]) (st := []) (cs' := (0, 0)) (st' := [.inl q4.1]) (jat ok_X6_strength 8 (pc := 12) (i := .invokevirtual 166) (n := 3) rfl rfl) ml_RX6_166 yv_X6_strengthOf c6 (c_X6_strengthOf l g (d + 1) h5) (jRo_of (by decide)) (Nat.le_of_ble_eq_true rfl) ⟨Nat.le_of_ble_eq_true rfl, Nat.le_of_ble_eq_true rfl⟩ rfl rfl rfl ?_
    refine J_seg ok_X6_strength 9 1 (pc' := 19) (ls' := [(0, .inr (.inr (.inl x0))), (1, .inl x1), (2, .inl x2)]) (st' := [.inl q4.1]) rfl ?_
    have h := Option.some.inj h
    subst h
    exact hR _ _ (jat ok_X6_strength 11 (pc := 19) (i := .ireturn) (n := 1) rfl rfl)
theorem c_X6_strength (l : Launch) (g : GX) (d : Nat) {x0 : Option Nat} {x1 : Int32} {x2 : Int32} {ah : AH} {q : Int32 × AH} (h : f_X6_strength x0 x1 x2 ah = some q) : jM l g (d + 3) md_X6_strength [.inr (.inr (.inl x0)), .inl x1, .inl x2] ah (some (.inl q.1)) q.2 :=
  jM_of (by decide) (Nat.le_of_ble_eq_true rfl) (k_X6_strength d ah q h (fun pc ls hd => J_reti hd rfl (jPV_int _) rfl (Nat.le_refl _) rfl rfl))
def f_X6_keepPast_b2 (k0 : Option Nat) (s2 : Int32) (ah : AH) : Option ((Unit × AH) ⊕ (((Unit) × AH) ⊕ ((Int32) × AH))) :=
  if 19 ≤ s2 then (some (.inr (.inl ((), ah)))) else ((gR ah k0 6 0).bind fun v1 => (gR ah k0 6 0).bind fun v3 => (gA ah v3 0).bind fun v5 => (gR ah k0 6 0).bind fun v7 => (gA ah v7 (1 + s2)).bind fun v9 => (sA ah v1 ((20 + (19 * v5)) + s2) v9).bind fun a11 => some (.inr (.inr (s2 + 1, a11))))
set_option maxRecDepth 100000 in
set_option maxHeartbeats 4000000 in
theorem k_X6_keepPast_b2 {l : Launch} {g : GX} (d : Nat) {Q : jQ} {k0 : Option Nat} (s2 : Int32) (ah : AH) (out : (Unit × AH) ⊕ (((Unit) × AH) ⊕ ((Int32) × AH))) (h : f_X6_keepPast_b2 k0 s2 ah = some out) (hR : ∀ q, out = .inl q → jRetN q.1 q.2) (hX : ∀ q, out = .inr (.inl q) → J l g md_X6_keepPast (jRm (d + 0) md_X6_keepPast) Q 41 [(0, .inr (.inr (.inl k0)))] [] q.2 (0, 0)) (hN : ∀ q, out = .inr (.inr q) → J l g md_X6_keepPast (jRm (d + 0) md_X6_keepPast) Q 2 [(0, .inr (.inr (.inl k0))), (1, .inl q.1)] [] q.2 (0, 0)) : J l g md_X6_keepPast (jRm (d + 0) md_X6_keepPast) Q 2 [(0, .inr (.inr (.inl k0))), (1, .inl s2)] [] ah (0, 0) := by
  unfold f_X6_keepPast_b2 at h
  refine J_seg ok_X6_keepPast 2 2 (pc' := 5) (ls' := [(0, .inr (.inr (.inl k0))), (1, .inl s2)]) (st' := [.inl 19, .inl s2]) rfl ?_
  refine J_ge (jat ok_X6_keepPast 4 (pc := 5) (i := .if_icmp .ge 36) (n := 3) rfl rfl) (tgt := 41) (by decide) (fun c => ?_) (fun c => ?_)
  · have h := (if_pos c).symm.trans h
    exact J_sub (ls' := [(0, .inr (.inr (.inl k0)))]) [0] rfl (hX ((), ah) (Option.some.inj h).symm)
  · have h := (if_neg c).symm.trans h
    refine J_seg ok_X6_keepPast 5 1 (pc' := 9) (ls' := [(0, .inr (.inr (.inl k0))), (1, .inl s2)]) (st' := [.inr (.inr (.inl k0))]) rfl ?_
    obtain ⟨v1, h2, h⟩ := Option.bind_eq_some_iff.mp h
    refine J_getR (jat ok_X6_keepPast 6 (pc := 9) (i := .getfield 7) (n := 3) rfl rfl) fl_RX6_7 h2 ?_
    refine J_seg ok_X6_keepPast 7 3 (pc' := 17) (ls' := [(0, .inr (.inr (.inl k0))), (1, .inl s2)]) (st' := [.inr (.inr (.inl k0)), .inl 19, .inl 20, .inr (.inr (.inl v1))]) rfl ?_
    obtain ⟨v3, h4, h⟩ := Option.bind_eq_some_iff.mp h
    refine J_getR (jat ok_X6_keepPast 10 (pc := 17) (i := .getfield 7) (n := 3) rfl rfl) fl_RX6_7 h4 ?_
    refine J_seg ok_X6_keepPast 11 1 (pc' := 21) (ls' := [(0, .inr (.inr (.inl k0))), (1, .inl s2)]) (st' := [.inl 0, .inr (.inr (.inl v3)), .inl 19, .inl 20, .inr (.inr (.inl v1))]) rfl ?_
    obtain ⟨v5, h6, h⟩ := Option.bind_eq_some_iff.mp h
    refine J_iald (jat ok_X6_keepPast 12 (pc := 21) (i := .iaload) (n := 1) rfl rfl) h6 ?_
    refine J_seg ok_X6_keepPast 13 5 (pc' := 27) (ls' := [(0, .inr (.inr (.inl k0))), (1, .inl s2)]) (st' := [.inr (.inr (.inl k0)), .inl ((20 + (19 * v5)) + s2), .inr (.inr (.inl v1))]) rfl ?_
    obtain ⟨v7, h8, h⟩ := Option.bind_eq_some_iff.mp h
    refine J_getR (jat ok_X6_keepPast 18 (pc := 27) (i := .getfield 7) (n := 3) rfl rfl) fl_RX6_7 h8 ?_
    refine J_seg ok_X6_keepPast 19 3 (pc' := 33) (ls' := [(0, .inr (.inr (.inl k0))), (1, .inl s2)]) (st' := [.inl (1 + s2), .inr (.inr (.inl v7)), .inl ((20 + (19 * v5)) + s2), .inr (.inr (.inl v1))]) rfl ?_
    obtain ⟨v9, h10, h⟩ := Option.bind_eq_some_iff.mp h
    refine J_iald (jat ok_X6_keepPast 22 (pc := 33) (i := .iaload) (n := 1) rfl rfl) h10 ?_
    obtain ⟨a11, h12, h⟩ := Option.bind_eq_some_iff.mp h
    refine J_iast (jat ok_X6_keepPast 23 (pc := 34) (i := .iastore) (n := 1) rfl rfl) h12 ?_
    refine J_seg ok_X6_keepPast 24 2 (pc' := 2) (ls' := [(1, .inl (s2 + 1)), (0, .inr (.inr (.inl k0)))]) (st' := []) rfl ?_
    exact J_sub (ls' := [(0, .inr (.inr (.inl k0))), (1, .inl (s2 + 1))]) [1, 0] rfl (hN (s2 + 1, a11) (Option.some.inj h).symm)
def f_X6_keepPast (x0 : Option Nat) (ah : AH) : Option (Unit × AH) :=
  (jloop (f_X6_keepPast_b2 x0) jfuel 0 ah).bind fun q13 => match q13 with | .inl r => none | .inr z15 => (gR z15.2 x0 6 0).bind fun v17 => (gA z15.2 v17 0).bind fun v19 => (sA z15.2 v17 0 (v19 + 1)).bind fun a21 => some ((), a21)
set_option maxRecDepth 100000 in
set_option maxHeartbeats 4000000 in
theorem k_X6_keepPast {l : Launch} {g : GX} (d : Nat) {Q : jQ} {x0 : Option Nat} (ah : AH) (out : Unit × AH) (h : f_X6_keepPast x0 ah = some out) (hR : jRetV l g md_X6_keepPast (jRm (d + 0) md_X6_keepPast) Q (0, 0) out.1 out.2) : J l g md_X6_keepPast (jRm (d + 0) md_X6_keepPast) Q 0 [(0, .inr (.inr (.inl x0)))] [] ah (0, 0) := by
  unfold f_X6_keepPast at h
  refine J_seg ok_X6_keepPast 0 2 (pc' := 2) (ls' := [(1, .inl 0), (0, .inr (.inr (.inl x0)))]) (st' := []) rfl ?_
  obtain ⟨q13, h14, h⟩ := Option.bind_eq_some_iff.mp h
  refine J_sub (ls' := [(0, .inr (.inr (.inl x0))), (1, .inl 0)]) [1, 0] rfl ?_
  refine J_loop (pE := 41) (lh := fun t16 => [(0, .inr (.inr (.inl x0))), (1, .inl t16)]) (lx := fun z15 => [(0, .inr (.inr (.inl x0)))]) (P := jRetN) (fun s ah out hb hR hX hN => k_X6_keepPast_b2 d s ah out hb hR hX hN) jfuel 0 _ _ h14 (fun r e => ?_) (fun z15 e => ?_)
  · subst e
    dsimp only at h
    cases h
  · subst e
    dsimp only at h
    refine J_seg ok_X6_keepPast 26 1 (pc' := 42) (ls' := [(0, .inr (.inr (.inl x0)))]) (st' := [.inr (.inr (.inl x0))]) rfl ?_
    obtain ⟨v17, h18, h⟩ := Option.bind_eq_some_iff.mp h
    refine J_getR (jat ok_X6_keepPast 27 (pc := 42) (i := .getfield 7) (n := 3) rfl rfl) fl_RX6_7 h18 ?_
    refine J_seg ok_X6_keepPast 28 2 (pc' := 47) (ls' := [(0, .inr (.inr (.inl x0)))]) (st' := [.inl 0, .inr (.inr (.inl v17)), .inl 0, .inr (.inr (.inl v17))]) rfl ?_
    obtain ⟨v19, h20, h⟩ := Option.bind_eq_some_iff.mp h
    refine J_iald (jat ok_X6_keepPast 30 (pc := 47) (i := .iaload) (n := 1) rfl rfl) h20 ?_
    refine J_seg ok_X6_keepPast 31 2 (pc' := 50) (ls' := [(0, .inr (.inr (.inl x0)))]) (st' := [.inl (v19 + 1), .inl 0, .inr (.inr (.inl v17))]) rfl ?_
    obtain ⟨a21, h22, h⟩ := Option.bind_eq_some_iff.mp h
    refine J_iast (jat ok_X6_keepPast 33 (pc := 50) (i := .iastore) (n := 1) rfl rfl) h22 ?_
    have h := Option.some.inj h
    subst h
    exact hR _ _ (jat ok_X6_keepPast 34 (pc := 51) (i := .return_) (n := 1) rfl rfl)
theorem c_X6_keepPast (l : Launch) (g : GX) (d : Nat) {x0 : Option Nat} {ah : AH} {q : Unit × AH} (h : f_X6_keepPast x0 ah = some q) : jM l g (d + 0) md_X6_keepPast [.inr (.inr (.inl x0))] ah none q.2 :=
  jM_of (by decide) (Nat.le_of_ble_eq_true rfl) (k_X6_keepPast d ah q h (fun pc ls hd => J_retv hd rfl rfl (Nat.le_refl _) rfl rfl))
def f_X6_pass_b14_j55 (k0 : Option Nat) (k1 : Int32) (x2 : Int32) (y0 : Int32) (y1 : Int32) (y2 : Int32) (y3 : Option Nat) (ah : AH) : Option ((Unit × AH) ⊕ (((Unit) × AH) ⊕ ((Int32) × AH))) :=
  (sA ah y3 y2 (y1 + y0)).bind fun a18 => some (.inr (.inr (x2 + 1, a18)))
set_option maxRecDepth 100000 in
set_option maxHeartbeats 4000000 in
theorem k_X6_pass_b14_j55 {l : Launch} {g : GX} (d : Nat) {Q : jQ} {k0 : Option Nat} {k1 : Int32} {x2 : Int32} {y0 : Int32} {y1 : Int32} {y2 : Int32} {y3 : Option Nat} (ah : AH) (out : (Unit × AH) ⊕ (((Unit) × AH) ⊕ ((Int32) × AH))) (h : f_X6_pass_b14_j55 k0 k1 x2 y0 y1 y2 y3 ah = some out) (hR : ∀ q, out = .inl q → jRetN q.1 q.2) (hX : ∀ q, out = .inr (.inl q) → J l g md_X6_pass (jRm (d + 2) md_X6_pass) Q 63 [(0, .inr (.inr (.inl k0))), (1, .inl k1)] [] q.2 (0, 0)) (hN : ∀ q, out = .inr (.inr q) → J l g md_X6_pass (jRm (d + 2) md_X6_pass) Q 14 [(0, .inr (.inr (.inl k0))), (1, .inl k1), (2, .inl q.1)] [] q.2 (0, 0)) : J l g md_X6_pass (jRm (d + 2) md_X6_pass) Q 55 [(0, .inr (.inr (.inl k0))), (1, .inl k1), (2, .inl x2)] [.inl y0, .inl y1, .inl y2, .inr (.inr (.inl y3))] ah (0, 0) := by
  unfold f_X6_pass_b14_j55 at h
  refine J_seg ok_X6_pass 33 1 (pc' := 56) (ls' := [(0, .inr (.inr (.inl k0))), (1, .inl k1), (2, .inl x2)]) (st' := [.inl (y1 + y0), .inl y2, .inr (.inr (.inl y3))]) rfl ?_
  obtain ⟨a18, h19, h⟩ := Option.bind_eq_some_iff.mp h
  refine J_iast (jat ok_X6_pass 34 (pc := 56) (i := .iastore) (n := 1) rfl rfl) h19 ?_
  refine J_seg ok_X6_pass 35 2 (pc' := 14) (ls' := [(2, .inl (x2 + 1)), (0, .inr (.inr (.inl k0))), (1, .inl k1)]) (st' := []) rfl ?_
  exact J_sub (ls' := [(0, .inr (.inr (.inl k0))), (1, .inl k1), (2, .inl (x2 + 1))]) [1, 2, 0] rfl (hN (x2 + 1, a18) (Option.some.inj h).symm)
def f_X6_pass_b14_j54 (k0 : Option Nat) (k1 : Int32) (x2 : Int32) (y0 : Int32) (y1 : Int32) (y2 : Option Nat) (ah : AH) : Option ((Unit × AH) ⊕ (((Unit) × AH) ⊕ ((Int32) × AH))) :=
  f_X6_pass_b14_j55 k0 k1 x2 0 y0 y1 y2 ah
set_option maxRecDepth 100000 in
set_option maxHeartbeats 4000000 in
theorem k_X6_pass_b14_j54 {l : Launch} {g : GX} (d : Nat) {Q : jQ} {k0 : Option Nat} {k1 : Int32} {x2 : Int32} {y0 : Int32} {y1 : Int32} {y2 : Option Nat} (ah : AH) (out : (Unit × AH) ⊕ (((Unit) × AH) ⊕ ((Int32) × AH))) (h : f_X6_pass_b14_j54 k0 k1 x2 y0 y1 y2 ah = some out) (hR : ∀ q, out = .inl q → jRetN q.1 q.2) (hX : ∀ q, out = .inr (.inl q) → J l g md_X6_pass (jRm (d + 2) md_X6_pass) Q 63 [(0, .inr (.inr (.inl k0))), (1, .inl k1)] [] q.2 (0, 0)) (hN : ∀ q, out = .inr (.inr q) → J l g md_X6_pass (jRm (d + 2) md_X6_pass) Q 14 [(0, .inr (.inr (.inl k0))), (1, .inl k1), (2, .inl q.1)] [] q.2 (0, 0)) : J l g md_X6_pass (jRm (d + 2) md_X6_pass) Q 54 [(0, .inr (.inr (.inl k0))), (1, .inl k1), (2, .inl x2)] [.inl y0, .inl y1, .inr (.inr (.inl y2))] ah (0, 0) := by
  unfold f_X6_pass_b14_j54 at h
  refine J_seg ok_X6_pass 32 1 (pc' := 55) (ls' := [(0, .inr (.inr (.inl k0))), (1, .inl k1), (2, .inl x2)]) (st' := [.inl 0, .inl y0, .inl y1, .inr (.inr (.inl y2))]) rfl ?_
  refine J_sub (ls' := [(0, .inr (.inr (.inl k0))), (1, .inl k1), (2, .inl x2)]) [0, 1, 2] rfl ?_
  exact k_X6_pass_b14_j55 d _ _ h hR hX hN
def f_X6_pass_b14 (k0 : Option Nat) (k1 : Int32) (s14 : Int32) (ah : AH) : Option ((Unit × AH) ⊕ (((Unit) × AH) ⊕ ((Int32) × AH))) :=
  (gI ah k0 6 1).bind fun v8 => if v8 ≤ s14 then (some (.inr (.inl ((), ah)))) else ((gR ah k0 6 0).bind fun v10 => (gA ah v10 (7 + s14)).bind fun v12 => (gR ah k0 6 23).bind fun v14 => (gA ah v14 s14).bind fun v16 => if v16 = 1 then ((f_X6_has k1 s14 ah).bind fun q20 => if q20.1 = 0 then (f_X6_pass_b14_j55 k0 k1 s14 1 v12 (7 + s14) v10 q20.2) else (f_X6_pass_b14_j54 k0 k1 s14 v12 (7 + s14) v10 q20.2)) else (f_X6_pass_b14_j54 k0 k1 s14 v12 (7 + s14) v10 ah))
set_option maxRecDepth 100000 in
set_option maxHeartbeats 4000000 in
theorem k_X6_pass_b14 {l : Launch} {g : GX} (d : Nat) {Q : jQ} {k0 : Option Nat} {k1 : Int32} (s14 : Int32) (ah : AH) (out : (Unit × AH) ⊕ (((Unit) × AH) ⊕ ((Int32) × AH))) (h : f_X6_pass_b14 k0 k1 s14 ah = some out) (hR : ∀ q, out = .inl q → jRetN q.1 q.2) (hX : ∀ q, out = .inr (.inl q) → J l g md_X6_pass (jRm (d + 2) md_X6_pass) Q 63 [(0, .inr (.inr (.inl k0))), (1, .inl k1)] [] q.2 (0, 0)) (hN : ∀ q, out = .inr (.inr q) → J l g md_X6_pass (jRm (d + 2) md_X6_pass) Q 14 [(0, .inr (.inr (.inl k0))), (1, .inl k1), (2, .inl q.1)] [] q.2 (0, 0)) : J l g md_X6_pass (jRm (d + 2) md_X6_pass) Q 14 [(0, .inr (.inr (.inl k0))), (1, .inl k1), (2, .inl s14)] [] ah (0, 0) := by
  unfold f_X6_pass_b14 at h
  refine J_seg ok_X6_pass 9 2 (pc' := 16) (ls' := [(0, .inr (.inr (.inl k0))), (1, .inl k1), (2, .inl s14)]) (st' := [.inr (.inr (.inl k0)), .inl s14]) rfl ?_
  obtain ⟨v8, h9, h⟩ := Option.bind_eq_some_iff.mp h
  refine J_getI (jat ok_X6_pass 11 (pc := 16) (i := .getfield 148) (n := 3) rfl rfl) fl_RX6_148 h9 ?_
  refine J_ge (jat ok_X6_pass 12 (pc := 19) (i := .if_icmp .ge 44) (n := 3) rfl rfl) (tgt := 63) (by decide) (fun c => ?_) (fun c => ?_)
  · have h := (if_pos c).symm.trans h
    exact J_sub (ls' := [(0, .inr (.inr (.inl k0))), (1, .inl k1)]) [0, 1] rfl (hX ((), ah) (Option.some.inj h).symm)
  · have h := (if_neg c).symm.trans h
    refine J_seg ok_X6_pass 13 1 (pc' := 23) (ls' := [(0, .inr (.inr (.inl k0))), (1, .inl k1), (2, .inl s14)]) (st' := [.inr (.inr (.inl k0))]) rfl ?_
    obtain ⟨v10, h11, h⟩ := Option.bind_eq_some_iff.mp h
    refine J_getR (jat ok_X6_pass 14 (pc := 23) (i := .getfield 7) (n := 3) rfl rfl) fl_RX6_7 h11 ?_
    refine J_seg ok_X6_pass 15 4 (pc' := 31) (ls' := [(0, .inr (.inr (.inl k0))), (1, .inl k1), (2, .inl s14)]) (st' := [.inl (7 + s14), .inr (.inr (.inl v10)), .inl (7 + s14), .inr (.inr (.inl v10))]) rfl ?_
    obtain ⟨v12, h13, h⟩ := Option.bind_eq_some_iff.mp h
    refine J_iald (jat ok_X6_pass 19 (pc := 31) (i := .iaload) (n := 1) rfl rfl) h13 ?_
    refine J_seg ok_X6_pass 20 1 (pc' := 33) (ls' := [(0, .inr (.inr (.inl k0))), (1, .inl k1), (2, .inl s14)]) (st' := [.inr (.inr (.inl k0)), .inl v12, .inl (7 + s14), .inr (.inr (.inl v10))]) rfl ?_
    obtain ⟨v14, h15, h⟩ := Option.bind_eq_some_iff.mp h
    refine J_getR (jat ok_X6_pass 21 (pc := 33) (i := .getfield 50) (n := 3) rfl rfl) fl_RX6_50 h15 ?_
    refine J_seg ok_X6_pass 22 1 (pc' := 37) (ls' := [(0, .inr (.inr (.inl k0))), (1, .inl k1), (2, .inl s14)]) (st' := [.inl s14, .inr (.inr (.inl v14)), .inl v12, .inl (7 + s14), .inr (.inr (.inl v10))]) rfl ?_
    obtain ⟨v16, h17, h⟩ := Option.bind_eq_some_iff.mp h
    refine J_iald (jat ok_X6_pass 23 (pc := 37) (i := .iaload) (n := 1) rfl rfl) h17 ?_
    refine J_seg ok_X6_pass 24 1 (pc' := 39) (ls' := [(0, .inr (.inr (.inl k0))), (1, .inl k1), (2, .inl s14)]) (st' := [.inl 1, .inl v16, .inl v12, .inl (7 + s14), .inr (.inr (.inl v10))]) rfl ?_
    refine J_ne (jat ok_X6_pass 25 (pc := 39) (i := .if_icmp .ne 15) (n := 3) rfl rfl) (tgt := 54) (by decide) (fun c => ?_) (fun c => ?_)
    · have h := (if_neg c).symm.trans h
      refine J_sub (ls' := [(0, .inr (.inr (.inl k0))), (1, .inl k1), (2, .inl s14)]) [0, 1, 2] rfl ?_
      exact k_X6_pass_b14_j54 d _ _ h hR hX hN
    · have h := (if_pos c).symm.trans h
      refine J_seg ok_X6_pass 26 2 (pc' := 44) (ls' := [(0, .inr (.inr (.inl k0))), (1, .inl k1), (2, .inl s14)]) (st' := [.inl s14, .inl k1, .inl v12, .inl (7 + s14), .inr (.inr (.inl v10))]) rfl ?_
      obtain ⟨q20, h21, h⟩ := Option.bind_eq_some_iff.mp h
      refine J_callS (md' := md_X6_has) (As := [.inl k1, .inl s14]) (st := [.inl v12, .inl (7 + s14), .inr (.inr (.inl v10))]) (cs' := (0, 0)) (st' := [.inl q20.1, .inl v12, .inl (7 + s14), .inr (.inr (.inl v10))]) (jat ok_X6_pass 28 (pc := 44) (i := .invokestatic 128) (n := 3) rfl rfl) (Or.inl ml_RX6_128) ys_X6_has (c_X6_has l g (d + 1) h21) (jRo_of (by decide)) (Nat.le_of_ble_eq_true rfl) ⟨Nat.le_of_ble_eq_true rfl, Nat.le_of_ble_eq_true rfl⟩ rfl rfl rfl ?_
      refine J_ne0 (jat ok_X6_pass 29 (pc := 47) (i := .ifCond .ne 7) (n := 3) rfl rfl) (tgt := 54) (by decide) (fun c => ?_) (fun c => ?_)
      · have h := (if_neg c).symm.trans h
        refine J_sub (ls' := [(0, .inr (.inr (.inl k0))), (1, .inl k1), (2, .inl s14)]) [0, 1, 2] rfl ?_
        exact k_X6_pass_b14_j54 d _ _ h hR hX hN
      · have h := (if_pos c).symm.trans h
        refine J_seg ok_X6_pass 30 2 (pc' := 55) (ls' := [(0, .inr (.inr (.inl k0))), (1, .inl k1), (2, .inl s14)]) (st' := [.inl 1, .inl v12, .inl (7 + s14), .inr (.inr (.inl v10))]) rfl ?_
        refine J_sub (ls' := [(0, .inr (.inr (.inl k0))), (1, .inl k1), (2, .inl s14)]) [0, 1, 2] rfl ?_
        exact k_X6_pass_b14_j55 d _ _ h hR hX hN
def f_X6_pass_b65_j141 (k0 : Option Nat) (k1 : Int32) (x2 : Int32) (y0 : Int32) (y1 : Int32) (y2 : Option Nat) (ah : AH) : Option ((Unit × AH) ⊕ (((Unit) × AH) ⊕ ((Int32) × AH))) :=
  (sA ah y2 y1 y0).bind fun a55 => some (.inr (.inr (x2 + 1, a55)))
set_option maxRecDepth 100000 in
set_option maxHeartbeats 4000000 in
theorem k_X6_pass_b65_j141 {l : Launch} {g : GX} (d : Nat) {Q : jQ} {k0 : Option Nat} {k1 : Int32} {x2 : Int32} {y0 : Int32} {y1 : Int32} {y2 : Option Nat} (ah : AH) (out : (Unit × AH) ⊕ (((Unit) × AH) ⊕ ((Int32) × AH))) (h : f_X6_pass_b65_j141 k0 k1 x2 y0 y1 y2 ah = some out) (hR : ∀ q, out = .inl q → jRetN q.1 q.2) (hX : ∀ q, out = .inr (.inl q) → J l g md_X6_pass (jRm (d + 2) md_X6_pass) Q 148 [(0, .inr (.inr (.inl k0))), (1, .inl k1)] [] q.2 (0, 0)) (hN : ∀ q, out = .inr (.inr q) → J l g md_X6_pass (jRm (d + 2) md_X6_pass) Q 65 [(0, .inr (.inr (.inl k0))), (1, .inl k1), (2, .inl q.1)] [] q.2 (0, 0)) : J l g md_X6_pass (jRm (d + 2) md_X6_pass) Q 141 [(0, .inr (.inr (.inl k0))), (1, .inl k1), (2, .inl x2)] [.inl y0, .inl y1, .inr (.inr (.inl y2))] ah (0, 0) := by
  unfold f_X6_pass_b65_j141 at h
  obtain ⟨a55, h56, h⟩ := Option.bind_eq_some_iff.mp h
  refine J_iast (jat ok_X6_pass 83 (pc := 141) (i := .iastore) (n := 1) rfl rfl) h56 ?_
  refine J_seg ok_X6_pass 84 2 (pc' := 65) (ls' := [(2, .inl (x2 + 1)), (0, .inr (.inr (.inl k0))), (1, .inl k1)]) (st' := []) rfl ?_
  exact J_sub (ls' := [(0, .inr (.inr (.inl k0))), (1, .inl k1), (2, .inl (x2 + 1))]) [1, 2, 0] rfl (hN (x2 + 1, a55) (Option.some.inj h).symm)
def f_X6_pass_b65 (k0 : Option Nat) (k1 : Int32) (s65 : Int32) (ah : AH) : Option ((Unit × AH) ⊕ (((Unit) × AH) ⊕ ((Int32) × AH))) :=
  (gI ah k0 6 1).bind fun v26 => if v26 ≤ s65 then (some (.inr (.inl ((), ah)))) else ((gR ah k0 6 23).bind fun v28 => (gA ah v28 s65).bind fun v30 => if v30 = 2 then (if qO ah k0 6 = true then ((f_X6_victim k0 s65 ah).bind fun q32 => (f_X6_has k1 q32.1 q32.2).bind fun q35 => if q35.1 = 0 then ((gR q35.2 k0 6 0).bind fun v37 => if qO q35.2 k0 6 = true then ((f_X6_victim k0 s65 q35.2).bind fun q39 => (gA q39.2 v37 (7 + q39.1)).bind fun v42 => if qO q39.2 k0 6 = true then ((f_X6_victim k0 s65 q39.2).bind fun q44 => if qO q44.2 k0 6 = true then ((f_X6_strengthOf k0 s65 q44.1 q44.2).bind fun q47 => (gR q47.2 k0 6 0).bind fun v50 => if qO q47.2 k0 6 = true then ((f_X6_victim k0 s65 q47.2).bind fun q52 => if 0 ≤ (v42 - q47.1) then (f_X6_pass_b65_j141 k0 k1 s65 (v42 - q47.1) (7 + q52.1) v50 q52.2) else (f_X6_pass_b65_j141 k0 k1 s65 0 (7 + q52.1) v50 q52.2)) else none) else none) else none) else none) else (some (.inr (.inr (s65 + 1, q35.2))))) else none) else (some (.inr (.inr (s65 + 1, ah)))))
set_option maxRecDepth 100000 in
set_option maxHeartbeats 4000000 in
theorem k_X6_pass_b65 {l : Launch} {g : GX} (d : Nat) {Q : jQ} {k0 : Option Nat} {k1 : Int32} (s65 : Int32) (ah : AH) (out : (Unit × AH) ⊕ (((Unit) × AH) ⊕ ((Int32) × AH))) (h : f_X6_pass_b65 k0 k1 s65 ah = some out) (hR : ∀ q, out = .inl q → jRetN q.1 q.2) (hX : ∀ q, out = .inr (.inl q) → J l g md_X6_pass (jRm (d + 2) md_X6_pass) Q 148 [(0, .inr (.inr (.inl k0))), (1, .inl k1)] [] q.2 (0, 0)) (hN : ∀ q, out = .inr (.inr q) → J l g md_X6_pass (jRm (d + 2) md_X6_pass) Q 65 [(0, .inr (.inr (.inl k0))), (1, .inl k1), (2, .inl q.1)] [] q.2 (0, 0)) : J l g md_X6_pass (jRm (d + 2) md_X6_pass) Q 65 [(0, .inr (.inr (.inl k0))), (1, .inl k1), (2, .inl s65)] [] ah (0, 0) := by
  unfold f_X6_pass_b65 at h
  refine J_seg ok_X6_pass 39 2 (pc' := 67) (ls' := [(0, .inr (.inr (.inl k0))), (1, .inl k1), (2, .inl s65)]) (st' := [.inr (.inr (.inl k0)), .inl s65]) rfl ?_
  obtain ⟨v26, h27, h⟩ := Option.bind_eq_some_iff.mp h
  refine J_getI (jat ok_X6_pass 41 (pc := 67) (i := .getfield 148) (n := 3) rfl rfl) fl_RX6_148 h27 ?_
  refine J_ge (jat ok_X6_pass 42 (pc := 70) (i := .if_icmp .ge 78) (n := 3) rfl rfl) (tgt := 148) (by decide) (fun c => ?_) (fun c => ?_)
  · have h := (if_pos c).symm.trans h
    exact J_sub (ls' := [(0, .inr (.inr (.inl k0))), (1, .inl k1)]) [0, 1] rfl (hX ((), ah) (Option.some.inj h).symm)
  · have h := (if_neg c).symm.trans h
    refine J_seg ok_X6_pass 43 1 (pc' := 74) (ls' := [(0, .inr (.inr (.inl k0))), (1, .inl k1), (2, .inl s65)]) (st' := [.inr (.inr (.inl k0))]) rfl ?_
    obtain ⟨v28, h29, h⟩ := Option.bind_eq_some_iff.mp h
    refine J_getR (jat ok_X6_pass 44 (pc := 74) (i := .getfield 50) (n := 3) rfl rfl) fl_RX6_50 h29 ?_
    refine J_seg ok_X6_pass 45 1 (pc' := 78) (ls' := [(0, .inr (.inr (.inl k0))), (1, .inl k1), (2, .inl s65)]) (st' := [.inl s65, .inr (.inr (.inl v28))]) rfl ?_
    obtain ⟨v30, h31, h⟩ := Option.bind_eq_some_iff.mp h
    refine J_iald (jat ok_X6_pass 46 (pc := 78) (i := .iaload) (n := 1) rfl rfl) h31 ?_
    refine J_seg ok_X6_pass 47 1 (pc' := 80) (ls' := [(0, .inr (.inr (.inl k0))), (1, .inl k1), (2, .inl s65)]) (st' := [.inl 2, .inl v30]) rfl ?_
    refine J_ne (jat ok_X6_pass 48 (pc := 80) (i := .if_icmp .ne 62) (n := 3) rfl rfl) (tgt := 142) (by decide) (fun c => ?_) (fun c => ?_)
    · have h := (if_neg c).symm.trans h
      refine J_seg ok_X6_pass 84 2 (pc' := 65) (ls' := [(2, .inl (s65 + 1)), (0, .inr (.inr (.inl k0))), (1, .inl k1)]) (st' := []) rfl ?_
      exact J_sub (ls' := [(0, .inr (.inr (.inl k0))), (1, .inl k1), (2, .inl (s65 + 1))]) [1, 2, 0] rfl (hN (s65 + 1, ah) (Option.some.inj h).symm)
    · have h := (if_pos c).symm.trans h
      refine J_seg ok_X6_pass 49 3 (pc' := 86) (ls' := [(0, .inr (.inr (.inl k0))), (1, .inl k1), (2, .inl s65)]) (st' := [.inl s65, .inr (.inr (.inl k0)), .inl k1]) rfl ?_
      by_cases c34 : qO ah k0 6 = true
      case neg => exact absurd ((if_neg c34).symm.trans h) (by simp)
      have h := (if_pos c34).symm.trans h
      obtain ⟨q32, h33, h⟩ := Option.bind_eq_some_iff.mp h
      refine J_callV (md' := md_X6_victim) (As := [.inl s65]) (st := [.inl k1]) (cs' := (0, 0)) (st' := [.inl q32.1, .inl k1]) (jat ok_X6_pass 52 (pc := 86) (i := .invokevirtual 157) (n := 3) rfl rfl) ml_RX6_157 yv_X6_victim c34 (c_X6_victim l g (d + 1) h33) (jRo_of (by decide)) (Nat.le_of_ble_eq_true rfl) ⟨Nat.le_of_ble_eq_true rfl, Nat.le_of_ble_eq_true rfl⟩ rfl rfl rfl ?_
      obtain ⟨q35, h36, h⟩ := Option.bind_eq_some_iff.mp h
      refine J_callS (md' := md_X6_has) (As := [.inl k1, .inl q32.1]) (st := []) (cs' := (0, 0)) (st' := [.inl q35.1]) (jat ok_X6_pass 53 (pc := 89) (i := .invokestatic 128) (n := 3) rfl rfl) (Or.inl ml_RX6_128) ys_X6_has (c_X6_has l g (d + 1) h36) (jRo_of (by decide)) (Nat.le_of_ble_eq_true rfl) ⟨Nat.le_of_ble_eq_true rfl, Nat.le_of_ble_eq_true rfl⟩ rfl rfl rfl ?_
      refine J_ne0 (jat ok_X6_pass 54 (pc := 92) (i := .ifCond .ne 50) (n := 3) rfl rfl) (tgt := 142) (by decide) (fun c => ?_) (fun c => ?_)
      · have h := (if_neg c).symm.trans h
        refine J_seg ok_X6_pass 84 2 (pc' := 65) (ls' := [(2, .inl (s65 + 1)), (0, .inr (.inr (.inl k0))), (1, .inl k1)]) (st' := []) rfl ?_
        exact J_sub (ls' := [(0, .inr (.inr (.inl k0))), (1, .inl k1), (2, .inl (s65 + 1))]) [1, 2, 0] rfl (hN (s65 + 1, q35.2) (Option.some.inj h).symm)
      · have h := (if_pos c).symm.trans h
        refine J_seg ok_X6_pass 55 1 (pc' := 96) (ls' := [(0, .inr (.inr (.inl k0))), (1, .inl k1), (2, .inl s65)]) (st' := [.inr (.inr (.inl k0))]) rfl ?_
        obtain ⟨v37, h38, h⟩ := Option.bind_eq_some_iff.mp h
        refine J_getR (jat ok_X6_pass 56 (pc := 96) (i := .getfield 7) (n := 3) rfl rfl) fl_RX6_7 h38 ?_
        refine J_seg ok_X6_pass 57 3 (pc' := 103) (ls' := [(0, .inr (.inr (.inl k0))), (1, .inl k1), (2, .inl s65)]) (st' := [.inl s65, .inr (.inr (.inl k0)), .inl 7, .inr (.inr (.inl v37))]) rfl ?_
        by_cases c41 : qO q35.2 k0 6 = true
        case neg => exact absurd ((if_neg c41).symm.trans h) (by simp)
        have h := (if_pos c41).symm.trans h
        obtain ⟨q39, h40, h⟩ := Option.bind_eq_some_iff.mp h
        refine J_callV (md' := md_X6_victim) (As := [.inl s65]) (st := [.inl 7, .inr (.inr (.inl v37))]) (cs' := (0, 0)) (st' := [.inl q39.1, .inl 7, .inr (.inr (.inl v37))]) (jat ok_X6_pass 60 (pc := 103) (i := .invokevirtual 157) (n := 3) rfl rfl) ml_RX6_157 yv_X6_victim c41 (c_X6_victim l g (d + 1) h40) (jRo_of (by decide)) (Nat.le_of_ble_eq_true rfl) ⟨Nat.le_of_ble_eq_true rfl, Nat.le_of_ble_eq_true rfl⟩ rfl rfl rfl ?_
        refine J_seg ok_X6_pass 61 1 (pc' := 107) (ls' := [(0, .inr (.inr (.inl k0))), (1, .inl k1), (2, .inl s65)]) (st' := [.inl (7 + q39.1), .inr (.inr (.inl v37))]) rfl ?_
        obtain ⟨v42, h43, h⟩ := Option.bind_eq_some_iff.mp h
        refine J_iald (jat ok_X6_pass 62 (pc := 107) (i := .iaload) (n := 1) rfl rfl) h43 ?_
        refine J_seg ok_X6_pass 63 4 (pc' := 112) (ls' := [(0, .inr (.inr (.inl k0))), (1, .inl k1), (2, .inl s65)]) (st' := [.inl s65, .inr (.inr (.inl k0)), .inl s65, .inr (.inr (.inl k0)), .inl v42]) rfl ?_
        by_cases c46 : qO q39.2 k0 6 = true
        case neg => exact absurd ((if_neg c46).symm.trans h) (by simp)
        have h := (if_pos c46).symm.trans h
        obtain ⟨q44, h45, h⟩ := Option.bind_eq_some_iff.mp h
        refine J_callV (md' := md_X6_victim) (As := [.inl s65]) (st := [.inl s65, .inr (.inr (.inl k0)), .inl v42]) (cs' := (0, 0)) (st' := [.inl q44.1, .inl s65, .inr (.inr (.inl k0)), .inl v42]) (jat ok_X6_pass 67 (pc := 112) (i := .invokevirtual 157) (n := 3) rfl rfl) ml_RX6_157 yv_X6_victim c46 (c_X6_victim l g (d + 1) h45) (jRo_of (by decide)) (Nat.le_of_ble_eq_true rfl) ⟨Nat.le_of_ble_eq_true rfl, Nat.le_of_ble_eq_true rfl⟩ rfl rfl rfl ?_
        by_cases c49 : qO q44.2 k0 6 = true
        case neg => exact absurd ((if_neg c49).symm.trans h) (by simp)
        have h := (if_pos c49).symm.trans h
        obtain ⟨q47, h48, h⟩ := Option.bind_eq_some_iff.mp h
        refine J_callV (md' := md_X6_strengthOf) (As := [.inl s65, .inl q44.1]) (st := [.inl v42]) (cs' := (0, 0)) (st' := [.inl q47.1, .inl v42]) (jat ok_X6_pass 68 (pc := 115) (i := .invokevirtual 166) (n := 3) rfl rfl) ml_RX6_166 yv_X6_strengthOf c49 (c_X6_strengthOf l g (d + 0) h48) (jRo_of (by decide)) (Nat.le_of_ble_eq_true rfl) ⟨Nat.le_of_ble_eq_true rfl, Nat.le_of_ble_eq_true rfl⟩ rfl rfl rfl ?_
        refine J_seg ok_X6_pass 69 3 (pc' := 121) (ls' := [(3, .inl (v42 - q47.1)), (0, .inr (.inr (.inl k0))), (1, .inl k1), (2, .inl s65)]) (st' := [.inr (.inr (.inl k0))]) rfl ?_
        obtain ⟨v50, h51, h⟩ := Option.bind_eq_some_iff.mp h
        refine J_getR (jat ok_X6_pass 72 (pc := 121) (i := .getfield 7) (n := 3) rfl rfl) fl_RX6_7 h51 ?_
        refine J_seg ok_X6_pass 73 3 (pc' := 128) (ls' := [(3, .inl (v42 - q47.1)), (0, .inr (.inr (.inl k0))), (1, .inl k1), (2, .inl s65)]) (st' := [.inl s65, .inr (.inr (.inl k0)), .inl 7, .inr (.inr (.inl v50))]) rfl ?_
        by_cases c54 : qO q47.2 k0 6 = true
        case neg => exact absurd ((if_neg c54).symm.trans h) (by simp)
        have h := (if_pos c54).symm.trans h
        obtain ⟨q52, h53, h⟩ := Option.bind_eq_some_iff.mp h
        refine J_callV (md' := md_X6_victim) (As := [.inl s65]) (st := [.inl 7, .inr (.inr (.inl v50))]) (cs' := (0, 0)) (st' := [.inl q52.1, .inl 7, .inr (.inr (.inl v50))]) (jat ok_X6_pass 76 (pc := 128) (i := .invokevirtual 157) (n := 3) rfl rfl) ml_RX6_157 yv_X6_victim c54 (c_X6_victim l g (d + 1) h53) (jRo_of (by decide)) (Nat.le_of_ble_eq_true rfl) ⟨Nat.le_of_ble_eq_true rfl, Nat.le_of_ble_eq_true rfl⟩ rfl rfl rfl ?_
        refine J_seg ok_X6_pass 77 2 (pc' := 133) (ls' := [(3, .inl (v42 - q47.1)), (0, .inr (.inr (.inl k0))), (1, .inl k1), (2, .inl s65)]) (st' := [.inl (v42 - q47.1), .inl (7 + q52.1), .inr (.inr (.inl v50))]) rfl ?_
        refine J_ge0 (jat ok_X6_pass 79 (pc := 133) (i := .ifCond .ge 7) (n := 3) rfl rfl) (tgt := 140) (by decide) (fun c => ?_) (fun c => ?_)
        · have h := (if_pos c).symm.trans h
          refine J_seg ok_X6_pass 82 1 (pc' := 141) (ls' := [(3, .inl (v42 - q47.1)), (0, .inr (.inr (.inl k0))), (1, .inl k1), (2, .inl s65)]) (st' := [.inl (v42 - q47.1), .inl (7 + q52.1), .inr (.inr (.inl v50))]) rfl ?_
          refine J_sub (ls' := [(0, .inr (.inr (.inl k0))), (1, .inl k1), (2, .inl s65)]) [1, 2, 3] rfl ?_
          exact k_X6_pass_b65_j141 d _ _ h hR hX hN
        · have h := (if_neg c).symm.trans h
          refine J_seg ok_X6_pass 80 2 (pc' := 141) (ls' := [(3, .inl (v42 - q47.1)), (0, .inr (.inr (.inl k0))), (1, .inl k1), (2, .inl s65)]) (st' := [.inl 0, .inl (7 + q52.1), .inr (.inr (.inl v50))]) rfl ?_
          refine J_sub (ls' := [(0, .inr (.inr (.inl k0))), (1, .inl k1), (2, .inl s65)]) [1, 2, 3] rfl ?_
          exact k_X6_pass_b65_j141 d _ _ h hR hX hN
def f_X6_pass_b152_j262 (k0 : Option Nat) (k1 : Int32) (x2 : Int32) (x3 : Int32) (y0 : Int32) (y1 : Int32) (y2 : Int32) (y3 : Option Nat) (ah : AH) : Option ((Unit × AH) ⊕ (((Int32) × AH) ⊕ ((Int32 × Int32) × AH))) :=
  (sA ah y3 y2 (y1 + y0)).bind fun a79 => some (.inr (.inr ((x2, x3 + 1), a79)))
set_option maxRecDepth 100000 in
set_option maxHeartbeats 4000000 in
theorem k_X6_pass_b152_j262 {l : Launch} {g : GX} (d : Nat) {Q : jQ} {k0 : Option Nat} {k1 : Int32} {x2 : Int32} {x3 : Int32} {y0 : Int32} {y1 : Int32} {y2 : Int32} {y3 : Option Nat} (ah : AH) (out : (Unit × AH) ⊕ (((Int32) × AH) ⊕ ((Int32 × Int32) × AH))) (h : f_X6_pass_b152_j262 k0 k1 x2 x3 y0 y1 y2 y3 ah = some out) (hR : ∀ q, out = .inl q → jRetN q.1 q.2) (hX : ∀ q, out = .inr (.inl q) → J l g md_X6_pass (jRm (d + 2) md_X6_pass) Q 270 [(2, .inl q.1)] [] q.2 (0, 0)) (hN : ∀ q, out = .inr (.inr q) → J l g md_X6_pass (jRm (d + 2) md_X6_pass) Q 152 [(0, .inr (.inr (.inl k0))), (1, .inl k1), (2, .inl q.1.1), (3, .inl q.1.2)] [] q.2 (0, 0)) : J l g md_X6_pass (jRm (d + 2) md_X6_pass) Q 262 [(0, .inr (.inr (.inl k0))), (1, .inl k1), (2, .inl x2), (3, .inl x3)] [.inl y0, .inl y1, .inl y2, .inr (.inr (.inl y3))] ah (0, 0) := by
  unfold f_X6_pass_b152_j262 at h
  refine J_seg ok_X6_pass 156 1 (pc' := 263) (ls' := [(0, .inr (.inr (.inl k0))), (1, .inl k1), (2, .inl x2), (3, .inl x3)]) (st' := [.inl (y1 + y0), .inl y2, .inr (.inr (.inl y3))]) rfl ?_
  obtain ⟨a79, h80, h⟩ := Option.bind_eq_some_iff.mp h
  refine J_iast (jat ok_X6_pass 157 (pc := 263) (i := .iastore) (n := 1) rfl rfl) h80 ?_
  refine J_seg ok_X6_pass 158 2 (pc' := 152) (ls' := [(3, .inl (x3 + 1)), (0, .inr (.inr (.inl k0))), (1, .inl k1), (2, .inl x2)]) (st' := []) rfl ?_
  exact J_sub (ls' := [(0, .inr (.inr (.inl k0))), (1, .inl k1), (2, .inl x2), (3, .inl (x3 + 1))]) [1, 2, 3, 0] rfl (hN ((x2, x3 + 1), a79) (Option.some.inj h).symm)
def f_X6_pass_b152_j261 (k0 : Option Nat) (k1 : Int32) (x2 : Int32) (x3 : Int32) (y0 : Int32) (y1 : Int32) (y2 : Option Nat) (ah : AH) : Option ((Unit × AH) ⊕ (((Int32) × AH) ⊕ ((Int32 × Int32) × AH))) :=
  f_X6_pass_b152_j262 k0 k1 x2 x3 0 y0 y1 y2 ah
set_option maxRecDepth 100000 in
set_option maxHeartbeats 4000000 in
theorem k_X6_pass_b152_j261 {l : Launch} {g : GX} (d : Nat) {Q : jQ} {k0 : Option Nat} {k1 : Int32} {x2 : Int32} {x3 : Int32} {y0 : Int32} {y1 : Int32} {y2 : Option Nat} (ah : AH) (out : (Unit × AH) ⊕ (((Int32) × AH) ⊕ ((Int32 × Int32) × AH))) (h : f_X6_pass_b152_j261 k0 k1 x2 x3 y0 y1 y2 ah = some out) (hR : ∀ q, out = .inl q → jRetN q.1 q.2) (hX : ∀ q, out = .inr (.inl q) → J l g md_X6_pass (jRm (d + 2) md_X6_pass) Q 270 [(2, .inl q.1)] [] q.2 (0, 0)) (hN : ∀ q, out = .inr (.inr q) → J l g md_X6_pass (jRm (d + 2) md_X6_pass) Q 152 [(0, .inr (.inr (.inl k0))), (1, .inl k1), (2, .inl q.1.1), (3, .inl q.1.2)] [] q.2 (0, 0)) : J l g md_X6_pass (jRm (d + 2) md_X6_pass) Q 261 [(0, .inr (.inr (.inl k0))), (1, .inl k1), (2, .inl x2), (3, .inl x3)] [.inl y0, .inl y1, .inr (.inr (.inl y2))] ah (0, 0) := by
  unfold f_X6_pass_b152_j261 at h
  refine J_seg ok_X6_pass 155 1 (pc' := 262) (ls' := [(0, .inr (.inr (.inl k0))), (1, .inl k1), (2, .inl x2), (3, .inl x3)]) (st' := [.inl 0, .inl y0, .inl y1, .inr (.inr (.inl y2))]) rfl ?_
  refine J_sub (ls' := [(0, .inr (.inr (.inl k0))), (1, .inl k1), (2, .inl x2), (3, .inl x3)]) [0, 1, 2, 3] rfl ?_
  exact k_X6_pass_b152_j262 d _ _ h hR hX hN
def f_X6_pass_b152_j226 (k0 : Option Nat) (k1 : Int32) (x3 : Int32) (y0 : Int32) (y1 : Int32) (ah : AH) : Option ((Unit × AH) ⊕ (((Int32) × AH) ⊕ ((Int32 × Int32) × AH))) :=
  (gR ah k0 6 0).bind fun v71 => (gA ah v71 (13 + x3)).bind fun v73 => (gR ah k0 6 23).bind fun v75 => (gA ah v75 x3).bind fun v77 => if v77 = 2 then (f_X6_pass_b152_j261 k0 k1 (y1 + y0) x3 v73 (13 + x3) v71 ah) else (if qO ah k0 6 = true then ((f_X6_owes k0 x3 k1 ah).bind fun q81 => if q81.1 = 0 then (f_X6_pass_b152_j261 k0 k1 (y1 + y0) x3 v73 (13 + x3) v71 q81.2) else (f_X6_pass_b152_j262 k0 k1 (y1 + y0) x3 1 v73 (13 + x3) v71 q81.2)) else none)
set_option maxRecDepth 100000 in
set_option maxHeartbeats 4000000 in
theorem k_X6_pass_b152_j226 {l : Launch} {g : GX} (d : Nat) {Q : jQ} {k0 : Option Nat} {k1 : Int32} {x3 : Int32} {y0 : Int32} {y1 : Int32} (ah : AH) (out : (Unit × AH) ⊕ (((Int32) × AH) ⊕ ((Int32 × Int32) × AH))) (h : f_X6_pass_b152_j226 k0 k1 x3 y0 y1 ah = some out) (hR : ∀ q, out = .inl q → jRetN q.1 q.2) (hX : ∀ q, out = .inr (.inl q) → J l g md_X6_pass (jRm (d + 2) md_X6_pass) Q 270 [(2, .inl q.1)] [] q.2 (0, 0)) (hN : ∀ q, out = .inr (.inr q) → J l g md_X6_pass (jRm (d + 2) md_X6_pass) Q 152 [(0, .inr (.inr (.inl k0))), (1, .inl k1), (2, .inl q.1.1), (3, .inl q.1.2)] [] q.2 (0, 0)) : J l g md_X6_pass (jRm (d + 2) md_X6_pass) Q 226 [(0, .inr (.inr (.inl k0))), (1, .inl k1), (3, .inl x3)] [.inl y0, .inl y1] ah (0, 0) := by
  unfold f_X6_pass_b152_j226 at h
  refine J_seg ok_X6_pass 133 3 (pc' := 229) (ls' := [(2, .inl (y1 + y0)), (0, .inr (.inr (.inl k0))), (1, .inl k1), (3, .inl x3)]) (st' := [.inr (.inr (.inl k0))]) rfl ?_
  obtain ⟨v71, h72, h⟩ := Option.bind_eq_some_iff.mp h
  refine J_getR (jat ok_X6_pass 136 (pc := 229) (i := .getfield 7) (n := 3) rfl rfl) fl_RX6_7 h72 ?_
  refine J_seg ok_X6_pass 137 4 (pc' := 237) (ls' := [(2, .inl (y1 + y0)), (0, .inr (.inr (.inl k0))), (1, .inl k1), (3, .inl x3)]) (st' := [.inl (13 + x3), .inr (.inr (.inl v71)), .inl (13 + x3), .inr (.inr (.inl v71))]) rfl ?_
  obtain ⟨v73, h74, h⟩ := Option.bind_eq_some_iff.mp h
  refine J_iald (jat ok_X6_pass 141 (pc := 237) (i := .iaload) (n := 1) rfl rfl) h74 ?_
  refine J_seg ok_X6_pass 142 1 (pc' := 239) (ls' := [(2, .inl (y1 + y0)), (0, .inr (.inr (.inl k0))), (1, .inl k1), (3, .inl x3)]) (st' := [.inr (.inr (.inl k0)), .inl v73, .inl (13 + x3), .inr (.inr (.inl v71))]) rfl ?_
  obtain ⟨v75, h76, h⟩ := Option.bind_eq_some_iff.mp h
  refine J_getR (jat ok_X6_pass 143 (pc := 239) (i := .getfield 50) (n := 3) rfl rfl) fl_RX6_50 h76 ?_
  refine J_seg ok_X6_pass 144 1 (pc' := 243) (ls' := [(2, .inl (y1 + y0)), (0, .inr (.inr (.inl k0))), (1, .inl k1), (3, .inl x3)]) (st' := [.inl x3, .inr (.inr (.inl v75)), .inl v73, .inl (13 + x3), .inr (.inr (.inl v71))]) rfl ?_
  obtain ⟨v77, h78, h⟩ := Option.bind_eq_some_iff.mp h
  refine J_iald (jat ok_X6_pass 145 (pc := 243) (i := .iaload) (n := 1) rfl rfl) h78 ?_
  refine J_seg ok_X6_pass 146 1 (pc' := 245) (ls' := [(2, .inl (y1 + y0)), (0, .inr (.inr (.inl k0))), (1, .inl k1), (3, .inl x3)]) (st' := [.inl 2, .inl v77, .inl v73, .inl (13 + x3), .inr (.inr (.inl v71))]) rfl ?_
  refine J_eq (jat ok_X6_pass 147 (pc := 245) (i := .if_icmp .eq 16) (n := 3) rfl rfl) (tgt := 261) (by decide) (fun c => ?_) (fun c => ?_)
  · have h := (if_pos c).symm.trans h
    refine J_sub (ls' := [(0, .inr (.inr (.inl k0))), (1, .inl k1), (2, .inl (y1 + y0)), (3, .inl x3)]) [1, 2, 0, 3] rfl ?_
    exact k_X6_pass_b152_j261 d _ _ h hR hX hN
  · have h := (if_neg c).symm.trans h
    refine J_seg ok_X6_pass 148 3 (pc' := 251) (ls' := [(2, .inl (y1 + y0)), (0, .inr (.inr (.inl k0))), (1, .inl k1), (3, .inl x3)]) (st' := [.inl k1, .inl x3, .inr (.inr (.inl k0)), .inl v73, .inl (13 + x3), .inr (.inr (.inl v71))]) rfl ?_
    by_cases c83 : qO ah k0 6 = true
    case neg => exact absurd ((if_neg c83).symm.trans h) (by simp)
    have h := (if_pos c83).symm.trans h
    obtain ⟨q81, h82, h⟩ := Option.bind_eq_some_iff.mp h
    refine J_callV (md' := md_X6_owes) (As := [.inl x3, .inl k1]) (st := [.inl v73, .inl (13 + x3), .inr (.inr (.inl v71))]) (cs' := (0, 0)) (st' := [.inl q81.1, .inl v73, .inl (13 + x3), .inr (.inr (.inl v71))]) (jat ok_X6_pass 151 (pc := 251) (i := .invokevirtual 189) (n := 3) rfl rfl) ml_RX6_189 yv_X6_owes c83 (c_X6_owes l g (d + 0) h82) (jRo_of (by decide)) (Nat.le_of_ble_eq_true rfl) ⟨Nat.le_of_ble_eq_true rfl, Nat.le_of_ble_eq_true rfl⟩ rfl rfl rfl ?_
    refine J_eq0 (jat ok_X6_pass 152 (pc := 254) (i := .ifCond .eq 7) (n := 3) rfl rfl) (tgt := 261) (by decide) (fun c => ?_) (fun c => ?_)
    · have h := (if_pos c).symm.trans h
      refine J_sub (ls' := [(0, .inr (.inr (.inl k0))), (1, .inl k1), (2, .inl (y1 + y0)), (3, .inl x3)]) [1, 2, 0, 3] rfl ?_
      exact k_X6_pass_b152_j261 d _ _ h hR hX hN
    · have h := (if_neg c).symm.trans h
      refine J_seg ok_X6_pass 153 2 (pc' := 262) (ls' := [(2, .inl (y1 + y0)), (0, .inr (.inr (.inl k0))), (1, .inl k1), (3, .inl x3)]) (st' := [.inl 1, .inl v73, .inl (13 + x3), .inr (.inr (.inl v71))]) rfl ?_
      refine J_sub (ls' := [(0, .inr (.inr (.inl k0))), (1, .inl k1), (2, .inl (y1 + y0)), (3, .inl x3)]) [1, 2, 0, 3] rfl ?_
      exact k_X6_pass_b152_j262 d _ _ h hR hX hN
def f_X6_pass_b152_j213 (k0 : Option Nat) (k1 : Int32) (x2 : Int32) (x3 : Int32) (x4 : Int32) (y0 : Int32) (y1 : Int32) (y2 : Int32) (y3 : Option Nat) (ah : AH) : Option ((Unit × AH) ⊕ (((Int32) × AH) ⊕ ((Int32 × Int32) × AH))) :=
  (sA ah y3 y2 (y1 ||| y0)).bind fun a69 => if x4 = 0 then (f_X6_pass_b152_j226 k0 k1 x3 0 x2 a69) else (f_X6_pass_b152_j226 k0 k1 x3 1 x2 a69)
set_option maxRecDepth 100000 in
set_option maxHeartbeats 4000000 in
theorem k_X6_pass_b152_j213 {l : Launch} {g : GX} (d : Nat) {Q : jQ} {k0 : Option Nat} {k1 : Int32} {x2 : Int32} {x3 : Int32} {x4 : Int32} {y0 : Int32} {y1 : Int32} {y2 : Int32} {y3 : Option Nat} (ah : AH) (out : (Unit × AH) ⊕ (((Int32) × AH) ⊕ ((Int32 × Int32) × AH))) (h : f_X6_pass_b152_j213 k0 k1 x2 x3 x4 y0 y1 y2 y3 ah = some out) (hR : ∀ q, out = .inl q → jRetN q.1 q.2) (hX : ∀ q, out = .inr (.inl q) → J l g md_X6_pass (jRm (d + 2) md_X6_pass) Q 270 [(2, .inl q.1)] [] q.2 (0, 0)) (hN : ∀ q, out = .inr (.inr q) → J l g md_X6_pass (jRm (d + 2) md_X6_pass) Q 152 [(0, .inr (.inr (.inl k0))), (1, .inl k1), (2, .inl q.1.1), (3, .inl q.1.2)] [] q.2 (0, 0)) : J l g md_X6_pass (jRm (d + 2) md_X6_pass) Q 213 [(0, .inr (.inr (.inl k0))), (1, .inl k1), (2, .inl x2), (3, .inl x3), (4, .inl x4)] [.inl y0, .inl y1, .inl y2, .inr (.inr (.inl y3))] ah (0, 0) := by
  unfold f_X6_pass_b152_j213 at h
  refine J_seg ok_X6_pass 125 1 (pc' := 214) (ls' := [(0, .inr (.inr (.inl k0))), (1, .inl k1), (2, .inl x2), (3, .inl x3), (4, .inl x4)]) (st' := [.inl (y1 ||| y0), .inl y2, .inr (.inr (.inl y3))]) rfl ?_
  obtain ⟨a69, h70, h⟩ := Option.bind_eq_some_iff.mp h
  refine J_iast (jat ok_X6_pass 126 (pc := 214) (i := .iastore) (n := 1) rfl rfl) h70 ?_
  refine J_seg ok_X6_pass 127 2 (pc' := 218) (ls' := [(0, .inr (.inr (.inl k0))), (1, .inl k1), (2, .inl x2), (3, .inl x3), (4, .inl x4)]) (st' := [.inl x4, .inl x2]) rfl ?_
  refine J_eq0 (jat ok_X6_pass 129 (pc := 218) (i := .ifCond .eq 7) (n := 3) rfl rfl) (tgt := 225) (by decide) (fun c => ?_) (fun c => ?_)
  · have h := (if_pos c).symm.trans h
    refine J_seg ok_X6_pass 132 1 (pc' := 226) (ls' := [(0, .inr (.inr (.inl k0))), (1, .inl k1), (2, .inl x2), (3, .inl x3), (4, .inl x4)]) (st' := [.inl 0, .inl x2]) rfl ?_
    refine J_sub (ls' := [(0, .inr (.inr (.inl k0))), (1, .inl k1), (3, .inl x3)]) [0, 1, 3] rfl ?_
    exact k_X6_pass_b152_j226 d _ _ h hR hX hN
  · have h := (if_neg c).symm.trans h
    refine J_seg ok_X6_pass 130 2 (pc' := 226) (ls' := [(0, .inr (.inr (.inl k0))), (1, .inl k1), (2, .inl x2), (3, .inl x3), (4, .inl x4)]) (st' := [.inl 1, .inl x2]) rfl ?_
    refine J_sub (ls' := [(0, .inr (.inr (.inl k0))), (1, .inl k1), (3, .inl x3)]) [0, 1, 3] rfl ?_
    exact k_X6_pass_b152_j226 d _ _ h hR hX hN
def f_X6_pass_b152_j191 (k0 : Option Nat) (k1 : Int32) (x2 : Int32) (x3 : Int32) (y0 : Int32) (ah : AH) : Option ((Unit × AH) ⊕ (((Int32) × AH) ⊕ ((Int32 × Int32) × AH))) :=
  (gR ah k0 6 0).bind fun v65 => (gA ah v65 19).bind fun v67 => if y0 = 0 then (f_X6_pass_b152_j213 k0 k1 x2 x3 y0 0 v67 19 v65 ah) else (f_X6_pass_b152_j213 k0 k1 x2 x3 y0 (1 <<< (x3 &&& 31)) v67 19 v65 ah)
set_option maxRecDepth 100000 in
set_option maxHeartbeats 4000000 in
theorem k_X6_pass_b152_j191 {l : Launch} {g : GX} (d : Nat) {Q : jQ} {k0 : Option Nat} {k1 : Int32} {x2 : Int32} {x3 : Int32} {y0 : Int32} (ah : AH) (out : (Unit × AH) ⊕ (((Int32) × AH) ⊕ ((Int32 × Int32) × AH))) (h : f_X6_pass_b152_j191 k0 k1 x2 x3 y0 ah = some out) (hR : ∀ q, out = .inl q → jRetN q.1 q.2) (hX : ∀ q, out = .inr (.inl q) → J l g md_X6_pass (jRm (d + 2) md_X6_pass) Q 270 [(2, .inl q.1)] [] q.2 (0, 0)) (hN : ∀ q, out = .inr (.inr q) → J l g md_X6_pass (jRm (d + 2) md_X6_pass) Q 152 [(0, .inr (.inr (.inl k0))), (1, .inl k1), (2, .inl q.1.1), (3, .inl q.1.2)] [] q.2 (0, 0)) : J l g md_X6_pass (jRm (d + 2) md_X6_pass) Q 191 [(0, .inr (.inr (.inl k0))), (1, .inl k1), (2, .inl x2), (3, .inl x3)] [.inl y0] ah (0, 0) := by
  unfold f_X6_pass_b152_j191 at h
  refine J_seg ok_X6_pass 112 2 (pc' := 194) (ls' := [(4, .inl y0), (0, .inr (.inr (.inl k0))), (1, .inl k1), (2, .inl x2), (3, .inl x3)]) (st' := [.inr (.inr (.inl k0))]) rfl ?_
  obtain ⟨v65, h66, h⟩ := Option.bind_eq_some_iff.mp h
  refine J_getR (jat ok_X6_pass 114 (pc := 194) (i := .getfield 7) (n := 3) rfl rfl) fl_RX6_7 h66 ?_
  refine J_seg ok_X6_pass 115 2 (pc' := 200) (ls' := [(4, .inl y0), (0, .inr (.inr (.inl k0))), (1, .inl k1), (2, .inl x2), (3, .inl x3)]) (st' := [.inl 19, .inr (.inr (.inl v65)), .inl 19, .inr (.inr (.inl v65))]) rfl ?_
  obtain ⟨v67, h68, h⟩ := Option.bind_eq_some_iff.mp h
  refine J_iald (jat ok_X6_pass 117 (pc := 200) (i := .iaload) (n := 1) rfl rfl) h68 ?_
  refine J_seg ok_X6_pass 118 1 (pc' := 203) (ls' := [(4, .inl y0), (0, .inr (.inr (.inl k0))), (1, .inl k1), (2, .inl x2), (3, .inl x3)]) (st' := [.inl y0, .inl v67, .inl 19, .inr (.inr (.inl v65))]) rfl ?_
  refine J_eq0 (jat ok_X6_pass 119 (pc := 203) (i := .ifCond .eq 9) (n := 3) rfl rfl) (tgt := 212) (by decide) (fun c => ?_) (fun c => ?_)
  · have h := (if_pos c).symm.trans h
    refine J_seg ok_X6_pass 124 1 (pc' := 213) (ls' := [(4, .inl y0), (0, .inr (.inr (.inl k0))), (1, .inl k1), (2, .inl x2), (3, .inl x3)]) (st' := [.inl 0, .inl v67, .inl 19, .inr (.inr (.inl v65))]) rfl ?_
    refine J_sub (ls' := [(0, .inr (.inr (.inl k0))), (1, .inl k1), (2, .inl x2), (3, .inl x3), (4, .inl y0)]) [1, 2, 3, 4, 0] rfl ?_
    exact k_X6_pass_b152_j213 d _ _ h hR hX hN
  · have h := (if_neg c).symm.trans h
    refine J_seg ok_X6_pass 120 4 (pc' := 213) (ls' := [(4, .inl y0), (0, .inr (.inr (.inl k0))), (1, .inl k1), (2, .inl x2), (3, .inl x3)]) (st' := [.inl (1 <<< (x3 &&& 31)), .inl v67, .inl 19, .inr (.inr (.inl v65))]) rfl ?_
    refine J_sub (ls' := [(0, .inr (.inr (.inl k0))), (1, .inl k1), (2, .inl x2), (3, .inl x3), (4, .inl y0)]) [1, 2, 3, 4, 0] rfl ?_
    exact k_X6_pass_b152_j213 d _ _ h hR hX hN
def f_X6_pass_b152_j190 (k0 : Option Nat) (k1 : Int32) (x2 : Int32) (x3 : Int32) (ah : AH) : Option ((Unit × AH) ⊕ (((Int32) × AH) ⊕ ((Int32 × Int32) × AH))) :=
  f_X6_pass_b152_j191 k0 k1 x2 x3 0 ah
set_option maxRecDepth 100000 in
set_option maxHeartbeats 4000000 in
theorem k_X6_pass_b152_j190 {l : Launch} {g : GX} (d : Nat) {Q : jQ} {k0 : Option Nat} {k1 : Int32} {x2 : Int32} {x3 : Int32} (ah : AH) (out : (Unit × AH) ⊕ (((Int32) × AH) ⊕ ((Int32 × Int32) × AH))) (h : f_X6_pass_b152_j190 k0 k1 x2 x3 ah = some out) (hR : ∀ q, out = .inl q → jRetN q.1 q.2) (hX : ∀ q, out = .inr (.inl q) → J l g md_X6_pass (jRm (d + 2) md_X6_pass) Q 270 [(2, .inl q.1)] [] q.2 (0, 0)) (hN : ∀ q, out = .inr (.inr q) → J l g md_X6_pass (jRm (d + 2) md_X6_pass) Q 152 [(0, .inr (.inr (.inl k0))), (1, .inl k1), (2, .inl q.1.1), (3, .inl q.1.2)] [] q.2 (0, 0)) : J l g md_X6_pass (jRm (d + 2) md_X6_pass) Q 190 [(0, .inr (.inr (.inl k0))), (1, .inl k1), (2, .inl x2), (3, .inl x3)] [] ah (0, 0) := by
  unfold f_X6_pass_b152_j190 at h
  refine J_seg ok_X6_pass 111 1 (pc' := 191) (ls' := [(0, .inr (.inr (.inl k0))), (1, .inl k1), (2, .inl x2), (3, .inl x3)]) (st' := [.inl 0]) rfl ?_
  refine J_sub (ls' := [(0, .inr (.inr (.inl k0))), (1, .inl k1), (2, .inl x2), (3, .inl x3)]) [0, 1, 2, 3] rfl ?_
  exact k_X6_pass_b152_j191 d _ _ h hR hX hN
def f_X6_pass_b152 (k0 : Option Nat) (k1 : Int32) (s152 : Int32 × Int32) (ah : AH) : Option ((Unit × AH) ⊕ (((Int32) × AH) ⊕ ((Int32 × Int32) × AH))) :=
  (gI ah k0 6 1).bind fun v61 => if v61 ≤ s152.2 then (some (.inr (.inl (s152.1, ah)))) else ((f_X6_has k1 s152.2 ah).bind fun q63 => if q63.1 = 0 then ((gR q63.2 k0 6 0).bind fun v84 => (gA q63.2 v84 (7 + s152.2)).bind fun v86 => (gR q63.2 k0 6 3).bind fun v88 => (gA q63.2 v88 s152.2).bind fun v90 => if v86 < v90 then (f_X6_pass_b152_j190 k0 k1 s152.1 s152.2 q63.2) else (f_X6_pass_b152_j191 k0 k1 s152.1 s152.2 1 q63.2)) else (f_X6_pass_b152_j190 k0 k1 s152.1 s152.2 q63.2))
set_option maxRecDepth 100000 in
set_option maxHeartbeats 4000000 in
theorem k_X6_pass_b152 {l : Launch} {g : GX} (d : Nat) {Q : jQ} {k0 : Option Nat} {k1 : Int32} (s152 : Int32 × Int32) (ah : AH) (out : (Unit × AH) ⊕ (((Int32) × AH) ⊕ ((Int32 × Int32) × AH))) (h : f_X6_pass_b152 k0 k1 s152 ah = some out) (hR : ∀ q, out = .inl q → jRetN q.1 q.2) (hX : ∀ q, out = .inr (.inl q) → J l g md_X6_pass (jRm (d + 2) md_X6_pass) Q 270 [(2, .inl q.1)] [] q.2 (0, 0)) (hN : ∀ q, out = .inr (.inr q) → J l g md_X6_pass (jRm (d + 2) md_X6_pass) Q 152 [(0, .inr (.inr (.inl k0))), (1, .inl k1), (2, .inl q.1.1), (3, .inl q.1.2)] [] q.2 (0, 0)) : J l g md_X6_pass (jRm (d + 2) md_X6_pass) Q 152 [(0, .inr (.inr (.inl k0))), (1, .inl k1), (2, .inl s152.1), (3, .inl s152.2)] [] ah (0, 0) := by
  unfold f_X6_pass_b152 at h
  refine J_seg ok_X6_pass 90 2 (pc' := 154) (ls' := [(0, .inr (.inr (.inl k0))), (1, .inl k1), (2, .inl s152.1), (3, .inl s152.2)]) (st' := [.inr (.inr (.inl k0)), .inl s152.2]) rfl ?_
  obtain ⟨v61, h62, h⟩ := Option.bind_eq_some_iff.mp h
  refine J_getI (jat ok_X6_pass 92 (pc := 154) (i := .getfield 148) (n := 3) rfl rfl) fl_RX6_148 h62 ?_
  refine J_ge (jat ok_X6_pass 93 (pc := 157) (i := .if_icmp .ge 113) (n := 3) rfl rfl) (tgt := 270) (by decide) (fun c => ?_) (fun c => ?_)
  · have h := (if_pos c).symm.trans h
    exact J_sub (ls' := [(2, .inl s152.1)]) [2] rfl (hX (s152.1, ah) (Option.some.inj h).symm)
  · have h := (if_neg c).symm.trans h
    refine J_seg ok_X6_pass 94 2 (pc' := 162) (ls' := [(0, .inr (.inr (.inl k0))), (1, .inl k1), (2, .inl s152.1), (3, .inl s152.2)]) (st' := [.inl s152.2, .inl k1]) rfl ?_
    obtain ⟨q63, h64, h⟩ := Option.bind_eq_some_iff.mp h
    refine J_callS (md' := md_X6_has) (As := [.inl k1, .inl s152.2]) (st := []) (cs' := (0, 0)) (st' := [.inl q63.1]) (jat ok_X6_pass 96 (pc := 162) (i := .invokestatic 128) (n := 3) rfl rfl) (Or.inl ml_RX6_128) ys_X6_has (c_X6_has l g (d + 1) h64) (jRo_of (by decide)) (Nat.le_of_ble_eq_true rfl) ⟨Nat.le_of_ble_eq_true rfl, Nat.le_of_ble_eq_true rfl⟩ rfl rfl rfl ?_
    refine J_ne0 (jat ok_X6_pass 97 (pc := 165) (i := .ifCond .ne 25) (n := 3) rfl rfl) (tgt := 190) (by decide) (fun c => ?_) (fun c => ?_)
    · have h := (if_neg c).symm.trans h
      refine J_sub (ls' := [(0, .inr (.inr (.inl k0))), (1, .inl k1), (2, .inl s152.1), (3, .inl s152.2)]) [0, 1, 2, 3] rfl ?_
      exact k_X6_pass_b152_j190 d _ _ h hR hX hN
    · have h := (if_pos c).symm.trans h
      refine J_seg ok_X6_pass 98 1 (pc' := 169) (ls' := [(0, .inr (.inr (.inl k0))), (1, .inl k1), (2, .inl s152.1), (3, .inl s152.2)]) (st' := [.inr (.inr (.inl k0))]) rfl ?_
      obtain ⟨v84, h85, h⟩ := Option.bind_eq_some_iff.mp h
      refine J_getR (jat ok_X6_pass 99 (pc := 169) (i := .getfield 7) (n := 3) rfl rfl) fl_RX6_7 h85 ?_
      refine J_seg ok_X6_pass 100 3 (pc' := 176) (ls' := [(0, .inr (.inr (.inl k0))), (1, .inl k1), (2, .inl s152.1), (3, .inl s152.2)]) (st' := [.inl (7 + s152.2), .inr (.inr (.inl v84))]) rfl ?_
      obtain ⟨v86, h87, h⟩ := Option.bind_eq_some_iff.mp h
      refine J_iald (jat ok_X6_pass 103 (pc := 176) (i := .iaload) (n := 1) rfl rfl) h87 ?_
      refine J_seg ok_X6_pass 104 1 (pc' := 178) (ls' := [(0, .inr (.inr (.inl k0))), (1, .inl k1), (2, .inl s152.1), (3, .inl s152.2)]) (st' := [.inr (.inr (.inl k0)), .inl v86]) rfl ?_
      obtain ⟨v88, h89, h⟩ := Option.bind_eq_some_iff.mp h
      refine J_getR (jat ok_X6_pass 105 (pc := 178) (i := .getfield 16) (n := 3) rfl rfl) fl_RX6_16 h89 ?_
      refine J_seg ok_X6_pass 106 1 (pc' := 182) (ls' := [(0, .inr (.inr (.inl k0))), (1, .inl k1), (2, .inl s152.1), (3, .inl s152.2)]) (st' := [.inl s152.2, .inr (.inr (.inl v88)), .inl v86]) rfl ?_
      obtain ⟨v90, h91, h⟩ := Option.bind_eq_some_iff.mp h
      refine J_iald (jat ok_X6_pass 107 (pc := 182) (i := .iaload) (n := 1) rfl rfl) h91 ?_
      refine J_lt (jat ok_X6_pass 108 (pc := 183) (i := .if_icmp .lt 7) (n := 3) rfl rfl) (tgt := 190) (by decide) (fun c => ?_) (fun c => ?_)
      · have h := (if_pos c).symm.trans h
        refine J_sub (ls' := [(0, .inr (.inr (.inl k0))), (1, .inl k1), (2, .inl s152.1), (3, .inl s152.2)]) [0, 1, 2, 3] rfl ?_
        exact k_X6_pass_b152_j190 d _ _ h hR hX hN
      · have h := (if_neg c).symm.trans h
        refine J_seg ok_X6_pass 109 2 (pc' := 191) (ls' := [(0, .inr (.inr (.inl k0))), (1, .inl k1), (2, .inl s152.1), (3, .inl s152.2)]) (st' := [.inl 1]) rfl ?_
        refine J_sub (ls' := [(0, .inr (.inr (.inl k0))), (1, .inl k1), (2, .inl s152.1), (3, .inl s152.2)]) [0, 1, 2, 3] rfl ?_
        exact k_X6_pass_b152_j191 d _ _ h hR hX hN
def f_X6_pass (x0 : Option Nat) (ah : AH) : Option (Int32 × AH) :=
  if qO ah x0 6 = true then ((f_X6_keepPast x0 ah).bind fun q1 => (gR q1.2 x0 6 0).bind fun v4 => (gA q1.2 v4 19).bind fun v6 => (jloop (f_X6_pass_b14 x0 v6) jfuel 0 q1.2).bind fun q22 => match q22 with | .inl r => none | .inr z24 => (jloop (f_X6_pass_b65 x0 v6) jfuel 0 z24.2).bind fun q57 => match q57 with | .inl r => none | .inr z59 => (jloop (f_X6_pass_b152 x0 v6) jfuel (0, 0) z59.2).bind fun q92 => match q92 with | .inl r => none | .inr z94 => some (z94.1, z94.2)) else none
set_option maxRecDepth 100000 in
set_option maxHeartbeats 4000000 in
theorem k_X6_pass {l : Launch} {g : GX} (d : Nat) {Q : jQ} {x0 : Option Nat} (ah : AH) (out : Int32 × AH) (h : f_X6_pass x0 ah = some out) (hR : jRetI l g md_X6_pass (jRm (d + 2) md_X6_pass) Q (0, 0) out.1 out.2) : J l g md_X6_pass (jRm (d + 2) md_X6_pass) Q 0 [(0, .inr (.inr (.inl x0)))] [] ah (0, 0) := by
  unfold f_X6_pass at h
  refine J_seg ok_X6_pass 0 1 (pc' := 1) (ls' := [(0, .inr (.inr (.inl x0)))]) (st' := [.inr (.inr (.inl x0))]) rfl ?_
  by_cases c3 : qO ah x0 6 = true
  case neg => exact absurd ((if_neg c3).symm.trans h) (by simp)
  have h := (if_pos c3).symm.trans h
  obtain ⟨q1, h2, h⟩ := Option.bind_eq_some_iff.mp h
  refine J_callV (md' := md_X6_keepPast) (As := []) (st := []) (cs' := (0, 0)) (st' := []) (jat ok_X6_pass 1 (pc := 1) (i := .invokevirtual 195) (n := 3) rfl rfl) ml_RX6_195 yv_X6_keepPast c3 (c_X6_keepPast l g (d + 1) h2) (jRo_of (by decide)) (Nat.le_of_ble_eq_true rfl) ⟨Nat.le_of_ble_eq_true rfl, Nat.le_of_ble_eq_true rfl⟩ rfl rfl rfl ?_
  refine J_seg ok_X6_pass 2 1 (pc' := 5) (ls' := [(0, .inr (.inr (.inl x0)))]) (st' := [.inr (.inr (.inl x0))]) rfl ?_
  obtain ⟨v4, h5, h⟩ := Option.bind_eq_some_iff.mp h
  refine J_getR (jat ok_X6_pass 3 (pc := 5) (i := .getfield 7) (n := 3) rfl rfl) fl_RX6_7 h5 ?_
  refine J_seg ok_X6_pass 4 1 (pc' := 10) (ls' := [(0, .inr (.inr (.inl x0)))]) (st' := [.inl 19, .inr (.inr (.inl v4))]) rfl ?_
  obtain ⟨v6, h7, h⟩ := Option.bind_eq_some_iff.mp h
  refine J_iald (jat ok_X6_pass 5 (pc := 10) (i := .iaload) (n := 1) rfl rfl) h7 ?_
  refine J_seg ok_X6_pass 6 3 (pc' := 14) (ls' := [(2, .inl 0), (1, .inl v6), (0, .inr (.inr (.inl x0)))]) (st' := []) rfl ?_
  obtain ⟨q22, h23, h⟩ := Option.bind_eq_some_iff.mp h
  refine J_sub (ls' := [(0, .inr (.inr (.inl x0))), (1, .inl v6), (2, .inl 0)]) [2, 1, 0] rfl ?_
  refine J_loop (pE := 63) (lh := fun t25 => [(0, .inr (.inr (.inl x0))), (1, .inl v6), (2, .inl t25)]) (lx := fun z24 => [(0, .inr (.inr (.inl x0))), (1, .inl v6)]) (P := jRetN) (fun s ah out hb hR hX hN => k_X6_pass_b14 d s ah out hb hR hX hN) jfuel 0 _ _ h23 (fun r e => ?_) (fun z24 e => ?_)
  · subst e
    dsimp only at h
    cases h
  · subst e
    dsimp only at h
    refine J_seg ok_X6_pass 37 2 (pc' := 65) (ls' := [(2, .inl 0), (0, .inr (.inr (.inl x0))), (1, .inl v6)]) (st' := []) rfl ?_
    obtain ⟨q57, h58, h⟩ := Option.bind_eq_some_iff.mp h
    refine J_sub (ls' := [(0, .inr (.inr (.inl x0))), (1, .inl v6), (2, .inl 0)]) [1, 2, 0] rfl ?_
    refine J_loop (pE := 148) (lh := fun t60 => [(0, .inr (.inr (.inl x0))), (1, .inl v6), (2, .inl t60)]) (lx := fun z59 => [(0, .inr (.inr (.inl x0))), (1, .inl v6)]) (P := jRetN) (fun s ah out hb hR hX hN => k_X6_pass_b65 d s ah out hb hR hX hN) jfuel 0 _ _ h58 (fun r e => ?_) (fun z59 e => ?_)
    · subst e
      dsimp only at h
      cases h
    · subst e
      dsimp only at h
      refine J_seg ok_X6_pass 86 4 (pc' := 152) (ls' := [(3, .inl 0), (2, .inl 0), (0, .inr (.inr (.inl x0))), (1, .inl v6)]) (st' := []) rfl ?_
      obtain ⟨q92, h93, h⟩ := Option.bind_eq_some_iff.mp h
      refine J_sub (ls' := [(0, .inr (.inr (.inl x0))), (1, .inl v6), (2, .inl 0), (3, .inl 0)]) [2, 3, 1, 0] rfl ?_
      refine J_loop (pE := 270) (lh := fun t95 => [(0, .inr (.inr (.inl x0))), (1, .inl v6), (2, .inl t95.1), (3, .inl t95.2)]) (lx := fun z94 => [(2, .inl z94)]) (P := jRetN) (fun s ah out hb hR hX hN => k_X6_pass_b152 d s ah out hb hR hX hN) jfuel (0, 0) _ _ h93 (fun r e => ?_) (fun z94 e => ?_)
      · subst e
        dsimp only at h
        cases h
      · subst e
        dsimp only at h
        refine J_seg ok_X6_pass 160 1 (pc' := 271) (ls' := [(2, .inl z94.1)]) (st' := [.inl z94.1]) rfl ?_
        have h := Option.some.inj h
        subst h
        exact hR _ _ (jat ok_X6_pass 161 (pc := 271) (i := .ireturn) (n := 1) rfl rfl)
theorem c_X6_pass (l : Launch) (g : GX) (d : Nat) {x0 : Option Nat} {ah : AH} {q : Int32 × AH} (h : f_X6_pass x0 ah = some q) : jM l g (d + 2) md_X6_pass [.inr (.inr (.inl x0))] ah (some (.inl q.1)) q.2 :=
  jM_of (by decide) (Nat.le_of_ble_eq_true rfl) (k_X6_pass d ah q h (fun pc ls hd => J_reti hd rfl (jPV_int _) rfl (Nat.le_refl _) rfl rfl))
