def f_X5_isWish_j95 (x5 : Int32) (y0 : Int32) (ah : AH) : Option (Int32 × AH) :=
  if 0 < x5 then (some (0, ah)) else (if 0 < y0 then (some (0, ah)) else (if 0 ≤ (x5 + y0) then (some (0, ah)) else (some (1, ah))))
set_option maxRecDepth 100000 in
set_option maxHeartbeats 4000000 in
theorem k_X5_isWish_j95 {l : Launch} {g : GX} (d : Nat) {Q : jQ} {x5 : Int32} {y0 : Int32} (ah : AH) (out : Int32 × AH) (h : f_X5_isWish_j95 x5 y0 ah = some out) (hR : jRetZ l g md_X5_isWish (jRm (d + 5) md_X5_isWish) Q (0, 0) out.1 out.2) : J l g md_X5_isWish (jRm (d + 5) md_X5_isWish) Q 95 [(5, .inl x5)] [.inl y0] ah (0, 0) := by
  unfold f_X5_isWish_j95 at h
  refine J_seg ok_X5_isWish 51 2 (pc' := 99) (ls' := [(6, .inl y0), (5, .inl x5)]) (st' := [.inl x5]) rfl ?_
  refine J_gt0 (jat ok_X5_isWish 53 (pc := 99) (i := .ifCond .gt 20) (n := 3) rfl rfl) (tgt := 119) (by decide) (fun c => ?_) (fun c => ?_)
  · have h := (if_pos c).symm.trans h
    refine J_seg ok_X5_isWish 62 1 (pc' := 120) (ls' := [(6, .inl y0), (5, .inl x5)]) (st' := [.inl 0]) rfl ?_
    have h := Option.some.inj h
    subst h
    exact hR _ _ (jat ok_X5_isWish 63 (pc := 120) (i := .ireturn) (n := 1) rfl rfl) (Or.inl rfl)
  · have h := (if_neg c).symm.trans h
    refine J_seg ok_X5_isWish 54 1 (pc' := 104) (ls' := [(6, .inl y0), (5, .inl x5)]) (st' := [.inl y0]) rfl ?_
    refine J_gt0 (jat ok_X5_isWish 55 (pc := 104) (i := .ifCond .gt 15) (n := 3) rfl rfl) (tgt := 119) (by decide) (fun c => ?_) (fun c => ?_)
    · have h := (if_pos c).symm.trans h
      refine J_seg ok_X5_isWish 62 1 (pc' := 120) (ls' := [(6, .inl y0), (5, .inl x5)]) (st' := [.inl 0]) rfl ?_
      have h := Option.some.inj h
      subst h
      exact hR _ _ (jat ok_X5_isWish 63 (pc := 120) (i := .ireturn) (n := 1) rfl rfl) (Or.inl rfl)
    · have h := (if_neg c).symm.trans h
      refine J_seg ok_X5_isWish 56 3 (pc' := 112) (ls' := [(6, .inl y0), (5, .inl x5)]) (st' := [.inl (x5 + y0)]) rfl ?_
      refine J_ge0 (jat ok_X5_isWish 59 (pc := 112) (i := .ifCond .ge 7) (n := 3) rfl rfl) (tgt := 119) (by decide) (fun c => ?_) (fun c => ?_)
      · have h := (if_pos c).symm.trans h
        refine J_seg ok_X5_isWish 62 1 (pc' := 120) (ls' := [(6, .inl y0), (5, .inl x5)]) (st' := [.inl 0]) rfl ?_
        have h := Option.some.inj h
        subst h
        exact hR _ _ (jat ok_X5_isWish 63 (pc := 120) (i := .ireturn) (n := 1) rfl rfl) (Or.inl rfl)
      · have h := (if_neg c).symm.trans h
        refine J_seg ok_X5_isWish 60 2 (pc' := 120) (ls' := [(6, .inl y0), (5, .inl x5)]) (st' := [.inl 1]) rfl ?_
        have h := Option.some.inj h
        subst h
        exact hR _ _ (jat ok_X5_isWish 63 (pc := 120) (i := .ireturn) (n := 1) rfl rfl) (Or.inr rfl)
def f_X5_isWish_j61 (x0 : Option Nat) (x1 : Int32) (x2 : Int32) (x4 : Int32) (y0 : Int32) (ah : AH) : Option (Int32 × AH) :=
  if x4 = (-9) then (f_X5_isWish_j95 y0 0 ah) else ((gR ah x0 5 8).bind fun v21 => if qO ah v21 1 = true then ((f_X1_against v21 x1 x4 ah).bind fun q23 => (gR q23.2 x0 5 8).bind fun v26 => if qO q23.2 v26 1 = true then ((f_X1_against v26 x2 x4 q23.2).bind fun q28 => f_X5_isWish_j95 y0 (q23.1 - q28.1) q28.2) else none) else none)
set_option maxRecDepth 100000 in
set_option maxHeartbeats 4000000 in
theorem k_X5_isWish_j61 {l : Launch} {g : GX} (d : Nat) {Q : jQ} {x0 : Option Nat} {x1 : Int32} {x2 : Int32} {x4 : Int32} {y0 : Int32} (ah : AH) (out : Int32 × AH) (h : f_X5_isWish_j61 x0 x1 x2 x4 y0 ah = some out) (hR : jRetZ l g md_X5_isWish (jRm (d + 5) md_X5_isWish) Q (0, 0) out.1 out.2) : J l g md_X5_isWish (jRm (d + 5) md_X5_isWish) Q 61 [(0, .inr (.inr (.inl x0))), (1, .inl x1), (2, .inl x2), (4, .inl x4)] [.inl y0] ah (0, 0) := by
  unfold f_X5_isWish_j61 at h
  refine J_seg ok_X5_isWish 34 3 (pc' := 67) (ls' := [(5, .inl y0), (0, .inr (.inr (.inl x0))), (1, .inl x1), (2, .inl x2), (4, .inl x4)]) (st' := [.inl (-9), .inl x4]) rfl ?_
  refine J_ne (jat ok_X5_isWish 37 (pc := 67) (i := .if_icmp .ne 7) (n := 3) rfl rfl) (tgt := 74) (by decide) (fun c => ?_) (fun c => ?_)
  · have h := (if_neg c).symm.trans h
    refine J_seg ok_X5_isWish 40 1 (pc' := 75) (ls' := [(5, .inl y0), (0, .inr (.inr (.inl x0))), (1, .inl x1), (2, .inl x2), (4, .inl x4)]) (st' := [.inr (.inr (.inl x0))]) rfl ?_
    obtain ⟨v21, h22, h⟩ := Option.bind_eq_some_iff.mp h
    refine J_getR (jat ok_X5_isWish 41 (pc := 75) (i := .getfield 53) (n := 3) rfl rfl) fl_RX5_53 h22 ?_
    refine J_seg ok_X5_isWish 42 2 (pc' := 81) (ls' := [(5, .inl y0), (0, .inr (.inr (.inl x0))), (1, .inl x1), (2, .inl x2), (4, .inl x4)]) (st' := [.inl x4, .inl x1, .inr (.inr (.inl v21))]) rfl ?_
    by_cases c25 : qO ah v21 1 = true
    case neg => exact absurd ((if_neg c25).symm.trans h) (by simp)
    have h := (if_pos c25).symm.trans h
    obtain ⟨q23, h24, h⟩ := Option.bind_eq_some_iff.mp h
    refine J_callV (md' := md_X1_against) (As := [.inl x1, .inl x4]) (st := []) (cs' := (0, 0)) (st' := [.inl q23.1]) (jat ok_X5_isWish 44 (pc := 81) (i := .invokevirtual 162) (n := 3) rfl rfl) ml_RX5_162 yv_X1_against c25 (c_X1_against l g (d + 0) h24) (jRo_of (by decide)) (Nat.le_of_ble_eq_true rfl) ⟨Nat.le_of_ble_eq_true rfl, Nat.le_of_ble_eq_true rfl⟩ rfl rfl rfl ?_
    refine J_seg ok_X5_isWish 45 1 (pc' := 85) (ls' := [(5, .inl y0), (0, .inr (.inr (.inl x0))), (1, .inl x1), (2, .inl x2), (4, .inl x4)]) (st' := [.inr (.inr (.inl x0)), .inl q23.1]) rfl ?_
    obtain ⟨v26, h27, h⟩ := Option.bind_eq_some_iff.mp h
    refine J_getR (jat ok_X5_isWish 46 (pc := 85) (i := .getfield 53) (n := 3) rfl rfl) fl_RX5_53 h27 ?_
    refine J_seg ok_X5_isWish 47 2 (pc' := 91) (ls' := [(5, .inl y0), (0, .inr (.inr (.inl x0))), (1, .inl x1), (2, .inl x2), (4, .inl x4)]) (st' := [.inl x4, .inl x2, .inr (.inr (.inl v26)), .inl q23.1]) rfl ?_
    by_cases c30 : qO q23.2 v26 1 = true
    case neg => exact absurd ((if_neg c30).symm.trans h) (by simp)
    have h := (if_pos c30).symm.trans h
    obtain ⟨q28, h29, h⟩ := Option.bind_eq_some_iff.mp h
    refine J_callV (md' := md_X1_against) (As := [.inl x2, .inl x4]) (st := [.inl q23.1]) (cs' := (0, 0)) (st' := [.inl q28.1, .inl q23.1]) (jat ok_X5_isWish 49 (pc := 91) (i := .invokevirtual 162) (n := 3) rfl rfl) ml_RX5_162 yv_X1_against c30 (c_X1_against l g (d + 0) h29) (jRo_of (by decide)) (Nat.le_of_ble_eq_true rfl) ⟨Nat.le_of_ble_eq_true rfl, Nat.le_of_ble_eq_true rfl⟩ rfl rfl rfl ?_
    refine J_seg ok_X5_isWish 50 1 (pc' := 95) (ls' := [(5, .inl y0), (0, .inr (.inr (.inl x0))), (1, .inl x1), (2, .inl x2), (4, .inl x4)]) (st' := [.inl (q23.1 - q28.1)]) rfl ?_
    refine J_sub (ls' := [(5, .inl y0)]) [0] rfl ?_
    exact k_X5_isWish_j95 d _ _ h hR
  · have h := (if_pos c).symm.trans h
    refine J_seg ok_X5_isWish 38 2 (pc' := 95) (ls' := [(5, .inl y0), (0, .inr (.inr (.inl x0))), (1, .inl x1), (2, .inl x2), (4, .inl x4)]) (st' := [.inl 0]) rfl ?_
    refine J_sub (ls' := [(5, .inl y0)]) [0] rfl ?_
    exact k_X5_isWish_j95 d _ _ h hR
def f_X5_isWish (x0 : Option Nat) (x1 : Int32) (x2 : Int32) (ah : AH) : Option (Int32 × AH) :=
  (gR ah x0 5 3).bind fun v1 => if qO ah v1 4 = true then ((f_X4_victimOf v1 x1 ah).bind fun q3 => (gR q3.2 x0 5 3).bind fun v6 => if qO q3.2 v6 4 = true then ((f_X4_victimOf v6 x2 q3.2).bind fun q8 => if q3.1 = x2 then (some (0, q8.2)) else (if q8.1 = x1 then (some (0, q8.2)) else (if q3.1 = (-9) then (f_X5_isWish_j61 x0 x1 x2 q8.1 0 q8.2) else ((gR q8.2 x0 5 8).bind fun v11 => if qO q8.2 v11 1 = true then ((f_X1_against v11 x2 q3.1 q8.2).bind fun q13 => (gR q13.2 x0 5 8).bind fun v16 => if qO q13.2 v16 1 = true then ((f_X1_against v16 x1 q3.1 q13.2).bind fun q18 => f_X5_isWish_j61 x0 x1 x2 q8.1 (q13.1 - q18.1) q18.2) else none) else none)))) else none) else none
set_option maxRecDepth 100000 in
set_option maxHeartbeats 4000000 in
theorem k_X5_isWish {l : Launch} {g : GX} (d : Nat) {Q : jQ} {x0 : Option Nat} {x1 : Int32} {x2 : Int32} (ah : AH) (out : Int32 × AH) (h : f_X5_isWish x0 x1 x2 ah = some out) (hR : jRetZ l g md_X5_isWish (jRm (d + 5) md_X5_isWish) Q (0, 0) out.1 out.2) : J l g md_X5_isWish (jRm (d + 5) md_X5_isWish) Q 0 [(0, .inr (.inr (.inl x0))), (1, .inl x1), (2, .inl x2)] [] ah (0, 0) := by
  unfold f_X5_isWish at h
  refine J_seg ok_X5_isWish 0 1 (pc' := 1) (ls' := [(0, .inr (.inr (.inl x0))), (1, .inl x1), (2, .inl x2)]) (st' := [.inr (.inr (.inl x0))]) rfl ?_
  obtain ⟨v1, h2, h⟩ := Option.bind_eq_some_iff.mp h
  refine J_getR (jat ok_X5_isWish 1 (pc := 1) (i := .getfield 28) (n := 3) rfl rfl) fl_RX5_28 h2 ?_
  refine J_seg ok_X5_isWish 2 1 (pc' := 5) (ls' := [(0, .inr (.inr (.inl x0))), (1, .inl x1), (2, .inl x2)]) (st' := [.inl x1, .inr (.inr (.inl v1))]) rfl ?_
  by_cases c5 : qO ah v1 4 = true
  case neg => exact absurd ((if_neg c5).symm.trans h) (by simp)
  have h := (if_pos c5).symm.trans h
  obtain ⟨q3, h4, h⟩ := Option.bind_eq_some_iff.mp h
  refine J_callV (md' := md_X4_victimOf) (As := [.inl x1]) (st := []) (cs' := (0, 0)) (st' := [.inl q3.1]) (jat ok_X5_isWish 3 (pc := 5) (i := .invokevirtual 178) (n := 3) rfl rfl) ml_RX5_178 yv_X4_victimOf c5 (c_X4_victimOf l g (d + 3) h4) (jRo_of (by decide)) (Nat.le_of_ble_eq_true rfl) ⟨Nat.le_of_ble_eq_true rfl, Nat.le_of_ble_eq_true rfl⟩ rfl rfl rfl ?_
  refine J_seg ok_X5_isWish 4 2 (pc' := 10) (ls' := [(3, .inl q3.1), (0, .inr (.inr (.inl x0))), (1, .inl x1), (2, .inl x2)]) (st' := [.inr (.inr (.inl x0))]) rfl ?_
  obtain ⟨v6, h7, h⟩ := Option.bind_eq_some_iff.mp h
  refine J_getR (jat ok_X5_isWish 6 (pc := 10) (i := .getfield 28) (n := 3) rfl rfl) fl_RX5_28 h7 ?_
  refine J_seg ok_X5_isWish 7 1 (pc' := 14) (ls' := [(3, .inl q3.1), (0, .inr (.inr (.inl x0))), (1, .inl x1), (2, .inl x2)]) (st' := [.inl x2, .inr (.inr (.inl v6))]) rfl ?_
  by_cases c10 : qO q3.2 v6 4 = true
  case neg => exact absurd ((if_neg c10).symm.trans h) (by simp)
  have h := (if_pos c10).symm.trans h
  obtain ⟨q8, h9, h⟩ := Option.bind_eq_some_iff.mp h
  refine J_callV (md' := md_X4_victimOf) (As := [.inl x2]) (st := []) (cs' := (0, 0)) (st' := [.inl q8.1]) (jat ok_X5_isWish 8 (pc := 14) (i := .invokevirtual 178) (n := 3) rfl rfl) ml_RX5_178 yv_X4_victimOf c10 (c_X4_victimOf l g (d + 3) h9) (jRo_of (by decide)) (Nat.le_of_ble_eq_true rfl) ⟨Nat.le_of_ble_eq_true rfl, Nat.le_of_ble_eq_true rfl⟩ rfl rfl rfl ?_
  refine J_seg ok_X5_isWish 9 3 (pc' := 21) (ls' := [(4, .inl q8.1), (3, .inl q3.1), (0, .inr (.inr (.inl x0))), (1, .inl x1), (2, .inl x2)]) (st' := [.inl x2, .inl q3.1]) rfl ?_
  refine J_eq (jat ok_X5_isWish 12 (pc := 21) (i := .if_icmp .eq 9) (n := 3) rfl rfl) (tgt := 30) (by decide) (fun c => ?_) (fun c => ?_)
  · have h := (if_pos c).symm.trans h
    refine J_seg ok_X5_isWish 16 1 (pc' := 31) (ls' := [(4, .inl q8.1), (3, .inl q3.1), (0, .inr (.inr (.inl x0))), (1, .inl x1), (2, .inl x2)]) (st' := [.inl 0]) rfl ?_
    have h := Option.some.inj h
    subst h
    exact hR _ _ (jat ok_X5_isWish 17 (pc := 31) (i := .ireturn) (n := 1) rfl rfl) (Or.inl rfl)
  · have h := (if_neg c).symm.trans h
    refine J_seg ok_X5_isWish 13 2 (pc' := 27) (ls' := [(4, .inl q8.1), (3, .inl q3.1), (0, .inr (.inr (.inl x0))), (1, .inl x1), (2, .inl x2)]) (st' := [.inl x1, .inl q8.1]) rfl ?_
    refine J_ne (jat ok_X5_isWish 15 (pc := 27) (i := .if_icmp .ne 5) (n := 3) rfl rfl) (tgt := 32) (by decide) (fun c => ?_) (fun c => ?_)
    · have h := (if_neg c).symm.trans h
      refine J_seg ok_X5_isWish 18 2 (pc' := 35) (ls' := [(4, .inl q8.1), (3, .inl q3.1), (0, .inr (.inr (.inl x0))), (1, .inl x1), (2, .inl x2)]) (st' := [.inl (-9), .inl q3.1]) rfl ?_
      refine J_ne (jat ok_X5_isWish 20 (pc := 35) (i := .if_icmp .ne 7) (n := 3) rfl rfl) (tgt := 42) (by decide) (fun c => ?_) (fun c => ?_)
      · have h := (if_neg c).symm.trans h
        refine J_seg ok_X5_isWish 23 1 (pc' := 43) (ls' := [(4, .inl q8.1), (3, .inl q3.1), (0, .inr (.inr (.inl x0))), (1, .inl x1), (2, .inl x2)]) (st' := [.inr (.inr (.inl x0))]) rfl ?_
        obtain ⟨v11, h12, h⟩ := Option.bind_eq_some_iff.mp h
        refine J_getR (jat ok_X5_isWish 24 (pc := 43) (i := .getfield 53) (n := 3) rfl rfl) fl_RX5_53 h12 ?_
        refine J_seg ok_X5_isWish 25 2 (pc' := 48) (ls' := [(4, .inl q8.1), (3, .inl q3.1), (0, .inr (.inr (.inl x0))), (1, .inl x1), (2, .inl x2)]) (st' := [.inl q3.1, .inl x2, .inr (.inr (.inl v11))]) rfl ?_
        by_cases c15 : qO q8.2 v11 1 = true
        case neg => exact absurd ((if_neg c15).symm.trans h) (by simp)
        have h := (if_pos c15).symm.trans h
        obtain ⟨q13, h14, h⟩ := Option.bind_eq_some_iff.mp h
        refine J_callV (md' := md_X1_against) (As := [.inl x2, .inl q3.1]) (st := []) (cs' := (0, 0)) (st' := [.inl q13.1]) (jat ok_X5_isWish 27 (pc := 48) (i := .invokevirtual 162) (n := 3) rfl rfl) ml_RX5_162 yv_X1_against c15 (c_X1_against l g (d + 0) h14) (jRo_of (by decide)) (Nat.le_of_ble_eq_true rfl) ⟨Nat.le_of_ble_eq_true rfl, Nat.le_of_ble_eq_true rfl⟩ rfl rfl rfl ?_
        refine J_seg ok_X5_isWish 28 1 (pc' := 52) (ls' := [(4, .inl q8.1), (3, .inl q3.1), (0, .inr (.inr (.inl x0))), (1, .inl x1), (2, .inl x2)]) (st' := [.inr (.inr (.inl x0)), .inl q13.1]) rfl ?_
        obtain ⟨v16, h17, h⟩ := Option.bind_eq_some_iff.mp h
        refine J_getR (jat ok_X5_isWish 29 (pc := 52) (i := .getfield 53) (n := 3) rfl rfl) fl_RX5_53 h17 ?_
        refine J_seg ok_X5_isWish 30 2 (pc' := 57) (ls' := [(4, .inl q8.1), (3, .inl q3.1), (0, .inr (.inr (.inl x0))), (1, .inl x1), (2, .inl x2)]) (st' := [.inl q3.1, .inl x1, .inr (.inr (.inl v16)), .inl q13.1]) rfl ?_
        by_cases c20 : qO q13.2 v16 1 = true
        case neg => exact absurd ((if_neg c20).symm.trans h) (by simp)
        have h := (if_pos c20).symm.trans h
        obtain ⟨q18, h19, h⟩ := Option.bind_eq_some_iff.mp h
        refine J_callV (md' := md_X1_against) (As := [.inl x1, .inl q3.1]) (st := [.inl q13.1]) (cs' := (0, 0)) (st' := [.inl q18.1, .inl q13.1]) (jat ok_X5_isWish 32 (pc := 57) (i := .invokevirtual 162) (n := 3) rfl rfl) ml_RX5_162 yv_X1_against c20 (c_X1_against l g (d + 0) h19) (jRo_of (by decide)) (Nat.le_of_ble_eq_true rfl) ⟨Nat.le_of_ble_eq_true rfl, Nat.le_of_ble_eq_true rfl⟩ rfl rfl rfl ?_
        refine J_seg ok_X5_isWish 33 1 (pc' := 61) (ls' := [(4, .inl q8.1), (3, .inl q3.1), (0, .inr (.inr (.inl x0))), (1, .inl x1), (2, .inl x2)]) (st' := [.inl (q13.1 - q18.1)]) rfl ?_
        refine J_sub (ls' := [(0, .inr (.inr (.inl x0))), (1, .inl x1), (2, .inl x2), (4, .inl q8.1)]) [2, 3, 4, 0] rfl ?_
        exact k_X5_isWish_j61 d _ _ h hR
      · have h := (if_pos c).symm.trans h
        refine J_seg ok_X5_isWish 21 2 (pc' := 61) (ls' := [(4, .inl q8.1), (3, .inl q3.1), (0, .inr (.inr (.inl x0))), (1, .inl x1), (2, .inl x2)]) (st' := [.inl 0]) rfl ?_
        refine J_sub (ls' := [(0, .inr (.inr (.inl x0))), (1, .inl x1), (2, .inl x2), (4, .inl q8.1)]) [2, 3, 4, 0] rfl ?_
        exact k_X5_isWish_j61 d _ _ h hR
    · have h := (if_pos c).symm.trans h
      refine J_seg ok_X5_isWish 16 1 (pc' := 31) (ls' := [(4, .inl q8.1), (3, .inl q3.1), (0, .inr (.inr (.inl x0))), (1, .inl x1), (2, .inl x2)]) (st' := [.inl 0]) rfl ?_
      have h := Option.some.inj h
      subst h
      exact hR _ _ (jat ok_X5_isWish 17 (pc := 31) (i := .ireturn) (n := 1) rfl rfl) (Or.inl rfl)
theorem c_X5_isWish (l : Launch) (g : GX) (d : Nat) {x0 : Option Nat} {x1 : Int32} {x2 : Int32} {ah : AH} {q : Int32 × AH} (h : f_X5_isWish x0 x1 x2 ah = some q) : jM l g (d + 5) md_X5_isWish [.inr (.inr (.inl x0)), .inl x1, .inl x2] ah (some (.inl q.1)) q.2 :=
  jM_of (by decide) (Nat.le_of_ble_eq_true rfl) (k_X5_isWish d ah q h (fun pc ls hd c => J_reti hd rfl (jPV_z c) rfl (Nat.le_refl _) rfl rfl))
def f_X5_wishes_b36 (k0 : Option Nat) (k3 : Int32) (s36 : Int32 × Int32 × Int32) (ah : AH) : Option ((Unit × AH) ⊕ (((Int32 × Int32) × AH) ⊕ ((Int32 × Int32 × Int32) × AH))) :=
  (gR ah k0 5 8).bind fun v9 => (gI ah v9 1 5).bind fun v11 => if v11 ≤ s36.2.2 then (some (.inr (.inl ((s36.1, s36.2.1), ah)))) else (if qO ah k0 5 = true then ((f_X5_isWish k0 k3 s36.2.2 ah).bind fun q13 => if q13.1 = 0 then (some (.inr (.inr ((s36.1, s36.2.1, s36.2.2 + 1), q13.2)))) else (if s36.2.1 = (-9) then (some (.inr (.inr ((s36.1 + 1, (6 * k3) + s36.2.2, s36.2.2 + 1), q13.2)))) else (some (.inr (.inr ((s36.1 + 1, s36.2.1, s36.2.2 + 1), q13.2)))))) else none)
set_option maxRecDepth 100000 in
set_option maxHeartbeats 4000000 in
theorem k_X5_wishes_b36 {l : Launch} {g : GX} (d : Nat) {Q : jQ} {k0 : Option Nat} {k3 : Int32} (s36 : Int32 × Int32 × Int32) (ah : AH) (out : (Unit × AH) ⊕ (((Int32 × Int32) × AH) ⊕ ((Int32 × Int32 × Int32) × AH))) (h : f_X5_wishes_b36 k0 k3 s36 ah = some out) (hR : ∀ q, out = .inl q → jRetN q.1 q.2) (hX : ∀ q, out = .inr (.inl q) → J l g md_X5_wishes (jRm (d + 6) md_X5_wishes) Q 84 [(0, .inr (.inr (.inl k0))), (1, .inl q.1.1), (2, .inl q.1.2), (3, .inl k3)] [] q.2 (0, 0)) (hN : ∀ q, out = .inr (.inr q) → J l g md_X5_wishes (jRm (d + 6) md_X5_wishes) Q 36 [(0, .inr (.inr (.inl k0))), (1, .inl q.1.1), (2, .inl q.1.2.1), (3, .inl k3), (4, .inl q.1.2.2)] [] q.2 (0, 0)) : J l g md_X5_wishes (jRm (d + 6) md_X5_wishes) Q 36 [(0, .inr (.inr (.inl k0))), (1, .inl s36.1), (2, .inl s36.2.1), (3, .inl k3), (4, .inl s36.2.2)] [] ah (0, 0) := by
  unfold f_X5_wishes_b36 at h
  refine J_seg ok_X5_wishes 21 2 (pc' := 39) (ls' := [(0, .inr (.inr (.inl k0))), (1, .inl s36.1), (2, .inl s36.2.1), (3, .inl k3), (4, .inl s36.2.2)]) (st' := [.inr (.inr (.inl k0)), .inl s36.2.2]) rfl ?_
  obtain ⟨v9, h10, h⟩ := Option.bind_eq_some_iff.mp h
  refine J_getR (jat ok_X5_wishes 23 (pc := 39) (i := .getfield 53) (n := 3) rfl rfl) fl_RX5_53 h10 ?_
  obtain ⟨v11, h12, h⟩ := Option.bind_eq_some_iff.mp h
  refine J_getI (jat ok_X5_wishes 24 (pc := 42) (i := .getfield 127) (n := 3) rfl rfl) fl_RX5_127 h12 ?_
  refine J_ge (jat ok_X5_wishes 25 (pc := 45) (i := .if_icmp .ge 39) (n := 3) rfl rfl) (tgt := 84) (by decide) (fun c => ?_) (fun c => ?_)
  · have h := (if_pos c).symm.trans h
    exact J_sub (ls' := [(0, .inr (.inr (.inl k0))), (1, .inl s36.1), (2, .inl s36.2.1), (3, .inl k3)]) [0, 1, 2, 3] rfl (hX ((s36.1, s36.2.1), ah) (Option.some.inj h).symm)
  · have h := (if_neg c).symm.trans h
    refine J_seg ok_X5_wishes 26 3 (pc' := 52) (ls' := [(0, .inr (.inr (.inl k0))), (1, .inl s36.1), (2, .inl s36.2.1), (3, .inl k3), (4, .inl s36.2.2)]) (st' := [.inl s36.2.2, .inl k3, .inr (.inr (.inl k0))]) rfl ?_
    by_cases c15 : qO ah k0 5 = true
    case neg => exact absurd ((if_neg c15).symm.trans h) (by simp)
    have h := (if_pos c15).symm.trans h
    obtain ⟨q13, h14, h⟩ := Option.bind_eq_some_iff.mp h
    refine J_callV (md' := md_X5_isWish) (As := [.inl k3, .inl s36.2.2]) (st := []) (cs' := (0, 0)) (st' := [.inl q13.1]) (jat ok_X5_wishes 29 (pc := 52) (i := .invokevirtual 219) (n := 3) rfl rfl) ml_RX5_219 yv_X5_isWish c15 (c_X5_isWish l g (d + 0) h14) (jRo_of (by decide)) (Nat.le_of_ble_eq_true rfl) ⟨Nat.le_of_ble_eq_true rfl, Nat.le_of_ble_eq_true rfl⟩ rfl rfl rfl ?_
    refine J_ne0 (jat ok_X5_wishes 30 (pc := 55) (i := .ifCond .ne 6) (n := 3) rfl rfl) (tgt := 61) (by decide) (fun c => ?_) (fun c => ?_)
    · have h := (if_neg c).symm.trans h
      refine J_seg ok_X5_wishes 32 3 (pc' := 67) (ls' := [(1, .inl (s36.1 + 1)), (0, .inr (.inr (.inl k0))), (2, .inl s36.2.1), (3, .inl k3), (4, .inl s36.2.2)]) (st' := [.inl (-9), .inl s36.2.1]) rfl ?_
      refine J_ne (jat ok_X5_wishes 35 (pc := 67) (i := .if_icmp .ne 11) (n := 3) rfl rfl) (tgt := 78) (by decide) (fun c => ?_) (fun c => ?_)
      · have h := (if_neg c).symm.trans h
        refine J_seg ok_X5_wishes 42 2 (pc' := 36) (ls' := [(4, .inl (s36.2.2 + 1)), (1, .inl (s36.1 + 1)), (0, .inr (.inr (.inl k0))), (2, .inl s36.2.1), (3, .inl k3)]) (st' := []) rfl ?_
        exact J_sub (ls' := [(0, .inr (.inr (.inl k0))), (1, .inl (s36.1 + 1)), (2, .inl s36.2.1), (3, .inl k3), (4, .inl (s36.2.2 + 1))]) [2, 1, 3, 4, 0] rfl (hN ((s36.1 + 1, s36.2.1, s36.2.2 + 1), q13.2) (Option.some.inj h).symm)
      · have h := (if_pos c).symm.trans h
        refine J_seg ok_X5_wishes 36 8 (pc' := 36) (ls' := [(4, .inl (s36.2.2 + 1)), (2, .inl ((6 * k3) + s36.2.2)), (1, .inl (s36.1 + 1)), (0, .inr (.inr (.inl k0))), (3, .inl k3)]) (st' := []) rfl ?_
        exact J_sub (ls' := [(0, .inr (.inr (.inl k0))), (1, .inl (s36.1 + 1)), (2, .inl ((6 * k3) + s36.2.2)), (3, .inl k3), (4, .inl (s36.2.2 + 1))]) [3, 2, 1, 4, 0] rfl (hN ((s36.1 + 1, (6 * k3) + s36.2.2, s36.2.2 + 1), q13.2) (Option.some.inj h).symm)
    · have h := (if_pos c).symm.trans h
      refine J_seg ok_X5_wishes 31 1 (pc' := 78) (ls' := [(0, .inr (.inr (.inl k0))), (1, .inl s36.1), (2, .inl s36.2.1), (3, .inl k3), (4, .inl s36.2.2)]) (st' := []) rfl ?_
      refine J_seg ok_X5_wishes 42 2 (pc' := 36) (ls' := [(4, .inl (s36.2.2 + 1)), (0, .inr (.inr (.inl k0))), (1, .inl s36.1), (2, .inl s36.2.1), (3, .inl k3)]) (st' := []) rfl ?_
      exact J_sub (ls' := [(0, .inr (.inr (.inl k0))), (1, .inl s36.1), (2, .inl s36.2.1), (3, .inl k3), (4, .inl (s36.2.2 + 1))]) [1, 2, 3, 4, 0] rfl (hN ((s36.1, s36.2.1, s36.2.2 + 1), q13.2) (Option.some.inj h).symm)
def f_X5_wishes_b20 (k0 : Option Nat) (s20 : Int32 × Int32 × Int32) (ah : AH) : Option ((Unit × AH) ⊕ (((Int32 × Int32) × AH) ⊕ ((Int32 × Int32 × Int32) × AH))) :=
  (gR ah k0 5 8).bind fun v5 => (gI ah v5 1 5).bind fun v7 => if v7 ≤ s20.2.2 then (some (.inr (.inl ((s20.1, s20.2.1), ah)))) else ((jloop (f_X5_wishes_b36 k0 s20.2.2) jfuel (s20.1, s20.2.1, s20.2.2 + 1) ah).bind fun q16 => match q16 with | .inl r => none | .inr z18 => some (.inr (.inr ((z18.1.1, z18.1.2, s20.2.2 + 1), z18.2))))
set_option maxRecDepth 100000 in
set_option maxHeartbeats 4000000 in
theorem k_X5_wishes_b20 {l : Launch} {g : GX} (d : Nat) {Q : jQ} {k0 : Option Nat} (s20 : Int32 × Int32 × Int32) (ah : AH) (out : (Unit × AH) ⊕ (((Int32 × Int32) × AH) ⊕ ((Int32 × Int32 × Int32) × AH))) (h : f_X5_wishes_b20 k0 s20 ah = some out) (hR : ∀ q, out = .inl q → jRetN q.1 q.2) (hX : ∀ q, out = .inr (.inl q) → J l g md_X5_wishes (jRm (d + 6) md_X5_wishes) Q 90 [(0, .inr (.inr (.inl k0))), (1, .inl q.1.1), (2, .inl q.1.2)] [] q.2 (0, 0)) (hN : ∀ q, out = .inr (.inr q) → J l g md_X5_wishes (jRm (d + 6) md_X5_wishes) Q 20 [(0, .inr (.inr (.inl k0))), (1, .inl q.1.1), (2, .inl q.1.2.1), (3, .inl q.1.2.2)] [] q.2 (0, 0)) : J l g md_X5_wishes (jRm (d + 6) md_X5_wishes) Q 20 [(0, .inr (.inr (.inl k0))), (1, .inl s20.1), (2, .inl s20.2.1), (3, .inl s20.2.2)] [] ah (0, 0) := by
  unfold f_X5_wishes_b20 at h
  refine J_seg ok_X5_wishes 12 2 (pc' := 22) (ls' := [(0, .inr (.inr (.inl k0))), (1, .inl s20.1), (2, .inl s20.2.1), (3, .inl s20.2.2)]) (st' := [.inr (.inr (.inl k0)), .inl s20.2.2]) rfl ?_
  obtain ⟨v5, h6, h⟩ := Option.bind_eq_some_iff.mp h
  refine J_getR (jat ok_X5_wishes 14 (pc := 22) (i := .getfield 53) (n := 3) rfl rfl) fl_RX5_53 h6 ?_
  obtain ⟨v7, h8, h⟩ := Option.bind_eq_some_iff.mp h
  refine J_getI (jat ok_X5_wishes 15 (pc := 25) (i := .getfield 127) (n := 3) rfl rfl) fl_RX5_127 h8 ?_
  refine J_ge (jat ok_X5_wishes 16 (pc := 28) (i := .if_icmp .ge 62) (n := 3) rfl rfl) (tgt := 90) (by decide) (fun c => ?_) (fun c => ?_)
  · have h := (if_pos c).symm.trans h
    exact J_sub (ls' := [(0, .inr (.inr (.inl k0))), (1, .inl s20.1), (2, .inl s20.2.1)]) [0, 1, 2] rfl (hX ((s20.1, s20.2.1), ah) (Option.some.inj h).symm)
  · have h := (if_neg c).symm.trans h
    refine J_seg ok_X5_wishes 17 4 (pc' := 36) (ls' := [(4, .inl (s20.2.2 + 1)), (0, .inr (.inr (.inl k0))), (1, .inl s20.1), (2, .inl s20.2.1), (3, .inl s20.2.2)]) (st' := []) rfl ?_
    obtain ⟨q16, h17, h⟩ := Option.bind_eq_some_iff.mp h
    refine J_sub (ls' := [(0, .inr (.inr (.inl k0))), (1, .inl s20.1), (2, .inl s20.2.1), (3, .inl s20.2.2), (4, .inl (s20.2.2 + 1))]) [1, 2, 3, 4, 0] rfl ?_
    refine J_loop (pE := 84) (lh := fun t19 => [(0, .inr (.inr (.inl k0))), (1, .inl t19.1), (2, .inl t19.2.1), (3, .inl s20.2.2), (4, .inl t19.2.2)]) (lx := fun z18 => [(0, .inr (.inr (.inl k0))), (1, .inl z18.1), (2, .inl z18.2), (3, .inl s20.2.2)]) (P := jRetN) (fun s ah out hb hR hX hN => k_X5_wishes_b36 d s ah out hb hR hX hN) jfuel (s20.1, s20.2.1, s20.2.2 + 1) _ _ h17 (fun r e => ?_) (fun z18 e => ?_)
    · subst e
      dsimp only at h
      cases h
    · subst e
      dsimp only at h
      refine J_seg ok_X5_wishes 44 2 (pc' := 20) (ls' := [(3, .inl (s20.2.2 + 1)), (0, .inr (.inr (.inl k0))), (1, .inl z18.1.1), (2, .inl z18.1.2)]) (st' := []) rfl ?_
      exact J_sub (ls' := [(0, .inr (.inr (.inl k0))), (1, .inl z18.1.1), (2, .inl z18.1.2), (3, .inl (s20.2.2 + 1))]) [1, 2, 3, 0] rfl (hN ((z18.1.1, z18.1.2, s20.2.2 + 1), z18.2) (Option.some.inj h).symm)
def f_X5_wishes (x0 : Option Nat) (ah : AH) : Option (Int32 × AH) :=
  (gR ah x0 5 8).bind fun v1 => (gI ah v1 1 5).bind fun v3 => if v3 = 0 then (some ((-4), ah)) else ((jloop (f_X5_wishes_b20 x0) jfuel (0, (-9), 0) ah).bind fun q20 => match q20 with | .inl r => none | .inr z22 => (sF z22.2 x0 5 11 (.inl z22.1.2)).bind fun a24 => some (z22.1.1, a24))
set_option maxRecDepth 100000 in
set_option maxHeartbeats 4000000 in
theorem k_X5_wishes {l : Launch} {g : GX} (d : Nat) {Q : jQ} {x0 : Option Nat} (ah : AH) (out : Int32 × AH) (h : f_X5_wishes x0 ah = some out) (hR : jRetI l g md_X5_wishes (jRm (d + 6) md_X5_wishes) Q (0, 0) out.1 out.2) : J l g md_X5_wishes (jRm (d + 6) md_X5_wishes) Q 0 [(0, .inr (.inr (.inl x0)))] [] ah (0, 0) := by
  unfold f_X5_wishes at h
  refine J_seg ok_X5_wishes 0 1 (pc' := 1) (ls' := [(0, .inr (.inr (.inl x0)))]) (st' := [.inr (.inr (.inl x0))]) rfl ?_
  obtain ⟨v1, h2, h⟩ := Option.bind_eq_some_iff.mp h
  refine J_getR (jat ok_X5_wishes 1 (pc := 1) (i := .getfield 53) (n := 3) rfl rfl) fl_RX5_53 h2 ?_
  obtain ⟨v3, h4, h⟩ := Option.bind_eq_some_iff.mp h
  refine J_getI (jat ok_X5_wishes 2 (pc := 4) (i := .getfield 127) (n := 3) rfl rfl) fl_RX5_127 h4 ?_
  refine J_ne0 (jat ok_X5_wishes 3 (pc := 7) (i := .ifCond .ne 6) (n := 3) rfl rfl) (tgt := 13) (by decide) (fun c => ?_) (fun c => ?_)
  · have h := (if_neg c).symm.trans h
    refine J_seg ok_X5_wishes 6 6 (pc' := 20) (ls' := [(3, .inl 0), (2, .inl (-9)), (1, .inl 0), (0, .inr (.inr (.inl x0)))]) (st' := []) rfl ?_
    obtain ⟨q20, h21, h⟩ := Option.bind_eq_some_iff.mp h
    refine J_sub (ls' := [(0, .inr (.inr (.inl x0))), (1, .inl 0), (2, .inl (-9)), (3, .inl 0)]) [3, 2, 1, 0] rfl ?_
    refine J_loop (pE := 90) (lh := fun t23 => [(0, .inr (.inr (.inl x0))), (1, .inl t23.1), (2, .inl t23.2.1), (3, .inl t23.2.2)]) (lx := fun z22 => [(0, .inr (.inr (.inl x0))), (1, .inl z22.1), (2, .inl z22.2)]) (P := jRetN) (fun s ah out hb hR hX hN => k_X5_wishes_b20 d s ah out hb hR hX hN) jfuel (0, (-9), 0) _ _ h21 (fun r e => ?_) (fun z22 e => ?_)
    · subst e
      dsimp only at h
      cases h
    · subst e
      dsimp only at h
      refine J_seg ok_X5_wishes 46 2 (pc' := 92) (ls' := [(0, .inr (.inr (.inl x0))), (1, .inl z22.1.1), (2, .inl z22.1.2)]) (st' := [.inl z22.1.2, .inr (.inr (.inl x0))]) rfl ?_
      obtain ⟨a24, h25, h⟩ := Option.bind_eq_some_iff.mp h
      refine J_put (jat ok_X5_wishes 48 (pc := 92) (i := .putfield 90) (n := 3) rfl rfl) (fp_RX5_90 _) (jPV_int _) h25 ?_
      refine J_seg ok_X5_wishes 49 1 (pc' := 96) (ls' := [(0, .inr (.inr (.inl x0))), (1, .inl z22.1.1), (2, .inl z22.1.2)]) (st' := [.inl z22.1.1]) rfl ?_
      have h := Option.some.inj h
      subst h
      exact hR _ _ (jat ok_X5_wishes 50 (pc := 96) (i := .ireturn) (n := 1) rfl rfl)
  · have h := (if_pos c).symm.trans h
    refine J_seg ok_X5_wishes 4 1 (pc' := 12) (ls' := [(0, .inr (.inr (.inl x0)))]) (st' := [.inl (-4)]) rfl ?_
    have h := Option.some.inj h
    subst h
    exact hR _ _ (jat ok_X5_wishes 5 (pc := 12) (i := .ireturn) (n := 1) rfl rfl)
theorem c_X5_wishes (l : Launch) (g : GX) (d : Nat) {x0 : Option Nat} {ah : AH} {q : Int32 × AH} (h : f_X5_wishes x0 ah = some q) : jM l g (d + 6) md_X5_wishes [.inr (.inr (.inl x0))] ah (some (.inl q.1)) q.2 :=
  jM_of (by decide) (Nat.le_of_ble_eq_true rfl) (k_X5_wishes d ah q h (fun pc ls hd => J_reti hd rfl (jPV_int _) rfl (Nat.le_refl _) rfl rfl))
def f_X5_strengthsIn_b4 (k0 : Option Nat) (k1 : Int32) (s4 : Int32 × Int32) (ah : AH) : Option ((Unit × AH) ⊕ (((Int32) × AH) ⊕ ((Int32 × Int32) × AH))) :=
  (gR ah k0 5 8).bind fun v1 => (gI ah v1 1 5).bind fun v3 => if v3 ≤ s4.2 then (some (.inr (.inl (s4.1, ah)))) else ((gR ah k0 5 5).bind fun v5 => if qO ah v5 0 = true then ((f_X0_victimIn v5 k1 s4.2 ah).bind fun q7 => if q7.1 = (-9) then (some (.inr (.inr ((s4.1 + 0, s4.2 + 1), q7.2)))) else ((gR q7.2 k0 5 8).bind fun v10 => if qO q7.2 v10 1 = true then ((f_X1_against v10 s4.2 q7.1 q7.2).bind fun q12 => some (.inr (.inr ((s4.1 + q12.1, s4.2 + 1), q12.2)))) else none)) else none)
set_option maxRecDepth 100000 in
set_option maxHeartbeats 4000000 in
theorem k_X5_strengthsIn_b4 {l : Launch} {g : GX} (d : Nat) {Q : jQ} {k0 : Option Nat} {k1 : Int32} (s4 : Int32 × Int32) (ah : AH) (out : (Unit × AH) ⊕ (((Int32) × AH) ⊕ ((Int32 × Int32) × AH))) (h : f_X5_strengthsIn_b4 k0 k1 s4 ah = some out) (hR : ∀ q, out = .inl q → jRetN q.1 q.2) (hX : ∀ q, out = .inr (.inl q) → J l g md_X5_strengthsIn (jRm (d + 5) md_X5_strengthsIn) Q 56 [(2, .inl q.1)] [] q.2 (0, 0)) (hN : ∀ q, out = .inr (.inr q) → J l g md_X5_strengthsIn (jRm (d + 5) md_X5_strengthsIn) Q 4 [(0, .inr (.inr (.inl k0))), (1, .inl k1), (2, .inl q.1.1), (3, .inl q.1.2)] [] q.2 (0, 0)) : J l g md_X5_strengthsIn (jRm (d + 5) md_X5_strengthsIn) Q 4 [(0, .inr (.inr (.inl k0))), (1, .inl k1), (2, .inl s4.1), (3, .inl s4.2)] [] ah (0, 0) := by
  unfold f_X5_strengthsIn_b4 at h
  refine J_seg ok_X5_strengthsIn 4 2 (pc' := 6) (ls' := [(0, .inr (.inr (.inl k0))), (1, .inl k1), (2, .inl s4.1), (3, .inl s4.2)]) (st' := [.inr (.inr (.inl k0)), .inl s4.2]) rfl ?_
  obtain ⟨v1, h2, h⟩ := Option.bind_eq_some_iff.mp h
  refine J_getR (jat ok_X5_strengthsIn 6 (pc := 6) (i := .getfield 53) (n := 3) rfl rfl) fl_RX5_53 h2 ?_
  obtain ⟨v3, h4, h⟩ := Option.bind_eq_some_iff.mp h
  refine J_getI (jat ok_X5_strengthsIn 7 (pc := 9) (i := .getfield 127) (n := 3) rfl rfl) fl_RX5_127 h4 ?_
  refine J_ge (jat ok_X5_strengthsIn 8 (pc := 12) (i := .if_icmp .ge 44) (n := 3) rfl rfl) (tgt := 56) (by decide) (fun c => ?_) (fun c => ?_)
  · have h := (if_pos c).symm.trans h
    exact J_sub (ls' := [(2, .inl s4.1)]) [2] rfl (hX (s4.1, ah) (Option.some.inj h).symm)
  · have h := (if_neg c).symm.trans h
    refine J_seg ok_X5_strengthsIn 9 1 (pc' := 16) (ls' := [(0, .inr (.inr (.inl k0))), (1, .inl k1), (2, .inl s4.1), (3, .inl s4.2)]) (st' := [.inr (.inr (.inl k0))]) rfl ?_
    obtain ⟨v5, h6, h⟩ := Option.bind_eq_some_iff.mp h
    refine J_getR (jat ok_X5_strengthsIn 10 (pc := 16) (i := .getfield 39) (n := 3) rfl rfl) fl_RX5_39 h6 ?_
    refine J_seg ok_X5_strengthsIn 11 2 (pc' := 21) (ls' := [(0, .inr (.inr (.inl k0))), (1, .inl k1), (2, .inl s4.1), (3, .inl s4.2)]) (st' := [.inl s4.2, .inl k1, .inr (.inr (.inl v5))]) rfl ?_
    by_cases c9 : qO ah v5 0 = true
    case neg => exact absurd ((if_neg c9).symm.trans h) (by simp)
    have h := (if_pos c9).symm.trans h
    obtain ⟨q7, h8, h⟩ := Option.bind_eq_some_iff.mp h
    refine J_callV (md' := md_X0_victimIn) (As := [.inl k1, .inl s4.2]) (st := []) (cs' := (0, 0)) (st' := [.inl q7.1]) (jat ok_X5_strengthsIn 13 (pc := 21) (i := .invokevirtual 235) (n := 3) rfl rfl) ml_RX5_235 yv_X0_victimIn c9 (c_X0_victimIn l g (d + 4) h8) (jRo_of (by decide)) (Nat.le_of_ble_eq_true rfl) ⟨Nat.le_of_ble_eq_true rfl, Nat.le_of_ble_eq_true rfl⟩ rfl rfl rfl ?_
    refine J_seg ok_X5_strengthsIn 14 4 (pc' := 31) (ls' := [(4, .inl q7.1), (0, .inr (.inr (.inl k0))), (1, .inl k1), (2, .inl s4.1), (3, .inl s4.2)]) (st' := [.inl (-9), .inl q7.1, .inl s4.1]) rfl ?_
    refine J_ne (jat ok_X5_strengthsIn 18 (pc := 31) (i := .if_icmp .ne 7) (n := 3) rfl rfl) (tgt := 38) (by decide) (fun c => ?_) (fun c => ?_)
    · have h := (if_neg c).symm.trans h
      refine J_seg ok_X5_strengthsIn 21 1 (pc' := 39) (ls' := [(4, .inl q7.1), (0, .inr (.inr (.inl k0))), (1, .inl k1), (2, .inl s4.1), (3, .inl s4.2)]) (st' := [.inr (.inr (.inl k0)), .inl s4.1]) rfl ?_
      obtain ⟨v10, h11, h⟩ := Option.bind_eq_some_iff.mp h
      refine J_getR (jat ok_X5_strengthsIn 22 (pc := 39) (i := .getfield 53) (n := 3) rfl rfl) fl_RX5_53 h11 ?_
      refine J_seg ok_X5_strengthsIn 23 2 (pc' := 45) (ls' := [(4, .inl q7.1), (0, .inr (.inr (.inl k0))), (1, .inl k1), (2, .inl s4.1), (3, .inl s4.2)]) (st' := [.inl q7.1, .inl s4.2, .inr (.inr (.inl v10)), .inl s4.1]) rfl ?_
      by_cases c14 : qO q7.2 v10 1 = true
      case neg => exact absurd ((if_neg c14).symm.trans h) (by simp)
      have h := (if_pos c14).symm.trans h
      obtain ⟨q12, h13, h⟩ := Option.bind_eq_some_iff.mp h
      refine J_callV (md' := md_X1_against) (As := [.inl s4.2, .inl q7.1]) (st := [.inl s4.1]) (cs' := (0, 0)) (st' := [.inl q12.1, .inl s4.1]) (jat ok_X5_strengthsIn 25 (pc := 45) (i := .invokevirtual 162) (n := 3) rfl rfl) ml_RX5_162 yv_X1_against c14 (c_X1_against l g (d + 0) h13) (jRo_of (by decide)) (Nat.le_of_ble_eq_true rfl) ⟨Nat.le_of_ble_eq_true rfl, Nat.le_of_ble_eq_true rfl⟩ rfl rfl rfl ?_
      refine J_seg ok_X5_strengthsIn 26 4 (pc' := 4) (ls' := [(3, .inl (s4.2 + 1)), (2, .inl (s4.1 + q12.1)), (4, .inl q7.1), (0, .inr (.inr (.inl k0))), (1, .inl k1)]) (st' := []) rfl ?_
      exact J_sub (ls' := [(0, .inr (.inr (.inl k0))), (1, .inl k1), (2, .inl (s4.1 + q12.1)), (3, .inl (s4.2 + 1))]) [3, 4, 1, 0] rfl (hN ((s4.1 + q12.1, s4.2 + 1), q12.2) (Option.some.inj h).symm)
    · have h := (if_pos c).symm.trans h
      refine J_seg ok_X5_strengthsIn 19 2 (pc' := 48) (ls' := [(4, .inl q7.1), (0, .inr (.inr (.inl k0))), (1, .inl k1), (2, .inl s4.1), (3, .inl s4.2)]) (st' := [.inl 0, .inl s4.1]) rfl ?_
      refine J_seg ok_X5_strengthsIn 26 4 (pc' := 4) (ls' := [(3, .inl (s4.2 + 1)), (2, .inl (s4.1 + 0)), (4, .inl q7.1), (0, .inr (.inr (.inl k0))), (1, .inl k1)]) (st' := []) rfl ?_
      exact J_sub (ls' := [(0, .inr (.inr (.inl k0))), (1, .inl k1), (2, .inl (s4.1 + 0)), (3, .inl (s4.2 + 1))]) [3, 4, 1, 0] rfl (hN ((s4.1 + 0, s4.2 + 1), q7.2) (Option.some.inj h).symm)
def f_X5_strengthsIn (x0 : Option Nat) (x1 : Int32) (ah : AH) : Option (Int32 × AH) :=
  (jloop (f_X5_strengthsIn_b4 x0 x1) jfuel (0, 0) ah).bind fun q15 => match q15 with | .inl r => none | .inr z17 => some (z17.1, z17.2)
set_option maxRecDepth 100000 in
set_option maxHeartbeats 4000000 in
theorem k_X5_strengthsIn {l : Launch} {g : GX} (d : Nat) {Q : jQ} {x0 : Option Nat} {x1 : Int32} (ah : AH) (out : Int32 × AH) (h : f_X5_strengthsIn x0 x1 ah = some out) (hR : jRetI l g md_X5_strengthsIn (jRm (d + 5) md_X5_strengthsIn) Q (0, 0) out.1 out.2) : J l g md_X5_strengthsIn (jRm (d + 5) md_X5_strengthsIn) Q 0 [(0, .inr (.inr (.inl x0))), (1, .inl x1)] [] ah (0, 0) := by
  unfold f_X5_strengthsIn at h
  refine J_seg ok_X5_strengthsIn 0 4 (pc' := 4) (ls' := [(3, .inl 0), (2, .inl 0), (0, .inr (.inr (.inl x0))), (1, .inl x1)]) (st' := []) rfl ?_
  obtain ⟨q15, h16, h⟩ := Option.bind_eq_some_iff.mp h
  refine J_sub (ls' := [(0, .inr (.inr (.inl x0))), (1, .inl x1), (2, .inl 0), (3, .inl 0)]) [2, 3, 1, 0] rfl ?_
  refine J_loop (pE := 56) (lh := fun t18 => [(0, .inr (.inr (.inl x0))), (1, .inl x1), (2, .inl t18.1), (3, .inl t18.2)]) (lx := fun z17 => [(2, .inl z17)]) (P := jRetN) (fun s ah out hb hR hX hN => k_X5_strengthsIn_b4 d s ah out hb hR hX hN) jfuel (0, 0) _ _ h16 (fun r e => ?_) (fun z17 e => ?_)
  · subst e
    dsimp only at h
    cases h
  · subst e
    dsimp only at h
    refine J_seg ok_X5_strengthsIn 30 1 (pc' := 57) (ls' := [(2, .inl z17.1)]) (st' := [.inl z17.1]) rfl ?_
    have h := Option.some.inj h
    subst h
    exact hR _ _ (jat ok_X5_strengthsIn 31 (pc := 57) (i := .ireturn) (n := 1) rfl rfl)
theorem c_X5_strengthsIn (l : Launch) (g : GX) (d : Nat) {x0 : Option Nat} {x1 : Int32} {ah : AH} {q : Int32 × AH} (h : f_X5_strengthsIn x0 x1 ah = some q) : jM l g (d + 5) md_X5_strengthsIn [.inr (.inr (.inl x0)), .inl x1] ah (some (.inl q.1)) q.2 :=
  jM_of (by decide) (Nat.le_of_ble_eq_true rfl) (k_X5_strengthsIn d ah q h (fun pc ls hd => J_reti hd rfl (jPV_int _) rfl (Nat.le_refl _) rfl rfl))
def f_X5_mildest_b59 (k0 : Option Nat) (k2 : Option Nat) (s59 : Int32 × Int32 × Int32) (ah : AH) : Option ((Unit × AH) ⊕ (((Int32 × Int32) × AH) ⊕ ((Int32 × Int32 × Int32) × AH))) :=
  (gR ah k0 5 5).bind fun v24 => (gI ah v24 0 3).bind fun v26 => if v26 ≤ s59.2.2 then (some (.inr (.inl ((s59.1, s59.2.1), ah)))) else (if qO ah k0 5 = true then ((f_X5_strengthsIn k0 s59.2.2 ah).bind fun q28 => if s59.2.1 ≤ q28.1 then (some (.inr (.inr ((s59.1, s59.2.1, s59.2.2 + 1), q28.2)))) else (some (.inr (.inr ((s59.2.2, q28.1, s59.2.2 + 1), q28.2))))) else none)
set_option maxRecDepth 100000 in
set_option maxHeartbeats 4000000 in
theorem k_X5_mildest_b59 {l : Launch} {g : GX} (d : Nat) {Q : jQ} {k0 : Option Nat} {k2 : Option Nat} (s59 : Int32 × Int32 × Int32) (ah : AH) (out : (Unit × AH) ⊕ (((Int32 × Int32) × AH) ⊕ ((Int32 × Int32 × Int32) × AH))) (h : f_X5_mildest_b59 k0 k2 s59 ah = some out) (hR : ∀ q, out = .inl q → jRetN q.1 q.2) (hX : ∀ q, out = .inr (.inl q) → J l g md_X5_mildest (jRm (d + 11) md_X5_mildest) Q 99 [(0, .inr (.inr (.inl k0))), (2, .inr (.inr (.inl k2))), (3, .inl q.1.1), (4, .inl q.1.2)] [] q.2 (0, 0)) (hN : ∀ q, out = .inr (.inr q) → J l g md_X5_mildest (jRm (d + 11) md_X5_mildest) Q 59 [(0, .inr (.inr (.inl k0))), (2, .inr (.inr (.inl k2))), (3, .inl q.1.1), (4, .inl q.1.2.1), (5, .inl q.1.2.2)] [] q.2 (0, 0)) : J l g md_X5_mildest (jRm (d + 11) md_X5_mildest) Q 59 [(0, .inr (.inr (.inl k0))), (2, .inr (.inr (.inl k2))), (3, .inl s59.1), (4, .inl s59.2.1), (5, .inl s59.2.2)] [] ah (0, 0) := by
  unfold f_X5_mildest_b59 at h
  refine J_seg ok_X5_mildest 32 2 (pc' := 62) (ls' := [(0, .inr (.inr (.inl k0))), (2, .inr (.inr (.inl k2))), (3, .inl s59.1), (4, .inl s59.2.1), (5, .inl s59.2.2)]) (st' := [.inr (.inr (.inl k0)), .inl s59.2.2]) rfl ?_
  obtain ⟨v24, h25, h⟩ := Option.bind_eq_some_iff.mp h
  refine J_getR (jat ok_X5_mildest 34 (pc := 62) (i := .getfield 39) (n := 3) rfl rfl) fl_RX5_39 h25 ?_
  obtain ⟨v26, h27, h⟩ := Option.bind_eq_some_iff.mp h
  refine J_getI (jat ok_X5_mildest 35 (pc := 65) (i := .getfield 232) (n := 3) rfl rfl) fl_RX5_232 h27 ?_
  refine J_ge (jat ok_X5_mildest 36 (pc := 68) (i := .if_icmp .ge 31) (n := 3) rfl rfl) (tgt := 99) (by decide) (fun c => ?_) (fun c => ?_)
  · have h := (if_pos c).symm.trans h
    exact J_sub (ls' := [(0, .inr (.inr (.inl k0))), (2, .inr (.inr (.inl k2))), (3, .inl s59.1), (4, .inl s59.2.1)]) [0, 1, 2, 3] rfl (hX ((s59.1, s59.2.1), ah) (Option.some.inj h).symm)
  · have h := (if_neg c).symm.trans h
    refine J_seg ok_X5_mildest 37 2 (pc' := 74) (ls' := [(0, .inr (.inr (.inl k0))), (2, .inr (.inr (.inl k2))), (3, .inl s59.1), (4, .inl s59.2.1), (5, .inl s59.2.2)]) (st' := [.inl s59.2.2, .inr (.inr (.inl k0))]) rfl ?_
    by_cases c30 : qO ah k0 5 = true
    case neg => exact absurd ((if_neg c30).symm.trans h) (by simp)
    have h := (if_pos c30).symm.trans h
    obtain ⟨q28, h29, h⟩ := Option.bind_eq_some_iff.mp h
    refine J_callV (md' := md_X5_strengthsIn) (As := [.inl s59.2.2]) (st := []) (cs' := (0, 0)) (st' := [.inl q28.1]) (jat ok_X5_mildest 39 (pc := 74) (i := .invokevirtual 229) (n := 3) rfl rfl) ml_RX5_229 yv_X5_strengthsIn c30 (c_X5_strengthsIn l g (d + 5) h29) (jRo_of (by decide)) (Nat.le_of_ble_eq_true rfl) ⟨Nat.le_of_ble_eq_true rfl, Nat.le_of_ble_eq_true rfl⟩ rfl rfl rfl ?_
    refine J_seg ok_X5_mildest 40 3 (pc' := 83) (ls' := [(6, .inl q28.1), (0, .inr (.inr (.inl k0))), (2, .inr (.inr (.inl k2))), (3, .inl s59.1), (4, .inl s59.2.1), (5, .inl s59.2.2)]) (st' := [.inl s59.2.1, .inl q28.1]) rfl ?_
    refine J_ge (jat ok_X5_mildest 43 (pc := 83) (i := .if_icmp .ge 10) (n := 3) rfl rfl) (tgt := 93) (by decide) (fun c => ?_) (fun c => ?_)
    · have h := (if_pos c).symm.trans h
      refine J_seg ok_X5_mildest 48 2 (pc' := 59) (ls' := [(5, .inl (s59.2.2 + 1)), (6, .inl q28.1), (0, .inr (.inr (.inl k0))), (2, .inr (.inr (.inl k2))), (3, .inl s59.1), (4, .inl s59.2.1)]) (st' := []) rfl ?_
      exact J_sub (ls' := [(0, .inr (.inr (.inl k0))), (2, .inr (.inr (.inl k2))), (3, .inl s59.1), (4, .inl s59.2.1), (5, .inl (s59.2.2 + 1))]) [2, 3, 4, 5, 0] rfl (hN ((s59.1, s59.2.1, s59.2.2 + 1), q28.2) (Option.some.inj h).symm)
    · have h := (if_neg c).symm.trans h
      refine J_seg ok_X5_mildest 44 6 (pc' := 59) (ls' := [(5, .inl (s59.2.2 + 1)), (3, .inl s59.2.2), (4, .inl q28.1), (6, .inl q28.1), (0, .inr (.inr (.inl k0))), (2, .inr (.inr (.inl k2)))]) (st' := []) rfl ?_
      exact J_sub (ls' := [(0, .inr (.inr (.inl k0))), (2, .inr (.inr (.inl k2))), (3, .inl s59.2.2), (4, .inl q28.1), (5, .inl (s59.2.2 + 1))]) [4, 5, 1, 2, 0] rfl (hN ((s59.2.2, q28.1, s59.2.2 + 1), q28.2) (Option.some.inj h).symm)
def f_X5_mildest_b115 (k0 : Option Nat) (k2 : Option Nat) (k3 : Int32) (k4 : Int32) (s115 : Int32) (ah : AH) : Option ((Unit × AH) ⊕ (((Unit) × AH) ⊕ ((Int32) × AH))) :=
  (gR ah k0 5 8).bind fun v42 => (gI ah v42 1 5).bind fun v44 => if v44 ≤ s115 then (some (.inr (.inl ((), ah)))) else ((gR ah k0 5 5).bind fun v46 => if qO ah v46 0 = true then ((f_X0_victimIn v46 k3 s115 ah).bind fun q48 => if qO q48.2 k2 2 = true then ((f_X2_set k2 s115 q48.1 q48.2).bind fun q51 => some (.inr (.inr (s115 + 1, q51.2)))) else none) else none)
set_option maxRecDepth 100000 in
set_option maxHeartbeats 4000000 in
theorem k_X5_mildest_b115 {l : Launch} {g : GX} (d : Nat) {Q : jQ} {k0 : Option Nat} {k2 : Option Nat} {k3 : Int32} {k4 : Int32} (s115 : Int32) (ah : AH) (out : (Unit × AH) ⊕ (((Unit) × AH) ⊕ ((Int32) × AH))) (h : f_X5_mildest_b115 k0 k2 k3 k4 s115 ah = some out) (hR : ∀ q, out = .inl q → jRetN q.1 q.2) (hX : ∀ q, out = .inr (.inl q) → J l g md_X5_mildest (jRm (d + 11) md_X5_mildest) Q 149 [(4, .inl k4)] [] q.2 (0, 0)) (hN : ∀ q, out = .inr (.inr q) → J l g md_X5_mildest (jRm (d + 11) md_X5_mildest) Q 115 [(0, .inr (.inr (.inl k0))), (2, .inr (.inr (.inl k2))), (3, .inl k3), (4, .inl k4), (5, .inl q.1)] [] q.2 (0, 0)) : J l g md_X5_mildest (jRm (d + 11) md_X5_mildest) Q 115 [(0, .inr (.inr (.inl k0))), (2, .inr (.inr (.inl k2))), (3, .inl k3), (4, .inl k4), (5, .inl s115)] [] ah (0, 0) := by
  unfold f_X5_mildest_b115 at h
  refine J_seg ok_X5_mildest 58 2 (pc' := 118) (ls' := [(0, .inr (.inr (.inl k0))), (2, .inr (.inr (.inl k2))), (3, .inl k3), (4, .inl k4), (5, .inl s115)]) (st' := [.inr (.inr (.inl k0)), .inl s115]) rfl ?_
  obtain ⟨v42, h43, h⟩ := Option.bind_eq_some_iff.mp h
  refine J_getR (jat ok_X5_mildest 60 (pc := 118) (i := .getfield 53) (n := 3) rfl rfl) fl_RX5_53 h43 ?_
  obtain ⟨v44, h45, h⟩ := Option.bind_eq_some_iff.mp h
  refine J_getI (jat ok_X5_mildest 61 (pc := 121) (i := .getfield 127) (n := 3) rfl rfl) fl_RX5_127 h45 ?_
  refine J_ge (jat ok_X5_mildest 62 (pc := 124) (i := .if_icmp .ge 25) (n := 3) rfl rfl) (tgt := 149) (by decide) (fun c => ?_) (fun c => ?_)
  · have h := (if_pos c).symm.trans h
    exact J_sub (ls' := [(4, .inl k4)]) [3] rfl (hX ((), ah) (Option.some.inj h).symm)
  · have h := (if_neg c).symm.trans h
    refine J_seg ok_X5_mildest 63 3 (pc' := 131) (ls' := [(0, .inr (.inr (.inl k0))), (2, .inr (.inr (.inl k2))), (3, .inl k3), (4, .inl k4), (5, .inl s115)]) (st' := [.inr (.inr (.inl k0)), .inl s115, .inr (.inr (.inl k2))]) rfl ?_
    obtain ⟨v46, h47, h⟩ := Option.bind_eq_some_iff.mp h
    refine J_getR (jat ok_X5_mildest 66 (pc := 131) (i := .getfield 39) (n := 3) rfl rfl) fl_RX5_39 h47 ?_
    refine J_seg ok_X5_mildest 67 2 (pc' := 137) (ls' := [(0, .inr (.inr (.inl k0))), (2, .inr (.inr (.inl k2))), (3, .inl k3), (4, .inl k4), (5, .inl s115)]) (st' := [.inl s115, .inl k3, .inr (.inr (.inl v46)), .inl s115, .inr (.inr (.inl k2))]) rfl ?_
    by_cases c50 : qO ah v46 0 = true
    case neg => exact absurd ((if_neg c50).symm.trans h) (by simp)
    have h := (if_pos c50).symm.trans h
    obtain ⟨q48, h49, h⟩ := Option.bind_eq_some_iff.mp h
    refine J_callV (md' := md_X0_victimIn) (As := [.inl k3, .inl s115]) (st := [.inl s115, .inr (.inr (.inl k2))]) (cs' := (0, 0)) (st' := [.inl q48.1, .inl s115, .inr (.inr (.inl k2))]) (jat ok_X5_mildest 69 (pc := 137) (i := .invokevirtual 235) (n := 3) rfl rfl) ml_RX5_235 yv_X0_victimIn c50 (c_X0_victimIn l g (d + 10) h49) (jRo_of (by decide)) (Nat.le_of_ble_eq_true rfl) ⟨Nat.le_of_ble_eq_true rfl, Nat.le_of_ble_eq_true rfl⟩ rfl rfl rfl ?_
    by_cases c53 : qO q48.2 k2 2 = true
    case neg => exact absurd ((if_neg c53).symm.trans h) (by simp)
    have h := (if_pos c53).symm.trans h
    obtain ⟨q51, h52, h⟩ := Option.bind_eq_some_iff.mp h
    refine J_callV (md' := md_X2_set) (As := [.inl s115, .inl q48.1]) (st := []) (cs' := (0, 0)) (st' := []) (jat ok_X5_mildest 70 (pc := 140) (i := .invokevirtual 94) (n := 3) rfl rfl) ml_RX5_94 yv_X2_set c53 (c_X2_set l g (d + 9) h52) (jRo_of (by decide)) (Nat.le_of_ble_eq_true rfl) ⟨Nat.le_of_ble_eq_true rfl, Nat.le_of_ble_eq_true rfl⟩ rfl rfl rfl ?_
    refine J_seg ok_X5_mildest 71 2 (pc' := 115) (ls' := [(5, .inl (s115 + 1)), (0, .inr (.inr (.inl k0))), (2, .inr (.inr (.inl k2))), (3, .inl k3), (4, .inl k4)]) (st' := []) rfl ?_
    exact J_sub (ls' := [(0, .inr (.inr (.inl k0))), (2, .inr (.inr (.inl k2))), (3, .inl k3), (4, .inl k4), (5, .inl (s115 + 1))]) [1, 2, 3, 4, 0] rfl (hN (s115 + 1, q51.2) (Option.some.inj h).symm)
def f_X5_mildest (x0 : Option Nat) (x1 : Int32) (ah : AH) : Option (Int32 × AH) :=
  (gR ah x0 5 0).bind fun v1 => (f_X5_lineAt v1 x1 ah).bind fun q3 => if q3.1 = none then (some ((-1), q3.2)) else ((gR q3.2 x0 5 8).bind fun v5 => (gI q3.2 v5 1 5).bind fun v7 => if v7 = 0 then (some ((-4), q3.2)) else ((gR q3.2 x0 5 5).bind fun v9 => (gR q3.2 x0 5 8).bind fun v11 => (gR q3.2 x0 5 3).bind fun v13 => if qO q3.2 v13 4 = true then ((f_X4_victimSet v13 q3.2).bind fun q15 => if qO q15.2 v9 0 = true then ((f_X0_seek v9 v11 q15.1 1 q15.2).bind fun q18 => if qO q18.2 x0 5 = true then ((f_X5_strengthsIn x0 0 q18.2).bind fun q21 => (jloop (f_X5_mildest_b59 x0 q3.1) jfuel (0, q21.1, 1) q21.2).bind fun q31 => match q31 with | .inl r => none | .inr z33 => (gR z33.2 x0 5 8).bind fun v35 => (gI z33.2 v35 1 5).bind fun v37 => if qO z33.2 q3.1 2 = true then ((f_X2_renew q3.1 v37 (-9) z33.2).bind fun q39 => (jloop (f_X5_mildest_b115 x0 q3.1 z33.1.1 z33.1.2) jfuel 0 q39.2).bind fun q54 => match q54 with | .inl r => none | .inr z56 => some (z33.1.2, z56.2)) else none) else none) else none) else none))
set_option maxRecDepth 100000 in
set_option maxHeartbeats 4000000 in
theorem k_X5_mildest {l : Launch} {g : GX} (d : Nat) {Q : jQ} {x0 : Option Nat} {x1 : Int32} (ah : AH) (out : Int32 × AH) (h : f_X5_mildest x0 x1 ah = some out) (hR : jRetI l g md_X5_mildest (jRm (d + 11) md_X5_mildest) Q (0, 0) out.1 out.2) : J l g md_X5_mildest (jRm (d + 11) md_X5_mildest) Q 0 [(0, .inr (.inr (.inl x0))), (1, .inl x1)] [] ah (0, 0) := by
  unfold f_X5_mildest at h
  refine J_seg ok_X5_mildest 0 1 (pc' := 1) (ls' := [(0, .inr (.inr (.inl x0))), (1, .inl x1)]) (st' := [.inr (.inr (.inl x0))]) rfl ?_
  obtain ⟨v1, h2, h⟩ := Option.bind_eq_some_iff.mp h
  refine J_getR (jat ok_X5_mildest 1 (pc := 1) (i := .getfield 11) (n := 3) rfl rfl) fl_RX5_11 h2 ?_
  refine J_seg ok_X5_mildest 2 1 (pc' := 5) (ls' := [(0, .inr (.inr (.inl x0))), (1, .inl x1)]) (st' := [.inl x1, .inr (.inr (.inl v1))]) rfl ?_
  obtain ⟨q3, h4, h⟩ := Option.bind_eq_some_iff.mp h
  refine J_callS (md' := md_X5_lineAt) (As := [.inr (.inr (.inl v1)), .inl x1]) (st := []) (cs' := (0, 0)) (st' := [.inr (.inr (.inl q3.1))]) (jat ok_X5_mildest 3 (pc := 5) (i := .invokestatic 71) (n := 3) rfl rfl) (Or.inl ml_RX5_71) ys_X5_lineAt (c_X5_lineAt l g (d + 10) h4) (jRo_of (by decide)) (Nat.le_of_ble_eq_true rfl) ⟨Nat.le_of_ble_eq_true rfl, Nat.le_of_ble_eq_true rfl⟩ rfl rfl rfl ?_
  refine J_seg ok_X5_mildest 4 2 (pc' := 10) (ls' := [(2, .inr (.inr (.inl q3.1))), (0, .inr (.inr (.inl x0))), (1, .inl x1)]) (st' := [.inr (.inr (.inl q3.1))]) rfl ?_
  refine J_nonnull (jat ok_X5_mildest 6 (pc := 10) (i := .ifnonnull 5) (n := 3) rfl rfl) (tgt := 15) (by decide) (fun c => ?_) (fun c => ?_)
  · have h := (if_neg c).symm.trans h
    refine J_seg ok_X5_mildest 9 1 (pc' := 16) (ls' := [(2, .inr (.inr (.inl q3.1))), (0, .inr (.inr (.inl x0))), (1, .inl x1)]) (st' := [.inr (.inr (.inl x0))]) rfl ?_
    obtain ⟨v5, h6, h⟩ := Option.bind_eq_some_iff.mp h
    refine J_getR (jat ok_X5_mildest 10 (pc := 16) (i := .getfield 53) (n := 3) rfl rfl) fl_RX5_53 h6 ?_
    obtain ⟨v7, h8, h⟩ := Option.bind_eq_some_iff.mp h
    refine J_getI (jat ok_X5_mildest 11 (pc := 19) (i := .getfield 127) (n := 3) rfl rfl) fl_RX5_127 h8 ?_
    refine J_ne0 (jat ok_X5_mildest 12 (pc := 22) (i := .ifCond .ne 6) (n := 3) rfl rfl) (tgt := 28) (by decide) (fun c => ?_) (fun c => ?_)
    · have h := (if_neg c).symm.trans h
      refine J_seg ok_X5_mildest 15 1 (pc' := 29) (ls' := [(2, .inr (.inr (.inl q3.1))), (0, .inr (.inr (.inl x0))), (1, .inl x1)]) (st' := [.inr (.inr (.inl x0))]) rfl ?_
      obtain ⟨v9, h10, h⟩ := Option.bind_eq_some_iff.mp h
      refine J_getR (jat ok_X5_mildest 16 (pc := 29) (i := .getfield 39) (n := 3) rfl rfl) fl_RX5_39 h10 ?_
      refine J_seg ok_X5_mildest 17 1 (pc' := 33) (ls' := [(2, .inr (.inr (.inl q3.1))), (0, .inr (.inr (.inl x0))), (1, .inl x1)]) (st' := [.inr (.inr (.inl x0)), .inr (.inr (.inl v9))]) rfl ?_
      obtain ⟨v11, h12, h⟩ := Option.bind_eq_some_iff.mp h
      refine J_getR (jat ok_X5_mildest 18 (pc := 33) (i := .getfield 53) (n := 3) rfl rfl) fl_RX5_53 h12 ?_
      refine J_seg ok_X5_mildest 19 1 (pc' := 37) (ls' := [(2, .inr (.inr (.inl q3.1))), (0, .inr (.inr (.inl x0))), (1, .inl x1)]) (st' := [.inr (.inr (.inl x0)), .inr (.inr (.inl v11)), .inr (.inr (.inl v9))]) rfl ?_
      obtain ⟨v13, h14, h⟩ := Option.bind_eq_some_iff.mp h
      refine J_getR (jat ok_X5_mildest 20 (pc := 37) (i := .getfield 28) (n := 3) rfl rfl) fl_RX5_28 h14 ?_
      by_cases c17 : qO q3.2 v13 4 = true
      case neg => exact absurd ((if_neg c17).symm.trans h) (by simp)
      have h := (if_pos c17).symm.trans h
      obtain ⟨q15, h16, h⟩ := Option.bind_eq_some_iff.mp h
      refine J_callV (md' := md_X4_victimSet) (As := []) (st := [.inr (.inr (.inl v11)), .inr (.inr (.inl v9))]) (cs' := (0, 0)) (st' := [.inl q15.1, .inr (.inr (.inl v11)), .inr (.inr (.inl v9))]) (jat ok_X5_mildest 21 (pc := 40) (i := .invokevirtual 222) (n := 3) rfl rfl) ml_RX5_222 yv_X4_victimSet c17 (c_X4_victimSet l g (d + 8) h16) (jRo_of (by decide)) (Nat.le_of_ble_eq_true rfl) ⟨Nat.le_of_ble_eq_true rfl, Nat.le_of_ble_eq_true rfl⟩ rfl rfl rfl ?_
      refine J_seg ok_X5_mildest 22 1 (pc' := 44) (ls' := [(2, .inr (.inr (.inl q3.1))), (0, .inr (.inr (.inl x0))), (1, .inl x1)]) (st' := [.inl 1, .inl q15.1, .inr (.inr (.inl v11)), .inr (.inr (.inl v9))]) rfl ?_
      by_cases c20 : qO q15.2 v9 0 = true
      case neg => exact absurd ((if_neg c20).symm.trans h) (by simp)
      have h := (if_pos c20).symm.trans h
      obtain ⟨q18, h19, h⟩ := Option.bind_eq_some_iff.mp h
      refine J_callV (md' := md_X0_seek) (As := [.inr (.inr (.inl v11)), .inl q15.1, .inl 1]) (st := []) (cs' := (0, 0)) (st' := []) (jat ok_X5_mildest 23 (pc := 44) (i := .invokevirtual 225) (n := 3) rfl rfl) ml_RX5_225 yv_X0_seek c20 (c_X0_seek l g (d + 0) h19) (jRo_of (by decide)) (Nat.le_of_ble_eq_true rfl) ⟨Nat.le_of_ble_eq_true rfl, Nat.le_of_ble_eq_true rfl⟩ rfl rfl rfl ?_
      refine J_seg ok_X5_mildest 24 4 (pc' := 51) (ls' := [(3, .inl 0), (2, .inr (.inr (.inl q3.1))), (0, .inr (.inr (.inl x0))), (1, .inl x1)]) (st' := [.inl 0, .inr (.inr (.inl x0))]) rfl ?_
      by_cases c23 : qO q18.2 x0 5 = true
      case neg => exact absurd ((if_neg c23).symm.trans h) (by simp)
      have h := (if_pos c23).symm.trans h
      obtain ⟨q21, h22, h⟩ := Option.bind_eq_some_iff.mp h
      refine J_callV (md' := md_X5_strengthsIn) (As := [.inl 0]) (st := []) (cs' := (0, 0)) (st' := [.inl q21.1]) (jat ok_X5_mildest 28 (pc := 51) (i := .invokevirtual 229) (n := 3) rfl rfl) ml_RX5_229 yv_X5_strengthsIn c23 (c_X5_strengthsIn l g (d + 5) h22) (jRo_of (by decide)) (Nat.le_of_ble_eq_true rfl) ⟨Nat.le_of_ble_eq_true rfl, Nat.le_of_ble_eq_true rfl⟩ rfl rfl rfl ?_
      refine J_seg ok_X5_mildest 29 3 (pc' := 59) (ls' := [(5, .inl 1), (4, .inl q21.1), (3, .inl 0), (2, .inr (.inr (.inl q3.1))), (0, .inr (.inr (.inl x0))), (1, .inl x1)]) (st' := []) rfl ?_
      obtain ⟨q31, h32, h⟩ := Option.bind_eq_some_iff.mp h
      refine J_sub (ls' := [(0, .inr (.inr (.inl x0))), (2, .inr (.inr (.inl q3.1))), (3, .inl 0), (4, .inl q21.1), (5, .inl 1)]) [4, 3, 2, 1, 0] rfl ?_
      refine J_loop (pE := 99) (lh := fun t34 => [(0, .inr (.inr (.inl x0))), (2, .inr (.inr (.inl q3.1))), (3, .inl t34.1), (4, .inl t34.2.1), (5, .inl t34.2.2)]) (lx := fun z33 => [(0, .inr (.inr (.inl x0))), (2, .inr (.inr (.inl q3.1))), (3, .inl z33.1), (4, .inl z33.2)]) (P := jRetN) (fun s ah out hb hR hX hN => k_X5_mildest_b59 d s ah out hb hR hX hN) jfuel (0, q21.1, 1) _ _ h32 (fun r e => ?_) (fun z33 e => ?_)
      · subst e
        dsimp only at h
        cases h
      · subst e
        dsimp only at h
        refine J_seg ok_X5_mildest 50 2 (pc' := 101) (ls' := [(0, .inr (.inr (.inl x0))), (2, .inr (.inr (.inl q3.1))), (3, .inl z33.1.1), (4, .inl z33.1.2)]) (st' := [.inr (.inr (.inl x0)), .inr (.inr (.inl q3.1))]) rfl ?_
        obtain ⟨v35, h36, h⟩ := Option.bind_eq_some_iff.mp h
        refine J_getR (jat ok_X5_mildest 52 (pc := 101) (i := .getfield 53) (n := 3) rfl rfl) fl_RX5_53 h36 ?_
        obtain ⟨v37, h38, h⟩ := Option.bind_eq_some_iff.mp h
        refine J_getI (jat ok_X5_mildest 53 (pc := 104) (i := .getfield 127) (n := 3) rfl rfl) fl_RX5_127 h38 ?_
        refine J_seg ok_X5_mildest 54 1 (pc' := 109) (ls' := [(0, .inr (.inr (.inl x0))), (2, .inr (.inr (.inl q3.1))), (3, .inl z33.1.1), (4, .inl z33.1.2)]) (st' := [.inl (-9), .inl v37, .inr (.inr (.inl q3.1))]) rfl ?_
        by_cases c41 : qO z33.2 q3.1 2 = true
        case neg => exact absurd ((if_neg c41).symm.trans h) (by simp)
        have h := (if_pos c41).symm.trans h
        obtain ⟨q39, h40, h⟩ := Option.bind_eq_some_iff.mp h
        refine J_callV (md' := md_X2_renew) (As := [.inl v37, .inl (-9)]) (st := []) (cs' := (0, 0)) (st' := []) (jat ok_X5_mildest 55 (pc := 109) (i := .invokevirtual 79) (n := 3) rfl rfl) ml_RX5_79 yv_X2_renew c41 (c_X2_renew l g (d + 8) h40) (jRo_of (by decide)) (Nat.le_of_ble_eq_true rfl) ⟨Nat.le_of_ble_eq_true rfl, Nat.le_of_ble_eq_true rfl⟩ rfl rfl rfl ?_
        refine J_seg ok_X5_mildest 56 2 (pc' := 115) (ls' := [(5, .inl 0), (0, .inr (.inr (.inl x0))), (2, .inr (.inr (.inl q3.1))), (3, .inl z33.1.1), (4, .inl z33.1.2)]) (st' := []) rfl ?_
        obtain ⟨q54, h55, h⟩ := Option.bind_eq_some_iff.mp h
        refine J_sub (ls' := [(0, .inr (.inr (.inl x0))), (2, .inr (.inr (.inl q3.1))), (3, .inl z33.1.1), (4, .inl z33.1.2), (5, .inl 0)]) [1, 2, 3, 4, 0] rfl ?_
        refine J_loop (pE := 149) (lh := fun t57 => [(0, .inr (.inr (.inl x0))), (2, .inr (.inr (.inl q3.1))), (3, .inl z33.1.1), (4, .inl z33.1.2), (5, .inl t57)]) (lx := fun z56 => [(4, .inl z33.1.2)]) (P := jRetN) (fun s ah out hb hR hX hN => k_X5_mildest_b115 d s ah out hb hR hX hN) jfuel 0 _ _ h55 (fun r e => ?_) (fun z56 e => ?_)
        · subst e
          dsimp only at h
          cases h
        · subst e
          dsimp only at h
          refine J_seg ok_X5_mildest 73 1 (pc' := 151) (ls' := [(4, .inl z33.1.2)]) (st' := [.inl z33.1.2]) rfl ?_
          have h := Option.some.inj h
          subst h
          exact hR _ _ (jat ok_X5_mildest 74 (pc := 151) (i := .ireturn) (n := 1) rfl rfl)
    · have h := (if_pos c).symm.trans h
      refine J_seg ok_X5_mildest 13 1 (pc' := 27) (ls' := [(2, .inr (.inr (.inl q3.1))), (0, .inr (.inr (.inl x0))), (1, .inl x1)]) (st' := [.inl (-4)]) rfl ?_
      have h := Option.some.inj h
      subst h
      exact hR _ _ (jat ok_X5_mildest 14 (pc := 27) (i := .ireturn) (n := 1) rfl rfl)
  · have h := (if_pos c).symm.trans h
    refine J_seg ok_X5_mildest 7 1 (pc' := 14) (ls' := [(2, .inr (.inr (.inl q3.1))), (0, .inr (.inr (.inl x0))), (1, .inl x1)]) (st' := [.inl (-1)]) rfl ?_
    have h := Option.some.inj h
    subst h
    exact hR _ _ (jat ok_X5_mildest 8 (pc := 14) (i := .ireturn) (n := 1) rfl rfl)
theorem c_X5_mildest (l : Launch) (g : GX) (d : Nat) {x0 : Option Nat} {x1 : Int32} {ah : AH} {q : Int32 × AH} (h : f_X5_mildest x0 x1 ah = some q) : jM l g (d + 11) md_X5_mildest [.inr (.inr (.inl x0)), .inl x1] ah (some (.inl q.1)) q.2 :=
  jM_of (by decide) (Nat.le_of_ble_eq_true rfl) (k_X5_mildest d ah q h (fun pc ls hd => J_reti hd rfl (jPV_int _) rfl (Nat.le_refl _) rfl rfl))
def f_X5_isMapOfNow_b4 (k0 : Option Nat) (k1 : Option Nat) (s4 : Int32 × Int32) (ah : AH) : Option ((Int32 × AH) ⊕ (((Int32) × AH) ⊕ ((Int32 × Int32) × AH))) :=
  (gR ah k0 5 8).bind fun v1 => (gI ah v1 1 5).bind fun v3 => if v3 ≤ s4.2 then (some (.inr (.inl (s4.1, ah)))) else (if qO ah k1 2 = true then ((f_X2_get k1 s4.2 ah).bind fun q5 => if q5.1 = (-9) then (some (.inr (.inr ((s4.1, s4.2 + 1), q5.2)))) else (if qO q5.2 k0 5 = true then ((f_X5_isPair k0 s4.2 q5.1 q5.2).bind fun q8 => if q8.1 = 0 then (some (.inl (0, q8.2))) else ((f_X5_isIn s4.1 q5.1 q8.2).bind fun q11 => if q11.1 = 0 then (some (.inr (.inr ((s4.1 ||| (1 <<< (q5.1 &&& 31)), s4.2 + 1), q11.2)))) else (some (.inl (0, q11.2))))) else none)) else none)
set_option maxRecDepth 100000 in
set_option maxHeartbeats 4000000 in
theorem k_X5_isMapOfNow_b4 {l : Launch} {g : GX} (d : Nat) {Q : jQ} {k0 : Option Nat} {k1 : Option Nat} (s4 : Int32 × Int32) (ah : AH) (out : (Int32 × AH) ⊕ (((Int32) × AH) ⊕ ((Int32 × Int32) × AH))) (h : f_X5_isMapOfNow_b4 k0 k1 s4 ah = some out) (hR : ∀ q, out = .inl q → jRetZ l g md_X5_isMapOfNow (jRm (d + 3) md_X5_isMapOfNow) Q (0, 0) q.1 q.2) (hX : ∀ q, out = .inr (.inl q) → J l g md_X5_isMapOfNow (jRm (d + 3) md_X5_isMapOfNow) Q 66 [(0, .inr (.inr (.inl k0))), (2, .inl q.1)] [] q.2 (0, 0)) (hN : ∀ q, out = .inr (.inr q) → J l g md_X5_isMapOfNow (jRm (d + 3) md_X5_isMapOfNow) Q 4 [(0, .inr (.inr (.inl k0))), (1, .inr (.inr (.inl k1))), (2, .inl q.1.1), (3, .inl q.1.2)] [] q.2 (0, 0)) : J l g md_X5_isMapOfNow (jRm (d + 3) md_X5_isMapOfNow) Q 4 [(0, .inr (.inr (.inl k0))), (1, .inr (.inr (.inl k1))), (2, .inl s4.1), (3, .inl s4.2)] [] ah (0, 0) := by
  unfold f_X5_isMapOfNow_b4 at h
  refine J_seg ok_X5_isMapOfNow 4 2 (pc' := 6) (ls' := [(0, .inr (.inr (.inl k0))), (1, .inr (.inr (.inl k1))), (2, .inl s4.1), (3, .inl s4.2)]) (st' := [.inr (.inr (.inl k0)), .inl s4.2]) rfl ?_
  obtain ⟨v1, h2, h⟩ := Option.bind_eq_some_iff.mp h
  refine J_getR (jat ok_X5_isMapOfNow 6 (pc := 6) (i := .getfield 53) (n := 3) rfl rfl) fl_RX5_53 h2 ?_
  obtain ⟨v3, h4, h⟩ := Option.bind_eq_some_iff.mp h
  refine J_getI (jat ok_X5_isMapOfNow 7 (pc := 9) (i := .getfield 127) (n := 3) rfl rfl) fl_RX5_127 h4 ?_
  refine J_ge (jat ok_X5_isMapOfNow 8 (pc := 12) (i := .if_icmp .ge 54) (n := 3) rfl rfl) (tgt := 66) (by decide) (fun c => ?_) (fun c => ?_)
  · have h := (if_pos c).symm.trans h
    exact J_sub (ls' := [(0, .inr (.inr (.inl k0))), (2, .inl s4.1)]) [0, 2] rfl (hX (s4.1, ah) (Option.some.inj h).symm)
  · have h := (if_neg c).symm.trans h
    refine J_seg ok_X5_isMapOfNow 9 2 (pc' := 17) (ls' := [(0, .inr (.inr (.inl k0))), (1, .inr (.inr (.inl k1))), (2, .inl s4.1), (3, .inl s4.2)]) (st' := [.inl s4.2, .inr (.inr (.inl k1))]) rfl ?_
    by_cases c7 : qO ah k1 2 = true
    case neg => exact absurd ((if_neg c7).symm.trans h) (by simp)
    have h := (if_pos c7).symm.trans h
    obtain ⟨q5, h6, h⟩ := Option.bind_eq_some_iff.mp h
    refine J_callV (md' := md_X2_get) (As := [.inl s4.2]) (st := []) (cs' := (0, 0)) (st' := [.inl q5.1]) (jat ok_X5_isMapOfNow 11 (pc := 17) (i := .invokevirtual 87) (n := 3) rfl rfl) ml_RX5_87 yv_X2_get c7 (c_X2_get l g (d + 1) h6) (jRo_of (by decide)) (Nat.le_of_ble_eq_true rfl) ⟨Nat.le_of_ble_eq_true rfl, Nat.le_of_ble_eq_true rfl⟩ rfl rfl rfl ?_
    refine J_seg ok_X5_isMapOfNow 12 3 (pc' := 26) (ls' := [(4, .inl q5.1), (0, .inr (.inr (.inl k0))), (1, .inr (.inr (.inl k1))), (2, .inl s4.1), (3, .inl s4.2)]) (st' := [.inl (-9), .inl q5.1]) rfl ?_
    refine J_ne (jat ok_X5_isMapOfNow 15 (pc := 26) (i := .if_icmp .ne 6) (n := 3) rfl rfl) (tgt := 32) (by decide) (fun c => ?_) (fun c => ?_)
    · have h := (if_neg c).symm.trans h
      refine J_seg ok_X5_isMapOfNow 17 3 (pc' := 36) (ls' := [(4, .inl q5.1), (0, .inr (.inr (.inl k0))), (1, .inr (.inr (.inl k1))), (2, .inl s4.1), (3, .inl s4.2)]) (st' := [.inl q5.1, .inl s4.2, .inr (.inr (.inl k0))]) rfl ?_
      by_cases c10 : qO q5.2 k0 5 = true
      case neg => exact absurd ((if_neg c10).symm.trans h) (by simp)
      have h := (if_pos c10).symm.trans h
      obtain ⟨q8, h9, h⟩ := Option.bind_eq_some_iff.mp h
      refine J_callV (md' := md_X5_isPair) (As := [.inl s4.2, .inl q5.1]) (st := []) (cs' := (0, 0)) (st' := [.inl q8.1]) (jat ok_X5_isMapOfNow 20 (pc := 36) (i := .invokevirtual 159) (n := 3) rfl rfl) ml_RX5_159 yv_X5_isPair c10 (c_X5_isPair l g (d + 1) h9) (jRo_of (by decide)) (Nat.le_of_ble_eq_true rfl) ⟨Nat.le_of_ble_eq_true rfl, Nat.le_of_ble_eq_true rfl⟩ rfl rfl rfl ?_
      refine J_eq0 (jat ok_X5_isMapOfNow 21 (pc := 39) (i := .ifCond .eq 12) (n := 3) rfl rfl) (tgt := 51) (by decide) (fun c => ?_) (fun c => ?_)
      · have h := (if_pos c).symm.trans h
        refine J_seg ok_X5_isMapOfNow 26 1 (pc' := 52) (ls' := [(4, .inl q5.1), (0, .inr (.inr (.inl k0))), (1, .inr (.inr (.inl k1))), (2, .inl s4.1), (3, .inl s4.2)]) (st' := [.inl 0]) rfl ?_
        exact hR _ (Option.some.inj h).symm _ _ (jat ok_X5_isMapOfNow 27 (pc := 52) (i := .ireturn) (n := 1) rfl rfl) (Or.inl rfl)
      · have h := (if_neg c).symm.trans h
        refine J_seg ok_X5_isMapOfNow 22 2 (pc' := 45) (ls' := [(4, .inl q5.1), (0, .inr (.inr (.inl k0))), (1, .inr (.inr (.inl k1))), (2, .inl s4.1), (3, .inl s4.2)]) (st' := [.inl q5.1, .inl s4.1]) rfl ?_
        obtain ⟨q11, h12, h⟩ := Option.bind_eq_some_iff.mp h
        refine J_callS (md' := md_X5_isIn) (As := [.inl s4.1, .inl q5.1]) (st := []) (cs' := (0, 0)) (st' := [.inl q11.1]) (jat ok_X5_isMapOfNow 24 (pc := 45) (i := .invokestatic 197) (n := 3) rfl rfl) (Or.inl ml_RX5_197) ys_X5_isIn (c_X5_isIn l g (d + 2) h12) (jRo_of (by decide)) (Nat.le_of_ble_eq_true rfl) ⟨Nat.le_of_ble_eq_true rfl, Nat.le_of_ble_eq_true rfl⟩ rfl rfl rfl ?_
        refine J_eq0 (jat ok_X5_isMapOfNow 25 (pc := 48) (i := .ifCond .eq 5) (n := 3) rfl rfl) (tgt := 53) (by decide) (fun c => ?_) (fun c => ?_)
        · have h := (if_pos c).symm.trans h
          refine J_seg ok_X5_isMapOfNow 28 8 (pc' := 4) (ls' := [(3, .inl (s4.2 + 1)), (2, .inl (s4.1 ||| (1 <<< (q5.1 &&& 31)))), (4, .inl q5.1), (0, .inr (.inr (.inl k0))), (1, .inr (.inr (.inl k1)))]) (st' := []) rfl ?_
          exact J_sub (ls' := [(0, .inr (.inr (.inl k0))), (1, .inr (.inr (.inl k1))), (2, .inl (s4.1 ||| (1 <<< (q5.1 &&& 31)))), (3, .inl (s4.2 + 1))]) [3, 4, 1, 0] rfl (hN ((s4.1 ||| (1 <<< (q5.1 &&& 31)), s4.2 + 1), q11.2) (Option.some.inj h).symm)
        · have h := (if_neg c).symm.trans h
          refine J_seg ok_X5_isMapOfNow 26 1 (pc' := 52) (ls' := [(4, .inl q5.1), (0, .inr (.inr (.inl k0))), (1, .inr (.inr (.inl k1))), (2, .inl s4.1), (3, .inl s4.2)]) (st' := [.inl 0]) rfl ?_
          exact hR _ (Option.some.inj h).symm _ _ (jat ok_X5_isMapOfNow 27 (pc := 52) (i := .ireturn) (n := 1) rfl rfl) (Or.inl rfl)
    · have h := (if_pos c).symm.trans h
      refine J_seg ok_X5_isMapOfNow 16 1 (pc' := 60) (ls' := [(4, .inl q5.1), (0, .inr (.inr (.inl k0))), (1, .inr (.inr (.inl k1))), (2, .inl s4.1), (3, .inl s4.2)]) (st' := []) rfl ?_
      refine J_seg ok_X5_isMapOfNow 34 2 (pc' := 4) (ls' := [(3, .inl (s4.2 + 1)), (4, .inl q5.1), (0, .inr (.inr (.inl k0))), (1, .inr (.inr (.inl k1))), (2, .inl s4.1)]) (st' := []) rfl ?_
      exact J_sub (ls' := [(0, .inr (.inr (.inl k0))), (1, .inr (.inr (.inl k1))), (2, .inl s4.1), (3, .inl (s4.2 + 1))]) [2, 3, 4, 0] rfl (hN ((s4.1, s4.2 + 1), q5.2) (Option.some.inj h).symm)
def f_X5_isMapOfNow (x0 : Option Nat) (x1 : Option Nat) (ah : AH) : Option (Int32 × AH) :=
  (jloop (f_X5_isMapOfNow_b4 x0 x1) jfuel (0, 0) ah).bind fun q13 => match q13 with | .inl r => some r | .inr z15 => (gR z15.2 x0 5 3).bind fun v17 => if qO z15.2 v17 4 = true then ((f_X4_victimSet v17 z15.2).bind fun q19 => if z15.1 = q19.1 then (some (1, q19.2)) else (some (0, q19.2))) else none
set_option maxRecDepth 100000 in
set_option maxHeartbeats 4000000 in
theorem k_X5_isMapOfNow {l : Launch} {g : GX} (d : Nat) {Q : jQ} {x0 : Option Nat} {x1 : Option Nat} (ah : AH) (out : Int32 × AH) (h : f_X5_isMapOfNow x0 x1 ah = some out) (hR : jRetZ l g md_X5_isMapOfNow (jRm (d + 3) md_X5_isMapOfNow) Q (0, 0) out.1 out.2) : J l g md_X5_isMapOfNow (jRm (d + 3) md_X5_isMapOfNow) Q 0 [(0, .inr (.inr (.inl x0))), (1, .inr (.inr (.inl x1)))] [] ah (0, 0) := by
  unfold f_X5_isMapOfNow at h
  refine J_seg ok_X5_isMapOfNow 0 4 (pc' := 4) (ls' := [(3, .inl 0), (2, .inl 0), (0, .inr (.inr (.inl x0))), (1, .inr (.inr (.inl x1)))]) (st' := []) rfl ?_
  obtain ⟨q13, h14, h⟩ := Option.bind_eq_some_iff.mp h
  refine J_sub (ls' := [(0, .inr (.inr (.inl x0))), (1, .inr (.inr (.inl x1))), (2, .inl 0), (3, .inl 0)]) [2, 3, 1, 0] rfl ?_
  refine J_loop (pE := 66) (lh := fun t16 => [(0, .inr (.inr (.inl x0))), (1, .inr (.inr (.inl x1))), (2, .inl t16.1), (3, .inl t16.2)]) (lx := fun z15 => [(0, .inr (.inr (.inl x0))), (2, .inl z15)]) (P := jRetZ l g md_X5_isMapOfNow (jRm (d + 3) md_X5_isMapOfNow) Q (0, 0)) (fun s ah out hb hR hX hN => k_X5_isMapOfNow_b4 d s ah out hb hR hX hN) jfuel (0, 0) _ _ h14 (fun r e => ?_) (fun z15 e => ?_)
  · subst e
    dsimp only at h
    have h := Option.some.inj h
    subst h
    exact hR
  · subst e
    dsimp only at h
    refine J_seg ok_X5_isMapOfNow 36 2 (pc' := 68) (ls' := [(0, .inr (.inr (.inl x0))), (2, .inl z15.1)]) (st' := [.inr (.inr (.inl x0)), .inl z15.1]) rfl ?_
    obtain ⟨v17, h18, h⟩ := Option.bind_eq_some_iff.mp h
    refine J_getR (jat ok_X5_isMapOfNow 38 (pc := 68) (i := .getfield 28) (n := 3) rfl rfl) fl_RX5_28 h18 ?_
    by_cases c21 : qO z15.2 v17 4 = true
    case neg => exact absurd ((if_neg c21).symm.trans h) (by simp)
    have h := (if_pos c21).symm.trans h
    obtain ⟨q19, h20, h⟩ := Option.bind_eq_some_iff.mp h
    refine J_callV (md' := md_X4_victimSet) (As := []) (st := [.inl z15.1]) (cs' := (0, 0)) (st' := [.inl q19.1, .inl z15.1]) (jat ok_X5_isMapOfNow 39 (pc := 71) (i := .invokevirtual 222) (n := 3) rfl rfl) ml_RX5_222 yv_X4_victimSet c21 (c_X4_victimSet l g (d + 0) h20) (jRo_of (by decide)) (Nat.le_of_ble_eq_true rfl) ⟨Nat.le_of_ble_eq_true rfl, Nat.le_of_ble_eq_true rfl⟩ rfl rfl rfl ?_
    refine J_ne (jat ok_X5_isMapOfNow 40 (pc := 74) (i := .if_icmp .ne 7) (n := 3) rfl rfl) (tgt := 81) (by decide) (fun c => ?_) (fun c => ?_)
    · have h := (if_neg c).symm.trans h
      refine J_seg ok_X5_isMapOfNow 43 1 (pc' := 82) (ls' := [(0, .inr (.inr (.inl x0))), (2, .inl z15.1)]) (st' := [.inl 0]) rfl ?_
      have h := Option.some.inj h
      subst h
      exact hR _ _ (jat ok_X5_isMapOfNow 44 (pc := 82) (i := .ireturn) (n := 1) rfl rfl) (Or.inl rfl)
    · have h := (if_pos c).symm.trans h
      refine J_seg ok_X5_isMapOfNow 41 2 (pc' := 82) (ls' := [(0, .inr (.inr (.inl x0))), (2, .inl z15.1)]) (st' := [.inl 1]) rfl ?_
      have h := Option.some.inj h
      subst h
      exact hR _ _ (jat ok_X5_isMapOfNow 44 (pc := 82) (i := .ireturn) (n := 1) rfl rfl) (Or.inr rfl)
theorem c_X5_isMapOfNow (l : Launch) (g : GX) (d : Nat) {x0 : Option Nat} {x1 : Option Nat} {ah : AH} {q : Int32 × AH} (h : f_X5_isMapOfNow x0 x1 ah = some q) : jM l g (d + 3) md_X5_isMapOfNow [.inr (.inr (.inl x0)), .inr (.inr (.inl x1))] ah (some (.inl q.1)) q.2 :=
  jM_of (by decide) (Nat.le_of_ble_eq_true rfl) (k_X5_isMapOfNow d ah q h (fun pc ls hd c => J_reti hd rfl (jPV_z c) rfl (Nat.le_refl _) rfl rfl))
def f_X5_none_b44 (k0 : Option Nat) (k2 : Option Nat) (s44 : Int32) (ah : AH) : Option ((Int32 × AH) ⊕ (((Unit) × AH) ⊕ ((Int32) × AH))) :=
  (gR ah k0 5 8).bind fun v11 => (gI ah v11 1 5).bind fun v13 => if v13 ≤ s44 then (some (.inr (.inl ((), ah)))) else (if qO ah k2 2 = true then ((f_X2_get k2 s44 ah).bind fun q15 => if q15.1 = (-9) then (some (.inr (.inr (s44 + 1, q15.2)))) else ((gR q15.2 k0 5 8).bind fun v18 => if qO q15.2 v18 1 = true then ((f_X1_against v18 s44 q15.1 q15.2).bind fun q20 => if qO q20.2 k0 5 = true then ((f_X5_lossOf k0 q15.1 q20.2).bind fun q23 => if q20.1 ≤ q23.1 then (some (.inr (.inr (s44 + 1, q23.2)))) else (some (.inl (0, q23.2)))) else none) else none)) else none)
set_option maxRecDepth 100000 in
set_option maxHeartbeats 4000000 in
theorem k_X5_none_b44 {l : Launch} {g : GX} (d : Nat) {Q : jQ} {k0 : Option Nat} {k2 : Option Nat} (s44 : Int32) (ah : AH) (out : (Int32 × AH) ⊕ (((Unit) × AH) ⊕ ((Int32) × AH))) (h : f_X5_none_b44 k0 k2 s44 ah = some out) (hR : ∀ q, out = .inl q → jRetI l g md_X5_none (jRm (d + 6) md_X5_none) Q (0, 0) q.1 q.2) (hX : ∀ q, out = .inr (.inl q) → J l g md_X5_none (jRm (d + 6) md_X5_none) Q 99 [] [] q.2 (0, 0)) (hN : ∀ q, out = .inr (.inr q) → J l g md_X5_none (jRm (d + 6) md_X5_none) Q 44 [(0, .inr (.inr (.inl k0))), (2, .inr (.inr (.inl k2))), (4, .inl q.1)] [] q.2 (0, 0)) : J l g md_X5_none (jRm (d + 6) md_X5_none) Q 44 [(0, .inr (.inr (.inl k0))), (2, .inr (.inr (.inl k2))), (4, .inl s44)] [] ah (0, 0) := by
  unfold f_X5_none_b44 at h
  refine J_seg ok_X5_none 27 2 (pc' := 47) (ls' := [(0, .inr (.inr (.inl k0))), (2, .inr (.inr (.inl k2))), (4, .inl s44)]) (st' := [.inr (.inr (.inl k0)), .inl s44]) rfl ?_
  obtain ⟨v11, h12, h⟩ := Option.bind_eq_some_iff.mp h
  refine J_getR (jat ok_X5_none 29 (pc := 47) (i := .getfield 53) (n := 3) rfl rfl) fl_RX5_53 h12 ?_
  obtain ⟨v13, h14, h⟩ := Option.bind_eq_some_iff.mp h
  refine J_getI (jat ok_X5_none 30 (pc := 50) (i := .getfield 127) (n := 3) rfl rfl) fl_RX5_127 h14 ?_
  refine J_ge (jat ok_X5_none 31 (pc := 53) (i := .if_icmp .ge 46) (n := 3) rfl rfl) (tgt := 99) (by decide) (fun c => ?_) (fun c => ?_)
  · have h := (if_pos c).symm.trans h
    exact J_sub (ls' := []) [] rfl (hX ((), ah) (Option.some.inj h).symm)
  · have h := (if_neg c).symm.trans h
    refine J_seg ok_X5_none 32 2 (pc' := 59) (ls' := [(0, .inr (.inr (.inl k0))), (2, .inr (.inr (.inl k2))), (4, .inl s44)]) (st' := [.inl s44, .inr (.inr (.inl k2))]) rfl ?_
    by_cases c17 : qO ah k2 2 = true
    case neg => exact absurd ((if_neg c17).symm.trans h) (by simp)
    have h := (if_pos c17).symm.trans h
    obtain ⟨q15, h16, h⟩ := Option.bind_eq_some_iff.mp h
    refine J_callV (md' := md_X2_get) (As := [.inl s44]) (st := []) (cs' := (0, 0)) (st' := [.inl q15.1]) (jat ok_X5_none 34 (pc := 59) (i := .invokevirtual 87) (n := 3) rfl rfl) ml_RX5_87 yv_X2_get c17 (c_X2_get l g (d + 4) h16) (jRo_of (by decide)) (Nat.le_of_ble_eq_true rfl) ⟨Nat.le_of_ble_eq_true rfl, Nat.le_of_ble_eq_true rfl⟩ rfl rfl rfl ?_
    refine J_seg ok_X5_none 35 3 (pc' := 68) (ls' := [(5, .inl q15.1), (0, .inr (.inr (.inl k0))), (2, .inr (.inr (.inl k2))), (4, .inl s44)]) (st' := [.inl (-9), .inl q15.1]) rfl ?_
    refine J_eq (jat ok_X5_none 38 (pc := 68) (i := .if_icmp .eq 25) (n := 3) rfl rfl) (tgt := 93) (by decide) (fun c => ?_) (fun c => ?_)
    · have h := (if_pos c).symm.trans h
      refine J_seg ok_X5_none 50 2 (pc' := 44) (ls' := [(4, .inl (s44 + 1)), (5, .inl q15.1), (0, .inr (.inr (.inl k0))), (2, .inr (.inr (.inl k2)))]) (st' := []) rfl ?_
      exact J_sub (ls' := [(0, .inr (.inr (.inl k0))), (2, .inr (.inr (.inl k2))), (4, .inl (s44 + 1))]) [2, 3, 0] rfl (hN (s44 + 1, q15.2) (Option.some.inj h).symm)
    · have h := (if_neg c).symm.trans h
      refine J_seg ok_X5_none 39 1 (pc' := 72) (ls' := [(5, .inl q15.1), (0, .inr (.inr (.inl k0))), (2, .inr (.inr (.inl k2))), (4, .inl s44)]) (st' := [.inr (.inr (.inl k0))]) rfl ?_
      obtain ⟨v18, h19, h⟩ := Option.bind_eq_some_iff.mp h
      refine J_getR (jat ok_X5_none 40 (pc := 72) (i := .getfield 53) (n := 3) rfl rfl) fl_RX5_53 h19 ?_
      refine J_seg ok_X5_none 41 2 (pc' := 79) (ls' := [(5, .inl q15.1), (0, .inr (.inr (.inl k0))), (2, .inr (.inr (.inl k2))), (4, .inl s44)]) (st' := [.inl q15.1, .inl s44, .inr (.inr (.inl v18))]) rfl ?_
      by_cases c22 : qO q15.2 v18 1 = true
      case neg => exact absurd ((if_neg c22).symm.trans h) (by simp)
      have h := (if_pos c22).symm.trans h
      obtain ⟨q20, h21, h⟩ := Option.bind_eq_some_iff.mp h
      refine J_callV (md' := md_X1_against) (As := [.inl s44, .inl q15.1]) (st := []) (cs' := (0, 0)) (st' := [.inl q20.1]) (jat ok_X5_none 43 (pc := 79) (i := .invokevirtual 162) (n := 3) rfl rfl) ml_RX5_162 yv_X1_against c22 (c_X1_against l g (d + 1) h21) (jRo_of (by decide)) (Nat.le_of_ble_eq_true rfl) ⟨Nat.le_of_ble_eq_true rfl, Nat.le_of_ble_eq_true rfl⟩ rfl rfl rfl ?_
      refine J_seg ok_X5_none 44 2 (pc' := 85) (ls' := [(5, .inl q15.1), (0, .inr (.inr (.inl k0))), (2, .inr (.inr (.inl k2))), (4, .inl s44)]) (st' := [.inl q15.1, .inr (.inr (.inl k0)), .inl q20.1]) rfl ?_
      by_cases c25 : qO q20.2 k0 5 = true
      case neg => exact absurd ((if_neg c25).symm.trans h) (by simp)
      have h := (if_pos c25).symm.trans h
      obtain ⟨q23, h24, h⟩ := Option.bind_eq_some_iff.mp h
      refine J_callV (md' := md_X5_lossOf) (As := [.inl q15.1]) (st := [.inl q20.1]) (cs' := (0, 0)) (st' := [.inl q23.1, .inl q20.1]) (jat ok_X5_none 46 (pc := 85) (i := .invokevirtual 209) (n := 3) rfl rfl) ml_RX5_209 yv_X5_lossOf c25 (c_X5_lossOf l g (d + 0) h24) (jRo_of (by decide)) (Nat.le_of_ble_eq_true rfl) ⟨Nat.le_of_ble_eq_true rfl, Nat.le_of_ble_eq_true rfl⟩ rfl rfl rfl ?_
      refine J_le (jat ok_X5_none 47 (pc := 88) (i := .if_icmp .le 5) (n := 3) rfl rfl) (tgt := 93) (by decide) (fun c => ?_) (fun c => ?_)
      · have h := (if_pos c).symm.trans h
        refine J_seg ok_X5_none 50 2 (pc' := 44) (ls' := [(4, .inl (s44 + 1)), (5, .inl q15.1), (0, .inr (.inr (.inl k0))), (2, .inr (.inr (.inl k2)))]) (st' := []) rfl ?_
        exact J_sub (ls' := [(0, .inr (.inr (.inl k0))), (2, .inr (.inr (.inl k2))), (4, .inl (s44 + 1))]) [2, 3, 0] rfl (hN (s44 + 1, q23.2) (Option.some.inj h).symm)
      · have h := (if_neg c).symm.trans h
        refine J_seg ok_X5_none 48 1 (pc' := 92) (ls' := [(5, .inl q15.1), (0, .inr (.inr (.inl k0))), (2, .inr (.inr (.inl k2))), (4, .inl s44)]) (st' := [.inl 0]) rfl ?_
        exact hR _ (Option.some.inj h).symm _ _ (jat ok_X5_none 49 (pc := 92) (i := .ireturn) (n := 1) rfl rfl)
def f_X5_none (x0 : Option Nat) (x1 : Int32) (ah : AH) : Option (Int32 × AH) :=
  (gR ah x0 5 0).bind fun v1 => (f_X5_lineAt v1 x1 ah).bind fun q3 => if q3.1 = none then (some ((-1), q3.2)) else (if qO q3.2 x0 5 = true then ((f_X5_refuseFolkRow x0 q3.1 q3.2).bind fun q5 => if q5.1 = 0 then (if qO q5.2 x0 5 = true then ((f_X5_isMapOfNow x0 q3.1 q5.2).bind fun q8 => if q8.1 = 0 then (if qO q8.2 x0 5 = true then ((f_X5_find x0 3 q8.2).bind fun q30 => some (q30.1, q30.2)) else none) else ((jloop (f_X5_none_b44 x0 q3.1) jfuel 0 q8.2).bind fun q26 => match q26 with | .inl r => some r | .inr z28 => some (1, z28.2))) else none) else (some (q5.1, q5.2))) else none)
set_option maxRecDepth 100000 in
set_option maxHeartbeats 4000000 in
theorem k_X5_none {l : Launch} {g : GX} (d : Nat) {Q : jQ} {x0 : Option Nat} {x1 : Int32} (ah : AH) (out : Int32 × AH) (h : f_X5_none x0 x1 ah = some out) (hR : jRetI l g md_X5_none (jRm (d + 6) md_X5_none) Q (0, 0) out.1 out.2) : J l g md_X5_none (jRm (d + 6) md_X5_none) Q 0 [(0, .inr (.inr (.inl x0))), (1, .inl x1)] [] ah (0, 0) := by
  unfold f_X5_none at h
  refine J_seg ok_X5_none 0 1 (pc' := 1) (ls' := [(0, .inr (.inr (.inl x0))), (1, .inl x1)]) (st' := [.inr (.inr (.inl x0))]) rfl ?_
  obtain ⟨v1, h2, h⟩ := Option.bind_eq_some_iff.mp h
  refine J_getR (jat ok_X5_none 1 (pc := 1) (i := .getfield 11) (n := 3) rfl rfl) fl_RX5_11 h2 ?_
  refine J_seg ok_X5_none 2 1 (pc' := 5) (ls' := [(0, .inr (.inr (.inl x0))), (1, .inl x1)]) (st' := [.inl x1, .inr (.inr (.inl v1))]) rfl ?_
  obtain ⟨q3, h4, h⟩ := Option.bind_eq_some_iff.mp h
  refine J_callS (md' := md_X5_lineAt) (As := [.inr (.inr (.inl v1)), .inl x1]) (st := []) (cs' := (0, 0)) (st' := [.inr (.inr (.inl q3.1))]) (jat ok_X5_none 3 (pc := 5) (i := .invokestatic 71) (n := 3) rfl rfl) (Or.inl ml_RX5_71) ys_X5_lineAt (c_X5_lineAt l g (d + 5) h4) (jRo_of (by decide)) (Nat.le_of_ble_eq_true rfl) ⟨Nat.le_of_ble_eq_true rfl, Nat.le_of_ble_eq_true rfl⟩ rfl rfl rfl ?_
  refine J_seg ok_X5_none 4 2 (pc' := 10) (ls' := [(2, .inr (.inr (.inl q3.1))), (0, .inr (.inr (.inl x0))), (1, .inl x1)]) (st' := [.inr (.inr (.inl q3.1))]) rfl ?_
  refine J_nonnull (jat ok_X5_none 6 (pc := 10) (i := .ifnonnull 5) (n := 3) rfl rfl) (tgt := 15) (by decide) (fun c => ?_) (fun c => ?_)
  · have h := (if_neg c).symm.trans h
    refine J_seg ok_X5_none 9 2 (pc' := 17) (ls' := [(2, .inr (.inr (.inl q3.1))), (0, .inr (.inr (.inl x0))), (1, .inl x1)]) (st' := [.inr (.inr (.inl q3.1)), .inr (.inr (.inl x0))]) rfl ?_
    by_cases c7 : qO q3.2 x0 5 = true
    case neg => exact absurd ((if_neg c7).symm.trans h) (by simp)
    have h := (if_pos c7).symm.trans h
    obtain ⟨q5, h6, h⟩ := Option.bind_eq_some_iff.mp h
    refine J_callV (md' := md_X5_refuseFolkRow) (As := [.inr (.inr (.inl q3.1))]) (st := []) (cs' := (0, 0)) (st' := [.inl q5.1]) (jat ok_X5_none 11 (pc := 17) (i := .invokevirtual 165) (n := 3) rfl rfl) ml_RX5_165 yv_X5_refuseFolkRow c7 (c_X5_refuseFolkRow l g (d + 3) h6) (jRo_of (by decide)) (Nat.le_of_ble_eq_true rfl) ⟨Nat.le_of_ble_eq_true rfl, Nat.le_of_ble_eq_true rfl⟩ rfl rfl rfl ?_
    refine J_seg ok_X5_none 12 2 (pc' := 22) (ls' := [(3, .inl q5.1), (2, .inr (.inr (.inl q3.1))), (0, .inr (.inr (.inl x0))), (1, .inl x1)]) (st' := [.inl q5.1]) rfl ?_
    refine J_eq0 (jat ok_X5_none 14 (pc := 22) (i := .ifCond .eq 5) (n := 3) rfl rfl) (tgt := 27) (by decide) (fun c => ?_) (fun c => ?_)
    · have h := (if_pos c).symm.trans h
      refine J_seg ok_X5_none 17 2 (pc' := 29) (ls' := [(3, .inl q5.1), (2, .inr (.inr (.inl q3.1))), (0, .inr (.inr (.inl x0))), (1, .inl x1)]) (st' := [.inr (.inr (.inl q3.1)), .inr (.inr (.inl x0))]) rfl ?_
      by_cases c10 : qO q5.2 x0 5 = true
      case neg => exact absurd ((if_neg c10).symm.trans h) (by simp)
      have h := (if_pos c10).symm.trans h
      obtain ⟨q8, h9, h⟩ := Option.bind_eq_some_iff.mp h
      refine J_callV (md' := md_X5_isMapOfNow) (As := [.inr (.inr (.inl q3.1))]) (st := []) (cs' := (0, 0)) (st' := [.inl q8.1]) (jat ok_X5_none 19 (pc := 29) (i := .invokevirtual 238) (n := 3) rfl rfl) ml_RX5_238 yv_X5_isMapOfNow c10 (c_X5_isMapOfNow l g (d + 2) h9) (jRo_of (by decide)) (Nat.le_of_ble_eq_true rfl) ⟨Nat.le_of_ble_eq_true rfl, Nat.le_of_ble_eq_true rfl⟩ rfl rfl rfl ?_
      refine J_ne0 (jat ok_X5_none 20 (pc := 32) (i := .ifCond .ne 9) (n := 3) rfl rfl) (tgt := 41) (by decide) (fun c => ?_) (fun c => ?_)
      · have h := (if_neg c).symm.trans h
        refine J_seg ok_X5_none 25 2 (pc' := 44) (ls' := [(4, .inl 0), (3, .inl q5.1), (2, .inr (.inr (.inl q3.1))), (0, .inr (.inr (.inl x0))), (1, .inl x1)]) (st' := []) rfl ?_
        obtain ⟨q26, h27, h⟩ := Option.bind_eq_some_iff.mp h
        refine J_sub (ls' := [(0, .inr (.inr (.inl x0))), (2, .inr (.inr (.inl q3.1))), (4, .inl 0)]) [3, 2, 0] rfl ?_
        refine J_loop (pE := 99) (lh := fun t29 => [(0, .inr (.inr (.inl x0))), (2, .inr (.inr (.inl q3.1))), (4, .inl t29)]) (lx := fun z28 => []) (P := jRetI l g md_X5_none (jRm (d + 6) md_X5_none) Q (0, 0)) (fun s ah out hb hR hX hN => k_X5_none_b44 d s ah out hb hR hX hN) jfuel 0 _ _ h27 (fun r e => ?_) (fun z28 e => ?_)
        · subst e
          dsimp only at h
          have h := Option.some.inj h
          subst h
          exact hR
        · subst e
          dsimp only at h
          refine J_seg ok_X5_none 52 1 (pc' := 100) (ls' := []) (st' := [.inl 1]) rfl ?_
          have h := Option.some.inj h
          subst h
          exact hR _ _ (jat ok_X5_none 53 (pc := 100) (i := .ireturn) (n := 1) rfl rfl)
      · have h := (if_pos c).symm.trans h
        refine J_seg ok_X5_none 21 2 (pc' := 37) (ls' := [(3, .inl q5.1), (2, .inr (.inr (.inl q3.1))), (0, .inr (.inr (.inl x0))), (1, .inl x1)]) (st' := [.inl 3, .inr (.inr (.inl x0))]) rfl ?_
        by_cases c32 : qO q8.2 x0 5 = true
        case neg => exact absurd ((if_neg c32).symm.trans h) (by simp)
        have h := (if_pos c32).symm.trans h
        obtain ⟨q30, h31, h⟩ := Option.bind_eq_some_iff.mp h
        refine J_callV (md' := md_X5_find) (As := [.inl 3]) (st := []) (cs' := (0, 0)) (st' := [.inl q30.1]) (jat ok_X5_none 23 (pc := 37) (i := .invokevirtual 75) (n := 3) rfl rfl) ml_RX5_75 yv_X5_find c32 (c_X5_find l g (d + 5) h31) (jRo_of (by decide)) (Nat.le_of_ble_eq_true rfl) ⟨Nat.le_of_ble_eq_true rfl, Nat.le_of_ble_eq_true rfl⟩ rfl rfl rfl ?_
        have h := Option.some.inj h
        subst h
        exact hR _ _ (jat ok_X5_none 24 (pc := 40) (i := .ireturn) (n := 1) rfl rfl)
    · have h := (if_neg c).symm.trans h
      refine J_seg ok_X5_none 15 1 (pc' := 26) (ls' := [(3, .inl q5.1), (2, .inr (.inr (.inl q3.1))), (0, .inr (.inr (.inl x0))), (1, .inl x1)]) (st' := [.inl q5.1]) rfl ?_
      have h := Option.some.inj h
      subst h
      exact hR _ _ (jat ok_X5_none 16 (pc := 26) (i := .ireturn) (n := 1) rfl rfl)
  · have h := (if_pos c).symm.trans h
    refine J_seg ok_X5_none 7 1 (pc' := 14) (ls' := [(2, .inr (.inr (.inl q3.1))), (0, .inr (.inr (.inl x0))), (1, .inl x1)]) (st' := [.inl (-1)]) rfl ?_
    have h := Option.some.inj h
    subst h
    exact hR _ _ (jat ok_X5_none 8 (pc := 14) (i := .ireturn) (n := 1) rfl rfl)
theorem c_X5_none (l : Launch) (g : GX) (d : Nat) {x0 : Option Nat} {x1 : Int32} {ah : AH} {q : Int32 × AH} (h : f_X5_none x0 x1 ah = some q) : jM l g (d + 6) md_X5_none [.inr (.inr (.inl x0)), .inl x1] ah (some (.inl q.1)) q.2 :=
  jM_of (by decide) (Nat.le_of_ble_eq_true rfl) (k_X5_none d ah q h (fun pc ls hd => J_reti hd rfl (jPV_int _) rfl (Nat.le_refl _) rfl rfl))
def f_X5_commonDivisor_b9 (s9 : Int64 × Int64 × Int32) (ah : AH) : Option ((Unit × AH) ⊕ (((Int64) × AH) ⊕ ((Int64 × Int64 × Int32) × AH))) :=
  if 100 ≤ s9.2.2 then (some (.inr (.inl (s9.1, ah)))) else (if (lg_cmp s9.2.1 0) ≤ 0 then (some (.inr (.inl (s9.1, ah)))) else (if s9.2.1 = 0 then none else (some (.inr (.inr ((s9.2.1, s9.1 - s9.1 / s9.2.1 * s9.2.1, s9.2.2 + 1), ah))))))
set_option maxRecDepth 100000 in
set_option maxHeartbeats 4000000 in
theorem k_X5_commonDivisor_b9 {l : Launch} {g : GX} (d : Nat) {Q : jQ} (s9 : Int64 × Int64 × Int32) (ah : AH) (out : (Unit × AH) ⊕ (((Int64) × AH) ⊕ ((Int64 × Int64 × Int32) × AH))) (h : f_X5_commonDivisor_b9 s9 ah = some out) (hR : ∀ q, out = .inl q → jRetN q.1 q.2) (hX : ∀ q, out = .inr (.inl q) → J l g md_X5_commonDivisor (jRm (d + 0) md_X5_commonDivisor) Q 44 [(4, .inr (.inl q.1))] [] q.2 (0, 0)) (hN : ∀ q, out = .inr (.inr q) → J l g md_X5_commonDivisor (jRm (d + 0) md_X5_commonDivisor) Q 9 [(4, .inr (.inl q.1.1)), (6, .inr (.inl q.1.2.1)), (8, .inl q.1.2.2)] [] q.2 (0, 0)) : J l g md_X5_commonDivisor (jRm (d + 0) md_X5_commonDivisor) Q 9 [(4, .inr (.inl s9.1)), (6, .inr (.inl s9.2.1)), (8, .inl s9.2.2)] [] ah (0, 0) := by
  unfold f_X5_commonDivisor_b9 at h
  refine J_seg ok_X5_commonDivisor 6 2 (pc' := 13) (ls' := [(4, .inr (.inl s9.1)), (6, .inr (.inl s9.2.1)), (8, .inl s9.2.2)]) (st' := [.inl 100, .inl s9.2.2]) rfl ?_
  refine J_ge (jat ok_X5_commonDivisor 8 (pc := 13) (i := .if_icmp .ge 31) (n := 3) rfl rfl) (tgt := 44) (by decide) (fun c => ?_) (fun c => ?_)
  · have h := (if_pos c).symm.trans h
    exact J_sub (ls' := [(4, .inr (.inl s9.1))]) [0] rfl (hX (s9.1, ah) (Option.some.inj h).symm)
  · have h := (if_neg c).symm.trans h
    refine J_seg ok_X5_commonDivisor 9 3 (pc' := 20) (ls' := [(4, .inr (.inl s9.1)), (6, .inr (.inl s9.2.1)), (8, .inl s9.2.2)]) (st' := [.inl (lg_cmp s9.2.1 0)]) rfl ?_
    refine J_le0 (jat ok_X5_commonDivisor 12 (pc := 20) (i := .ifCond .le 24) (n := 3) rfl rfl) (tgt := 44) (by decide) (fun c => ?_) (fun c => ?_)
    · have h := (if_pos c).symm.trans h
      exact J_sub (ls' := [(4, .inr (.inl s9.1))]) [0] rfl (hX (s9.1, ah) (Option.some.inj h).symm)
    · have h := (if_neg c).symm.trans h
      refine J_seg ok_X5_commonDivisor 13 2 (pc' := 27) (ls' := [(4, .inr (.inl s9.1)), (6, .inr (.inl s9.2.1)), (8, .inl s9.2.2)]) (st' := [.inr (.inl s9.2.1), .inr (.inl s9.1)]) rfl ?_
      by_cases e1 : s9.2.1 = 0
      · exact absurd ((if_pos e1).symm.trans h) (by simp)
      have h := (if_neg e1).symm.trans h
      refine J_lrem (jat ok_X5_commonDivisor 15 (pc := 27) (i := .lrem) (n := 1) rfl rfl) e1 ?_
      refine J_seg ok_X5_commonDivisor 16 7 (pc' := 9) (ls' := [(8, .inl (s9.2.2 + 1)), (6, .inr (.inl (s9.1 - s9.1 / s9.2.1 * s9.2.1))), (4, .inr (.inl s9.2.1)), (9, .inr (.inl (s9.1 - s9.1 / s9.2.1 * s9.2.1)))]) (st' := []) rfl ?_
      exact J_sub (ls' := [(4, .inr (.inl s9.2.1)), (6, .inr (.inl (s9.1 - s9.1 / s9.2.1 * s9.2.1))), (8, .inl (s9.2.2 + 1))]) [2, 1, 0] rfl (hN ((s9.2.1, s9.1 - s9.1 / s9.2.1 * s9.2.1, s9.2.2 + 1), ah) (Option.some.inj h).symm)
def f_X5_commonDivisor (x0 : Int64) (x2 : Int64) (ah : AH) : Option (Int64 × AH) :=
  (jloop f_X5_commonDivisor_b9 jfuel (x0, x2, 0) ah).bind fun q2 => match q2 with | .inl r => none | .inr z4 => some (z4.1, z4.2)
set_option maxRecDepth 100000 in
set_option maxHeartbeats 4000000 in
theorem k_X5_commonDivisor {l : Launch} {g : GX} (d : Nat) {Q : jQ} {x0 : Int64} {x2 : Int64} (ah : AH) (out : Int64 × AH) (h : f_X5_commonDivisor x0 x2 ah = some out) (hR : jRetL l g md_X5_commonDivisor (jRm (d + 0) md_X5_commonDivisor) Q (0, 0) out.1 out.2) : J l g md_X5_commonDivisor (jRm (d + 0) md_X5_commonDivisor) Q 0 [(0, .inr (.inl x0)), (2, .inr (.inl x2))] [] ah (0, 0) := by
  unfold f_X5_commonDivisor at h
  refine J_seg ok_X5_commonDivisor 0 6 (pc' := 9) (ls' := [(8, .inl 0), (6, .inr (.inl x2)), (4, .inr (.inl x0)), (0, .inr (.inl x0)), (2, .inr (.inl x2))]) (st' := []) rfl ?_
  obtain ⟨q2, h3, h⟩ := Option.bind_eq_some_iff.mp h
  refine J_sub (ls' := [(4, .inr (.inl x0)), (6, .inr (.inl x2)), (8, .inl 0)]) [2, 1, 0] rfl ?_
  refine J_loop (pE := 44) (lh := fun t5 => [(4, .inr (.inl t5.1)), (6, .inr (.inl t5.2.1)), (8, .inl t5.2.2)]) (lx := fun z4 => [(4, .inr (.inl z4))]) (P := jRetN) (fun s ah out hb hR hX hN => k_X5_commonDivisor_b9 d s ah out hb hR hX hN) jfuel (x0, x2, 0) _ _ h3 (fun r e => ?_) (fun z4 e => ?_)
  · subst e
    dsimp only at h
    cases h
  · subst e
    dsimp only at h
    refine J_seg ok_X5_commonDivisor 23 1 (pc' := 46) (ls' := [(4, .inr (.inl z4.1))]) (st' := [.inr (.inl z4.1)]) rfl ?_
    have h := Option.some.inj h
    subst h
    exact hR _ _ (jat ok_X5_commonDivisor 24 (pc := 46) (i := .lreturn) (n := 1) rfl rfl)
theorem c_X5_commonDivisor (l : Launch) (g : GX) (d : Nat) {x0 : Int64} {x2 : Int64} {ah : AH} {q : Int64 × AH} (h : f_X5_commonDivisor x0 x2 ah = some q) : jM l g (d + 0) md_X5_commonDivisor [.inr (.inl x0), .inr (.inl x2)] ah (some (.inr (.inl q.1))) q.2 :=
  jM_of (by decide) (Nat.le_of_ble_eq_true rfl) (k_X5_commonDivisor d ah q h (fun pc ls hd => J_retl hd rfl rfl (Nat.le_refl _) rfl rfl))
def f_X5_tell (x0 : Option Nat) (x1 : Int64) (x3 : Int64) (ah : AH) : Option (Int32 × AH) :=
  (f_X5_commonDivisor x1 x3 ah).bind fun q1 => if (lg_cmp q1.1 0) ≤ 0 then (some (1, q1.2)) else (if q1.1 = 0 then none else ((sF q1.2 x0 5 12 (.inr (.inl (x1 / q1.1)))).bind fun a4 => if q1.1 = 0 then none else ((sF a4 x0 5 13 (.inr (.inl (x3 / q1.1)))).bind fun a7 => some (1, a7))))
set_option maxRecDepth 100000 in
set_option maxHeartbeats 4000000 in
theorem k_X5_tell {l : Launch} {g : GX} (d : Nat) {Q : jQ} {x0 : Option Nat} {x1 : Int64} {x3 : Int64} (ah : AH) (out : Int32 × AH) (h : f_X5_tell x0 x1 x3 ah = some out) (hR : jRetI l g md_X5_tell (jRm (d + 1) md_X5_tell) Q (0, 0) out.1 out.2) : J l g md_X5_tell (jRm (d + 1) md_X5_tell) Q 0 [(0, .inr (.inr (.inl x0))), (1, .inr (.inl x1)), (3, .inr (.inl x3))] [] ah (0, 0) := by
  unfold f_X5_tell at h
  refine J_seg ok_X5_tell 0 2 (pc' := 2) (ls' := [(0, .inr (.inr (.inl x0))), (1, .inr (.inl x1)), (3, .inr (.inl x3))]) (st' := [.inr (.inl x3), .inr (.inl x1)]) rfl ?_
  obtain ⟨q1, h2, h⟩ := Option.bind_eq_some_iff.mp h
  refine J_callS (md' := md_X5_commonDivisor) (As := [.inr (.inl x1), .inr (.inl x3)]) (st := []) (cs' := (0, 0)) (st' := [.inr (.inl q1.1)]) (jat ok_X5_tell 2 (pc := 2) (i := .invokestatic 357) (n := 3) rfl rfl) (Or.inl ml_RX5_357) ys_X5_commonDivisor (c_X5_commonDivisor l g (d + 0) h2) (jRo_of (by decide)) (Nat.le_of_ble_eq_true rfl) ⟨Nat.le_of_ble_eq_true rfl, Nat.le_of_ble_eq_true rfl⟩ rfl rfl rfl ?_
  refine J_seg ok_X5_tell 3 4 (pc' := 11) (ls' := [(5, .inr (.inl q1.1)), (0, .inr (.inr (.inl x0))), (1, .inr (.inl x1)), (3, .inr (.inl x3))]) (st' := [.inl (lg_cmp q1.1 0)]) rfl ?_
  refine J_le0 (jat ok_X5_tell 7 (pc := 11) (i := .ifCond .le 19) (n := 3) rfl rfl) (tgt := 30) (by decide) (fun c => ?_) (fun c => ?_)
  · have h := (if_pos c).symm.trans h
    refine J_seg ok_X5_tell 18 1 (pc' := 31) (ls' := [(5, .inr (.inl q1.1)), (0, .inr (.inr (.inl x0))), (1, .inr (.inl x1)), (3, .inr (.inl x3))]) (st' := [.inl 1]) rfl ?_
    have h := Option.some.inj h
    subst h
    exact hR _ _ (jat ok_X5_tell 19 (pc := 31) (i := .ireturn) (n := 1) rfl rfl)
  · have h := (if_neg c).symm.trans h
    refine J_seg ok_X5_tell 8 3 (pc' := 18) (ls' := [(5, .inr (.inl q1.1)), (0, .inr (.inr (.inl x0))), (1, .inr (.inl x1)), (3, .inr (.inl x3))]) (st' := [.inr (.inl q1.1), .inr (.inl x1), .inr (.inr (.inl x0))]) rfl ?_
    by_cases e3 : q1.1 = 0
    · exact absurd ((if_pos e3).symm.trans h) (by simp)
    have h := (if_neg e3).symm.trans h
    refine J_ldiv (jat ok_X5_tell 11 (pc := 18) (i := .ldiv) (n := 1) rfl rfl) e3 ?_
    obtain ⟨a4, h5, h⟩ := Option.bind_eq_some_iff.mp h
    refine J_put (jat ok_X5_tell 12 (pc := 19) (i := .putfield 279) (n := 3) rfl rfl) (fp_RX5_279 _) (jPV_long _) h5 ?_
    refine J_seg ok_X5_tell 13 3 (pc' := 26) (ls' := [(5, .inr (.inl q1.1)), (0, .inr (.inr (.inl x0))), (1, .inr (.inl x1)), (3, .inr (.inl x3))]) (st' := [.inr (.inl q1.1), .inr (.inl x3), .inr (.inr (.inl x0))]) rfl ?_
    by_cases e6 : q1.1 = 0
    · exact absurd ((if_pos e6).symm.trans h) (by simp)
    have h := (if_neg e6).symm.trans h
    refine J_ldiv (jat ok_X5_tell 16 (pc := 26) (i := .ldiv) (n := 1) rfl rfl) e6 ?_
    obtain ⟨a7, h8, h⟩ := Option.bind_eq_some_iff.mp h
    refine J_put (jat ok_X5_tell 17 (pc := 27) (i := .putfield 67) (n := 3) rfl rfl) (fp_RX5_67 _) (jPV_long _) h8 ?_
    refine J_seg ok_X5_tell 18 1 (pc' := 31) (ls' := [(5, .inr (.inl q1.1)), (0, .inr (.inr (.inl x0))), (1, .inr (.inl x1)), (3, .inr (.inl x3))]) (st' := [.inl 1]) rfl ?_
    have h := Option.some.inj h
    subst h
    exact hR _ _ (jat ok_X5_tell 19 (pc := 31) (i := .ireturn) (n := 1) rfl rfl)
theorem c_X5_tell (l : Launch) (g : GX) (d : Nat) {x0 : Option Nat} {x1 : Int64} {x3 : Int64} {ah : AH} {q : Int32 × AH} (h : f_X5_tell x0 x1 x3 ah = some q) : jM l g (d + 1) md_X5_tell [.inr (.inr (.inl x0)), .inr (.inl x1), .inr (.inl x3)] ah (some (.inl q.1)) q.2 :=
  jM_of (by decide) (Nat.le_of_ble_eq_true rfl) (k_X5_tell d ah q h (fun pc ls hd => J_reti hd rfl (jPV_int _) rfl (Nat.le_refl _) rfl rfl))
