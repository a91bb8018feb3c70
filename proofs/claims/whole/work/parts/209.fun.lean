def f_X5_maps (x0 : Option Nat) (ah : AH) : Option (Int32 × AH) :=
  (gR ah x0 5 8).bind fun v1 => (gI ah v1 1 5).bind fun v3 => if v3 = 0 then (some ((-4), ah)) else ((gR ah x0 5 5).bind fun v5 => (gR ah x0 5 8).bind fun v7 => (gR ah x0 5 8).bind fun v9 => if qO ah v9 1 = true then ((f_X1_everyone v9 ah).bind fun q11 => if qO q11.2 v5 0 = true then ((f_X0_seek v5 v7 q11.1 0 q11.2).bind fun q14 => (gR q14.2 x0 5 5).bind fun v17 => (gI q14.2 v17 0 3).bind fun v19 => if qO q14.2 x0 5 = true then ((f_X5_tell x0 (Int32.toInt64 v19) 1 q14.2).bind fun q21 => some (q21.1, q21.2)) else none) else none) else none)
set_option maxRecDepth 100000 in
set_option maxHeartbeats 4000000 in
theorem k_X5_maps {l : Launch} {g : GX} (d : Nat) {Q : jQ} {x0 : Option Nat} (ah : AH) (out : Int32 × AH) (h : f_X5_maps x0 ah = some out) (hR : jRetI l g md_X5_maps (jRm (d + 11) md_X5_maps) Q (0, 0) out.1 out.2) : J l g md_X5_maps (jRm (d + 11) md_X5_maps) Q 0 [(0, .inr (.inr (.inl x0)))] [] ah (0, 0) := by
  unfold f_X5_maps at h
  refine J_seg ok_X5_maps 0 1 (pc' := 1) (ls' := [(0, .inr (.inr (.inl x0)))]) (st' := [.inr (.inr (.inl x0))]) rfl ?_
  obtain ⟨v1, h2, h⟩ := Option.bind_eq_some_iff.mp h
  refine J_getR (jat ok_X5_maps 1 (pc := 1) (i := .getfield 53) (n := 3) rfl rfl) fl_RX5_53 h2 ?_
  obtain ⟨v3, h4, h⟩ := Option.bind_eq_some_iff.mp h
  refine J_getI (jat ok_X5_maps 2 (pc := 4) (i := .getfield 127) (n := 3) rfl rfl) fl_RX5_127 h4 ?_
  refine J_ne0 (jat ok_X5_maps 3 (pc := 7) (i := .ifCond .ne 6) (n := 3) rfl rfl) (tgt := 13) (by decide) (fun c => ?_) (fun c => ?_)
  · have h := (if_neg c).symm.trans h
    refine J_seg ok_X5_maps 6 1 (pc' := 14) (ls' := [(0, .inr (.inr (.inl x0)))]) (st' := [.inr (.inr (.inl x0))]) rfl ?_
    obtain ⟨v5, h6, h⟩ := Option.bind_eq_some_iff.mp h
    refine J_getR (jat ok_X5_maps 7 (pc := 14) (i := .getfield 39) (n := 3) rfl rfl) fl_RX5_39 h6 ?_
    refine J_seg ok_X5_maps 8 1 (pc' := 18) (ls' := [(0, .inr (.inr (.inl x0)))]) (st' := [.inr (.inr (.inl x0)), .inr (.inr (.inl v5))]) rfl ?_
    obtain ⟨v7, h8, h⟩ := Option.bind_eq_some_iff.mp h
    refine J_getR (jat ok_X5_maps 9 (pc := 18) (i := .getfield 53) (n := 3) rfl rfl) fl_RX5_53 h8 ?_
    refine J_seg ok_X5_maps 10 1 (pc' := 22) (ls' := [(0, .inr (.inr (.inl x0)))]) (st' := [.inr (.inr (.inl x0)), .inr (.inr (.inl v7)), .inr (.inr (.inl v5))]) rfl ?_
    obtain ⟨v9, h10, h⟩ := Option.bind_eq_some_iff.mp h
    refine J_getR (jat ok_X5_maps 11 (pc := 22) (i := .getfield 53) (n := 3) rfl rfl) fl_RX5_53 h10 ?_
    by_cases c13 : qO ah v9 1 = true
    case neg => exact absurd ((if_neg c13).symm.trans h) (by simp)
    have h := (if_pos c13).symm.trans h
    obtain ⟨q11, h12, h⟩ := Option.bind_eq_some_iff.mp h
    refine J_callV (md' := md_X1_everyone) (As := []) (st := [.inr (.inr (.inl v7)), .inr (.inr (.inl v5))]) (cs' := (0, 0)) (st' := [.inl q11.1, .inr (.inr (.inl v7)), .inr (.inr (.inl v5))]) (jat ok_X5_maps 12 (pc := 25) (i := .invokevirtual 242) (n := 3) rfl rfl) ml_RX5_242 yv_X1_everyone c13 (c_X1_everyone l g (d + 10) h12) (jRo_of (by decide)) (Nat.le_of_ble_eq_true rfl) ⟨Nat.le_of_ble_eq_true rfl, Nat.le_of_ble_eq_true rfl⟩ rfl rfl rfl ?_
    refine J_seg ok_X5_maps 13 1 (pc' := 29) (ls' := [(0, .inr (.inr (.inl x0)))]) (st' := [.inl 0, .inl q11.1, .inr (.inr (.inl v7)), .inr (.inr (.inl v5))]) rfl ?_
    by_cases c16 : qO q11.2 v5 0 = true
    case neg => exact absurd ((if_neg c16).symm.trans h) (by simp)
    have h := (if_pos c16).symm.trans h
    obtain ⟨q14, h15, h⟩ := Option.bind_eq_some_iff.mp h
    refine J_callV (md' := md_X0_seek) (As := [.inr (.inr (.inl v7)), .inl q11.1, .inl 0]) (st := []) (cs' := (0, 0)) (st' := []) (jat ok_X5_maps 14 (pc := 29) (i := .invokevirtual 225) (n := 3) rfl rfl) ml_RX5_225 yv_X0_seek c16 (c_X0_seek l g (d + 0) h15) (jRo_of (by decide)) (Nat.le_of_ble_eq_true rfl) ⟨Nat.le_of_ble_eq_true rfl, Nat.le_of_ble_eq_true rfl⟩ rfl rfl rfl ?_
    refine J_seg ok_X5_maps 15 2 (pc' := 34) (ls' := [(0, .inr (.inr (.inl x0)))]) (st' := [.inr (.inr (.inl x0)), .inr (.inr (.inl x0))]) rfl ?_
    obtain ⟨v17, h18, h⟩ := Option.bind_eq_some_iff.mp h
    refine J_getR (jat ok_X5_maps 17 (pc := 34) (i := .getfield 39) (n := 3) rfl rfl) fl_RX5_39 h18 ?_
    obtain ⟨v19, h20, h⟩ := Option.bind_eq_some_iff.mp h
    refine J_getI (jat ok_X5_maps 18 (pc := 37) (i := .getfield 232) (n := 3) rfl rfl) fl_RX5_232 h20 ?_
    refine J_seg ok_X5_maps 19 2 (pc' := 42) (ls' := [(0, .inr (.inr (.inl x0)))]) (st' := [.inr (.inl 1), .inr (.inl (Int32.toInt64 v19)), .inr (.inr (.inl x0))]) rfl ?_
    by_cases c23 : qO q14.2 x0 5 = true
    case neg => exact absurd ((if_neg c23).symm.trans h) (by simp)
    have h := (if_pos c23).symm.trans h
    obtain ⟨q21, h22, h⟩ := Option.bind_eq_some_iff.mp h
    refine J_callV (md' := md_X5_tell) (As := [.inr (.inl (Int32.toInt64 v19)), .inr (.inl 1)]) (st := []) (cs' := (0, 0)) (st' := [.inl q21.1]) (jat ok_X5_maps 21 (pc := 42) (i := .invokevirtual 245) (n := 3) rfl rfl) ml_RX5_245 yv_X5_tell c23 (c_X5_tell l g (d + 9) h22) (jRo_of (by decide)) (Nat.le_of_ble_eq_true rfl) ⟨Nat.le_of_ble_eq_true rfl, Nat.le_of_ble_eq_true rfl⟩ rfl rfl rfl ?_
    have h := Option.some.inj h
    subst h
    exact hR _ _ (jat ok_X5_maps 22 (pc := 45) (i := .ireturn) (n := 1) rfl rfl)
  · have h := (if_pos c).symm.trans h
    refine J_seg ok_X5_maps 4 1 (pc' := 12) (ls' := [(0, .inr (.inr (.inl x0)))]) (st' := [.inl (-4)]) rfl ?_
    have h := Option.some.inj h
    subst h
    exact hR _ _ (jat ok_X5_maps 5 (pc := 12) (i := .ireturn) (n := 1) rfl rfl)
theorem c_X5_maps (l : Launch) (g : GX) (d : Nat) {x0 : Option Nat} {ah : AH} {q : Int32 × AH} (h : f_X5_maps x0 ah = some q) : jM l g (d + 11) md_X5_maps [.inr (.inr (.inl x0))] ah (some (.inl q.1)) q.2 :=
  jM_of (by decide) (Nat.le_of_ble_eq_true rfl) (k_X5_maps d ah q h (fun pc ls hd => J_reti hd rfl (jPV_int _) rfl (Nat.le_refl _) rfl rfl))
def f_X5_refuseDraw (x0 : Option Nat) (x1 : Int32) (x2 : Int32) (ah : AH) : Option (Int32 × AH) :=
  if qO ah x0 5 = true then ((f_X5_isPair x0 x1 x2 ah).bind fun q1 => if q1.1 = 0 then (some ((-1), q1.2)) else ((gR q1.2 x0 5 5).bind fun v4 => (gR q1.2 x0 5 8).bind fun v6 => (gR q1.2 x0 5 8).bind fun v8 => if qO q1.2 v8 1 = true then ((f_X1_everyone v8 q1.2).bind fun q10 => if qO q10.2 v4 0 = true then ((f_X0_seek v4 v6 q10.1 0 q10.2).bind fun q13 => (gR q13.2 x0 5 5).bind fun v16 => (gI q13.2 v16 0 3).bind fun v18 => if v18 = 0 then (if qO q13.2 x0 5 = true then ((f_X5_find x0 4 q13.2).bind fun q20 => some (q20.1, q20.2)) else none) else (some (0, q13.2))) else none) else none)) else none
set_option maxRecDepth 100000 in
set_option maxHeartbeats 4000000 in
theorem k_X5_refuseDraw {l : Launch} {g : GX} (d : Nat) {Q : jQ} {x0 : Option Nat} {x1 : Int32} {x2 : Int32} (ah : AH) (out : Int32 × AH) (h : f_X5_refuseDraw x0 x1 x2 ah = some out) (hR : jRetI l g md_X5_refuseDraw (jRm (d + 11) md_X5_refuseDraw) Q (0, 0) out.1 out.2) : J l g md_X5_refuseDraw (jRm (d + 11) md_X5_refuseDraw) Q 0 [(0, .inr (.inr (.inl x0))), (1, .inl x1), (2, .inl x2)] [] ah (0, 0) := by
  unfold f_X5_refuseDraw at h
  refine J_seg ok_X5_refuseDraw 0 3 (pc' := 3) (ls' := [(0, .inr (.inr (.inl x0))), (1, .inl x1), (2, .inl x2)]) (st' := [.inl x2, .inl x1, .inr (.inr (.inl x0))]) rfl ?_
  by_cases c3 : qO ah x0 5 = true
  case neg => exact absurd ((if_neg c3).symm.trans h) (by simp)
  have h := (if_pos c3).symm.trans h
  obtain ⟨q1, h2, h⟩ := Option.bind_eq_some_iff.mp h
  refine J_callV (md' := md_X5_isPair) (As := [.inl x1, .inl x2]) (st := []) (cs' := (0, 0)) (st' := [.inl q1.1]) (jat ok_X5_refuseDraw 3 (pc := 3) (i := .invokevirtual 159) (n := 3) rfl rfl) ml_RX5_159 yv_X5_isPair c3 (c_X5_isPair l g (d + 9) h2) (jRo_of (by decide)) (Nat.le_of_ble_eq_true rfl) ⟨Nat.le_of_ble_eq_true rfl, Nat.le_of_ble_eq_true rfl⟩ rfl rfl rfl ?_
  refine J_ne0 (jat ok_X5_refuseDraw 4 (pc := 6) (i := .ifCond .ne 5) (n := 3) rfl rfl) (tgt := 11) (by decide) (fun c => ?_) (fun c => ?_)
  · have h := (if_neg c).symm.trans h
    refine J_seg ok_X5_refuseDraw 7 1 (pc' := 12) (ls' := [(0, .inr (.inr (.inl x0))), (1, .inl x1), (2, .inl x2)]) (st' := [.inr (.inr (.inl x0))]) rfl ?_
    obtain ⟨v4, h5, h⟩ := Option.bind_eq_some_iff.mp h
    refine J_getR (jat ok_X5_refuseDraw 8 (pc := 12) (i := .getfield 39) (n := 3) rfl rfl) fl_RX5_39 h5 ?_
    refine J_seg ok_X5_refuseDraw 9 1 (pc' := 16) (ls' := [(0, .inr (.inr (.inl x0))), (1, .inl x1), (2, .inl x2)]) (st' := [.inr (.inr (.inl x0)), .inr (.inr (.inl v4))]) rfl ?_
    obtain ⟨v6, h7, h⟩ := Option.bind_eq_some_iff.mp h
    refine J_getR (jat ok_X5_refuseDraw 10 (pc := 16) (i := .getfield 53) (n := 3) rfl rfl) fl_RX5_53 h7 ?_
    refine J_seg ok_X5_refuseDraw 11 1 (pc' := 20) (ls' := [(0, .inr (.inr (.inl x0))), (1, .inl x1), (2, .inl x2)]) (st' := [.inr (.inr (.inl x0)), .inr (.inr (.inl v6)), .inr (.inr (.inl v4))]) rfl ?_
    obtain ⟨v8, h9, h⟩ := Option.bind_eq_some_iff.mp h
    refine J_getR (jat ok_X5_refuseDraw 12 (pc := 20) (i := .getfield 53) (n := 3) rfl rfl) fl_RX5_53 h9 ?_
    by_cases c12 : qO q1.2 v8 1 = true
    case neg => exact absurd ((if_neg c12).symm.trans h) (by simp)
    have h := (if_pos c12).symm.trans h
    obtain ⟨q10, h11, h⟩ := Option.bind_eq_some_iff.mp h
    refine J_callV (md' := md_X1_everyone) (As := []) (st := [.inr (.inr (.inl v6)), .inr (.inr (.inl v4))]) (cs' := (0, 0)) (st' := [.inl q10.1, .inr (.inr (.inl v6)), .inr (.inr (.inl v4))]) (jat ok_X5_refuseDraw 13 (pc := 23) (i := .invokevirtual 242) (n := 3) rfl rfl) ml_RX5_242 yv_X1_everyone c12 (c_X1_everyone l g (d + 10) h11) (jRo_of (by decide)) (Nat.le_of_ble_eq_true rfl) ⟨Nat.le_of_ble_eq_true rfl, Nat.le_of_ble_eq_true rfl⟩ rfl rfl rfl ?_
    refine J_seg ok_X5_refuseDraw 14 1 (pc' := 27) (ls' := [(0, .inr (.inr (.inl x0))), (1, .inl x1), (2, .inl x2)]) (st' := [.inl 0, .inl q10.1, .inr (.inr (.inl v6)), .inr (.inr (.inl v4))]) rfl ?_
    by_cases c15 : qO q10.2 v4 0 = true
    case neg => exact absurd ((if_neg c15).symm.trans h) (by simp)
    have h := (if_pos c15).symm.trans h
    obtain ⟨q13, h14, h⟩ := Option.bind_eq_some_iff.mp h
    refine J_callV (md' := md_X0_seek) (As := [.inr (.inr (.inl v6)), .inl q10.1, .inl 0]) (st := []) (cs' := (0, 0)) (st' := []) (jat ok_X5_refuseDraw 15 (pc := 27) (i := .invokevirtual 225) (n := 3) rfl rfl) ml_RX5_225 yv_X0_seek c15 (c_X0_seek l g (d + 0) h14) (jRo_of (by decide)) (Nat.le_of_ble_eq_true rfl) ⟨Nat.le_of_ble_eq_true rfl, Nat.le_of_ble_eq_true rfl⟩ rfl rfl rfl ?_
    refine J_seg ok_X5_refuseDraw 16 1 (pc' := 31) (ls' := [(0, .inr (.inr (.inl x0))), (1, .inl x1), (2, .inl x2)]) (st' := [.inr (.inr (.inl x0))]) rfl ?_
    obtain ⟨v16, h17, h⟩ := Option.bind_eq_some_iff.mp h
    refine J_getR (jat ok_X5_refuseDraw 17 (pc := 31) (i := .getfield 39) (n := 3) rfl rfl) fl_RX5_39 h17 ?_
    obtain ⟨v18, h19, h⟩ := Option.bind_eq_some_iff.mp h
    refine J_getI (jat ok_X5_refuseDraw 18 (pc := 34) (i := .getfield 232) (n := 3) rfl rfl) fl_RX5_232 h19 ?_
    refine J_ne0 (jat ok_X5_refuseDraw 19 (pc := 37) (i := .ifCond .ne 11) (n := 3) rfl rfl) (tgt := 48) (by decide) (fun c => ?_) (fun c => ?_)
    · have h := (if_neg c).symm.trans h
      refine J_seg ok_X5_refuseDraw 24 1 (pc' := 49) (ls' := [(0, .inr (.inr (.inl x0))), (1, .inl x1), (2, .inl x2)]) (st' := [.inl 0]) rfl ?_
      have h := Option.some.inj h
      subst h
      exact hR _ _ (jat ok_X5_refuseDraw 25 (pc := 49) (i := .ireturn) (n := 1) rfl rfl)
    · have h := (if_pos c).symm.trans h
      refine J_seg ok_X5_refuseDraw 20 2 (pc' := 42) (ls' := [(0, .inr (.inr (.inl x0))), (1, .inl x1), (2, .inl x2)]) (st' := [.inl 4, .inr (.inr (.inl x0))]) rfl ?_
      by_cases c22 : qO q13.2 x0 5 = true
      case neg => exact absurd ((if_neg c22).symm.trans h) (by simp)
      have h := (if_pos c22).symm.trans h
      obtain ⟨q20, h21, h⟩ := Option.bind_eq_some_iff.mp h
      refine J_callV (md' := md_X5_find) (As := [.inl 4]) (st := []) (cs' := (0, 0)) (st' := [.inl q20.1]) (jat ok_X5_refuseDraw 22 (pc := 42) (i := .invokevirtual 75) (n := 3) rfl rfl) ml_RX5_75 yv_X5_find c22 (c_X5_find l g (d + 10) h21) (jRo_of (by decide)) (Nat.le_of_ble_eq_true rfl) ⟨Nat.le_of_ble_eq_true rfl, Nat.le_of_ble_eq_true rfl⟩ rfl rfl rfl ?_
      refine J_seg ok_X5_refuseDraw 23 1 (pc' := 49) (ls' := [(0, .inr (.inr (.inl x0))), (1, .inl x1), (2, .inl x2)]) (st' := [.inl q20.1]) rfl ?_
      have h := Option.some.inj h
      subst h
      exact hR _ _ (jat ok_X5_refuseDraw 25 (pc := 49) (i := .ireturn) (n := 1) rfl rfl)
  · have h := (if_pos c).symm.trans h
    refine J_seg ok_X5_refuseDraw 5 1 (pc' := 10) (ls' := [(0, .inr (.inr (.inl x0))), (1, .inl x1), (2, .inl x2)]) (st' := [.inl (-1)]) rfl ?_
    have h := Option.some.inj h
    subst h
    exact hR _ _ (jat ok_X5_refuseDraw 6 (pc := 10) (i := .ireturn) (n := 1) rfl rfl)
theorem c_X5_refuseDraw (l : Launch) (g : GX) (d : Nat) {x0 : Option Nat} {x1 : Int32} {x2 : Int32} {ah : AH} {q : Int32 × AH} (h : f_X5_refuseDraw x0 x1 x2 ah = some q) : jM l g (d + 11) md_X5_refuseDraw [.inr (.inr (.inl x0)), .inl x1, .inl x2] ah (some (.inl q.1)) q.2 :=
  jM_of (by decide) (Nat.le_of_ble_eq_true rfl) (k_X5_refuseDraw d ah q h (fun pc ls hd => J_reti hd rfl (jPV_int _) rfl (Nat.le_refl _) rfl rfl))
def f_X5_odds (x0 : Option Nat) (x1 : Int32) (x2 : Int32) (ah : AH) : Option (Int32 × AH) :=
  if qO ah x0 5 = true then ((f_X5_refuseDraw x0 x1 x2 ah).bind fun q1 => if q1.1 = 0 then ((gR q1.2 x0 5 5).bind fun v4 => if qO q1.2 v4 0 = true then ((f_X0_countPair v4 x1 x2 q1.2).bind fun q6 => (gR q6.2 x0 5 5).bind fun v9 => (gI q6.2 v9 0 3).bind fun v11 => if qO q6.2 x0 5 = true then ((f_X5_tell x0 (Int32.toInt64 q6.1) (Int32.toInt64 v11) q6.2).bind fun q13 => some (q13.1, q13.2)) else none) else none) else (some (q1.1, q1.2))) else none
set_option maxRecDepth 100000 in
set_option maxHeartbeats 4000000 in
theorem k_X5_odds {l : Launch} {g : GX} (d : Nat) {Q : jQ} {x0 : Option Nat} {x1 : Int32} {x2 : Int32} (ah : AH) (out : Int32 × AH) (h : f_X5_odds x0 x1 x2 ah = some out) (hR : jRetI l g md_X5_odds (jRm (d + 12) md_X5_odds) Q (0, 0) out.1 out.2) : J l g md_X5_odds (jRm (d + 12) md_X5_odds) Q 0 [(0, .inr (.inr (.inl x0))), (1, .inl x1), (2, .inl x2)] [] ah (0, 0) := by
  unfold f_X5_odds at h
  refine J_seg ok_X5_odds 0 3 (pc' := 3) (ls' := [(0, .inr (.inr (.inl x0))), (1, .inl x1), (2, .inl x2)]) (st' := [.inl x2, .inl x1, .inr (.inr (.inl x0))]) rfl ?_
  by_cases c3 : qO ah x0 5 = true
  case neg => exact absurd ((if_neg c3).symm.trans h) (by simp)
  have h := (if_pos c3).symm.trans h
  obtain ⟨q1, h2, h⟩ := Option.bind_eq_some_iff.mp h
  refine J_callV (md' := md_X5_refuseDraw) (As := [.inl x1, .inl x2]) (st := []) (cs' := (0, 0)) (st' := [.inl q1.1]) (jat ok_X5_odds 3 (pc := 3) (i := .invokevirtual 249) (n := 3) rfl rfl) ml_RX5_249 yv_X5_refuseDraw c3 (c_X5_refuseDraw l g (d + 0) h2) (jRo_of (by decide)) (Nat.le_of_ble_eq_true rfl) ⟨Nat.le_of_ble_eq_true rfl, Nat.le_of_ble_eq_true rfl⟩ rfl rfl rfl ?_
  refine J_seg ok_X5_odds 4 2 (pc' := 8) (ls' := [(3, .inl q1.1), (0, .inr (.inr (.inl x0))), (1, .inl x1), (2, .inl x2)]) (st' := [.inl q1.1]) rfl ?_
  refine J_eq0 (jat ok_X5_odds 6 (pc := 8) (i := .ifCond .eq 7) (n := 3) rfl rfl) (tgt := 15) (by decide) (fun c => ?_) (fun c => ?_)
  · have h := (if_pos c).symm.trans h
    refine J_seg ok_X5_odds 9 2 (pc' := 17) (ls' := [(3, .inl q1.1), (0, .inr (.inr (.inl x0))), (1, .inl x1), (2, .inl x2)]) (st' := [.inr (.inr (.inl x0)), .inr (.inr (.inl x0))]) rfl ?_
    obtain ⟨v4, h5, h⟩ := Option.bind_eq_some_iff.mp h
    refine J_getR (jat ok_X5_odds 11 (pc := 17) (i := .getfield 39) (n := 3) rfl rfl) fl_RX5_39 h5 ?_
    refine J_seg ok_X5_odds 12 2 (pc' := 22) (ls' := [(3, .inl q1.1), (0, .inr (.inr (.inl x0))), (1, .inl x1), (2, .inl x2)]) (st' := [.inl x2, .inl x1, .inr (.inr (.inl v4)), .inr (.inr (.inl x0))]) rfl ?_
    by_cases c8 : qO q1.2 v4 0 = true
    case neg => exact absurd ((if_neg c8).symm.trans h) (by simp)
    have h := (if_pos c8).symm.trans h
    obtain ⟨q6, h7, h⟩ := Option.bind_eq_some_iff.mp h
    refine J_callV (md' := md_X0_countPair) (As := [.inl x1, .inl x2]) (st := [.inr (.inr (.inl x0))]) (cs' := (0, 0)) (st' := [.inl q6.1, .inr (.inr (.inl x0))]) (jat ok_X5_odds 14 (pc := 22) (i := .invokevirtual 252) (n := 3) rfl rfl) ml_RX5_252 yv_X0_countPair c8 (c_X0_countPair l g (d + 10) h7) (jRo_of (by decide)) (Nat.le_of_ble_eq_true rfl) ⟨Nat.le_of_ble_eq_true rfl, Nat.le_of_ble_eq_true rfl⟩ rfl rfl rfl ?_
    refine J_seg ok_X5_odds 15 2 (pc' := 27) (ls' := [(3, .inl q1.1), (0, .inr (.inr (.inl x0))), (1, .inl x1), (2, .inl x2)]) (st' := [.inr (.inr (.inl x0)), .inr (.inl (Int32.toInt64 q6.1)), .inr (.inr (.inl x0))]) rfl ?_
    obtain ⟨v9, h10, h⟩ := Option.bind_eq_some_iff.mp h
    refine J_getR (jat ok_X5_odds 17 (pc := 27) (i := .getfield 39) (n := 3) rfl rfl) fl_RX5_39 h10 ?_
    obtain ⟨v11, h12, h⟩ := Option.bind_eq_some_iff.mp h
    refine J_getI (jat ok_X5_odds 18 (pc := 30) (i := .getfield 232) (n := 3) rfl rfl) fl_RX5_232 h12 ?_
    refine J_seg ok_X5_odds 19 1 (pc' := 34) (ls' := [(3, .inl q1.1), (0, .inr (.inr (.inl x0))), (1, .inl x1), (2, .inl x2)]) (st' := [.inr (.inl (Int32.toInt64 v11)), .inr (.inl (Int32.toInt64 q6.1)), .inr (.inr (.inl x0))]) rfl ?_
    by_cases c15 : qO q6.2 x0 5 = true
    case neg => exact absurd ((if_neg c15).symm.trans h) (by simp)
    have h := (if_pos c15).symm.trans h
    obtain ⟨q13, h14, h⟩ := Option.bind_eq_some_iff.mp h
    refine J_callV (md' := md_X5_tell) (As := [.inr (.inl (Int32.toInt64 q6.1)), .inr (.inl (Int32.toInt64 v11))]) (st := []) (cs' := (0, 0)) (st' := [.inl q13.1]) (jat ok_X5_odds 20 (pc := 34) (i := .invokevirtual 245) (n := 3) rfl rfl) ml_RX5_245 yv_X5_tell c15 (c_X5_tell l g (d + 10) h14) (jRo_of (by decide)) (Nat.le_of_ble_eq_true rfl) ⟨Nat.le_of_ble_eq_true rfl, Nat.le_of_ble_eq_true rfl⟩ rfl rfl rfl ?_
    have h := Option.some.inj h
    subst h
    exact hR _ _ (jat ok_X5_odds 21 (pc := 37) (i := .ireturn) (n := 1) rfl rfl)
  · have h := (if_neg c).symm.trans h
    refine J_seg ok_X5_odds 7 2 (pc' := 37) (ls' := [(3, .inl q1.1), (0, .inr (.inr (.inl x0))), (1, .inl x1), (2, .inl x2)]) (st' := [.inl q1.1]) rfl ?_
    have h := Option.some.inj h
    subst h
    exact hR _ _ (jat ok_X5_odds 21 (pc := 37) (i := .ireturn) (n := 1) rfl rfl)
theorem c_X5_odds (l : Launch) (g : GX) (d : Nat) {x0 : Option Nat} {x1 : Int32} {x2 : Int32} {ah : AH} {q : Int32 × AH} (h : f_X5_odds x0 x1 x2 ah = some q) : jM l g (d + 12) md_X5_odds [.inr (.inr (.inl x0)), .inl x1, .inl x2] ah (some (.inl q.1)) q.2 :=
  jM_of (by decide) (Nat.le_of_ble_eq_true rfl) (k_X5_odds d ah q h (fun pc ls hd => J_reti hd rfl (jPV_int _) rfl (Nat.le_refl _) rfl rfl))
def f_X5_both (x0 : Option Nat) (x1 : Int32) (x2 : Int32) (ah : AH) : Option (Int32 × AH) :=
  if qO ah x0 5 = true then ((f_X5_refuseDraw x0 x1 x2 ah).bind fun q1 => if q1.1 = 0 then ((gR q1.2 x0 5 5).bind fun v4 => if qO q1.2 v4 0 = true then ((f_X0_countMutual v4 x1 x2 q1.2).bind fun q6 => (gR q6.2 x0 5 5).bind fun v9 => (gI q6.2 v9 0 3).bind fun v11 => if qO q6.2 x0 5 = true then ((f_X5_tell x0 (Int32.toInt64 q6.1) (Int32.toInt64 v11) q6.2).bind fun q13 => some (q13.1, q13.2)) else none) else none) else (some (q1.1, q1.2))) else none
set_option maxRecDepth 100000 in
set_option maxHeartbeats 4000000 in
theorem k_X5_both {l : Launch} {g : GX} (d : Nat) {Q : jQ} {x0 : Option Nat} {x1 : Int32} {x2 : Int32} (ah : AH) (out : Int32 × AH) (h : f_X5_both x0 x1 x2 ah = some out) (hR : jRetI l g md_X5_both (jRm (d + 12) md_X5_both) Q (0, 0) out.1 out.2) : J l g md_X5_both (jRm (d + 12) md_X5_both) Q 0 [(0, .inr (.inr (.inl x0))), (1, .inl x1), (2, .inl x2)] [] ah (0, 0) := by
  unfold f_X5_both at h
  refine J_seg ok_X5_both 0 3 (pc' := 3) (ls' := [(0, .inr (.inr (.inl x0))), (1, .inl x1), (2, .inl x2)]) (st' := [.inl x2, .inl x1, .inr (.inr (.inl x0))]) rfl ?_
  by_cases c3 : qO ah x0 5 = true
  case neg => exact absurd ((if_neg c3).symm.trans h) (by simp)
  have h := (if_pos c3).symm.trans h
  obtain ⟨q1, h2, h⟩ := Option.bind_eq_some_iff.mp h
  refine J_callV (md' := md_X5_refuseDraw) (As := [.inl x1, .inl x2]) (st := []) (cs' := (0, 0)) (st' := [.inl q1.1]) (jat ok_X5_both 3 (pc := 3) (i := .invokevirtual 249) (n := 3) rfl rfl) ml_RX5_249 yv_X5_refuseDraw c3 (c_X5_refuseDraw l g (d + 0) h2) (jRo_of (by decide)) (Nat.le_of_ble_eq_true rfl) ⟨Nat.le_of_ble_eq_true rfl, Nat.le_of_ble_eq_true rfl⟩ rfl rfl rfl ?_
  refine J_seg ok_X5_both 4 2 (pc' := 8) (ls' := [(3, .inl q1.1), (0, .inr (.inr (.inl x0))), (1, .inl x1), (2, .inl x2)]) (st' := [.inl q1.1]) rfl ?_
  refine J_eq0 (jat ok_X5_both 6 (pc := 8) (i := .ifCond .eq 7) (n := 3) rfl rfl) (tgt := 15) (by decide) (fun c => ?_) (fun c => ?_)
  · have h := (if_pos c).symm.trans h
    refine J_seg ok_X5_both 9 2 (pc' := 17) (ls' := [(3, .inl q1.1), (0, .inr (.inr (.inl x0))), (1, .inl x1), (2, .inl x2)]) (st' := [.inr (.inr (.inl x0)), .inr (.inr (.inl x0))]) rfl ?_
    obtain ⟨v4, h5, h⟩ := Option.bind_eq_some_iff.mp h
    refine J_getR (jat ok_X5_both 11 (pc := 17) (i := .getfield 39) (n := 3) rfl rfl) fl_RX5_39 h5 ?_
    refine J_seg ok_X5_both 12 2 (pc' := 22) (ls' := [(3, .inl q1.1), (0, .inr (.inr (.inl x0))), (1, .inl x1), (2, .inl x2)]) (st' := [.inl x2, .inl x1, .inr (.inr (.inl v4)), .inr (.inr (.inl x0))]) rfl ?_
    by_cases c8 : qO q1.2 v4 0 = true
    case neg => exact absurd ((if_neg c8).symm.trans h) (by simp)
    have h := (if_pos c8).symm.trans h
    obtain ⟨q6, h7, h⟩ := Option.bind_eq_some_iff.mp h
    refine J_callV (md' := md_X0_countMutual) (As := [.inl x1, .inl x2]) (st := [.inr (.inr (.inl x0))]) (cs' := (0, 0)) (st' := [.inl q6.1, .inr (.inr (.inl x0))]) (jat ok_X5_both 14 (pc := 22) (i := .invokevirtual 255) (n := 3) rfl rfl) ml_RX5_255 yv_X0_countMutual c8 (c_X0_countMutual l g (d + 10) h7) (jRo_of (by decide)) (Nat.le_of_ble_eq_true rfl) ⟨Nat.le_of_ble_eq_true rfl, Nat.le_of_ble_eq_true rfl⟩ rfl rfl rfl ?_
    refine J_seg ok_X5_both 15 2 (pc' := 27) (ls' := [(3, .inl q1.1), (0, .inr (.inr (.inl x0))), (1, .inl x1), (2, .inl x2)]) (st' := [.inr (.inr (.inl x0)), .inr (.inl (Int32.toInt64 q6.1)), .inr (.inr (.inl x0))]) rfl ?_
    obtain ⟨v9, h10, h⟩ := Option.bind_eq_some_iff.mp h
    refine J_getR (jat ok_X5_both 17 (pc := 27) (i := .getfield 39) (n := 3) rfl rfl) fl_RX5_39 h10 ?_
    obtain ⟨v11, h12, h⟩ := Option.bind_eq_some_iff.mp h
    refine J_getI (jat ok_X5_both 18 (pc := 30) (i := .getfield 232) (n := 3) rfl rfl) fl_RX5_232 h12 ?_
    refine J_seg ok_X5_both 19 1 (pc' := 34) (ls' := [(3, .inl q1.1), (0, .inr (.inr (.inl x0))), (1, .inl x1), (2, .inl x2)]) (st' := [.inr (.inl (Int32.toInt64 v11)), .inr (.inl (Int32.toInt64 q6.1)), .inr (.inr (.inl x0))]) rfl ?_
    by_cases c15 : qO q6.2 x0 5 = true
    case neg => exact absurd ((if_neg c15).symm.trans h) (by simp)
    have h := (if_pos c15).symm.trans h
    obtain ⟨q13, h14, h⟩ := Option.bind_eq_some_iff.mp h
    refine J_callV (md' := md_X5_tell) (As := [.inr (.inl (Int32.toInt64 q6.1)), .inr (.inl (Int32.toInt64 v11))]) (st := []) (cs' := (0, 0)) (st' := [.inl q13.1]) (jat ok_X5_both 20 (pc := 34) (i := .invokevirtual 245) (n := 3) rfl rfl) ml_RX5_245 yv_X5_tell c15 (c_X5_tell l g (d + 10) h14) (jRo_of (by decide)) (Nat.le_of_ble_eq_true rfl) ⟨Nat.le_of_ble_eq_true rfl, Nat.le_of_ble_eq_true rfl⟩ rfl rfl rfl ?_
    have h := Option.some.inj h
    subst h
    exact hR _ _ (jat ok_X5_both 21 (pc := 37) (i := .ireturn) (n := 1) rfl rfl)
  · have h := (if_neg c).symm.trans h
    refine J_seg ok_X5_both 7 2 (pc' := 37) (ls' := [(3, .inl q1.1), (0, .inr (.inr (.inl x0))), (1, .inl x1), (2, .inl x2)]) (st' := [.inl q1.1]) rfl ?_
    have h := Option.some.inj h
    subst h
    exact hR _ _ (jat ok_X5_both 21 (pc := 37) (i := .ireturn) (n := 1) rfl rfl)
theorem c_X5_both (l : Launch) (g : GX) (d : Nat) {x0 : Option Nat} {x1 : Int32} {x2 : Int32} {ah : AH} {q : Int32 × AH} (h : f_X5_both x0 x1 x2 ah = some q) : jM l g (d + 12) md_X5_both [.inr (.inr (.inl x0)), .inl x1, .inl x2] ah (some (.inl q.1)) q.2 :=
  jM_of (by decide) (Nat.le_of_ble_eq_true rfl) (k_X5_both d ah q h (fun pc ls hd => J_reti hd rfl (jPV_int _) rfl (Nat.le_refl _) rfl rfl))
def f_X5_refuseWeeks_b29_j60 (k0 : Option Nat) (k1 : Option Nat) (ah : AH) : Option ((Int32 × AH) ⊕ (((Unit) × AH) ⊕ ((Int32) × AH))) :=
  if qO ah k0 5 = true then ((f_X5_find k0 3 ah).bind fun q11 => some (.inl (q11.1, q11.2))) else none
set_option maxRecDepth 100000 in
set_option maxHeartbeats 4000000 in
theorem k_X5_refuseWeeks_b29_j60 {l : Launch} {g : GX} (d : Nat) {Q : jQ} {k0 : Option Nat} {k1 : Option Nat} (ah : AH) (out : (Int32 × AH) ⊕ (((Unit) × AH) ⊕ ((Int32) × AH))) (h : f_X5_refuseWeeks_b29_j60 k0 k1 ah = some out) (hR : ∀ q, out = .inl q → jRetI l g md_X5_refuseWeeks (jRm (d + 2) md_X5_refuseWeeks) Q (0, 0) q.1 q.2) (hX : ∀ q, out = .inr (.inl q) → J l g md_X5_refuseWeeks (jRm (d + 2) md_X5_refuseWeeks) Q 72 [] [] q.2 (0, 0)) (hN : ∀ q, out = .inr (.inr q) → J l g md_X5_refuseWeeks (jRm (d + 2) md_X5_refuseWeeks) Q 29 [(0, .inr (.inr (.inl k0))), (1, .inr (.inr (.inl k1))), (3, .inl q.1)] [] q.2 (0, 0)) : J l g md_X5_refuseWeeks (jRm (d + 2) md_X5_refuseWeeks) Q 60 [(0, .inr (.inr (.inl k0)))] [] ah (0, 0) := by
  unfold f_X5_refuseWeeks_b29_j60 at h
  refine J_seg ok_X5_refuseWeeks 34 2 (pc' := 62) (ls' := [(0, .inr (.inr (.inl k0)))]) (st' := [.inl 3, .inr (.inr (.inl k0))]) rfl ?_
  by_cases c13 : qO ah k0 5 = true
  case neg => exact absurd ((if_neg c13).symm.trans h) (by simp)
  have h := (if_pos c13).symm.trans h
  obtain ⟨q11, h12, h⟩ := Option.bind_eq_some_iff.mp h
  refine J_callV (md' := md_X5_find) (As := [.inl 3]) (st := []) (cs' := (0, 0)) (st' := [.inl q11.1]) (jat ok_X5_refuseWeeks 36 (pc := 62) (i := .invokevirtual 75) (n := 3) rfl rfl) ml_RX5_75 yv_X5_find c13 (c_X5_find l g (d + 1) h12) (jRo_of (by decide)) (Nat.le_of_ble_eq_true rfl) ⟨Nat.le_of_ble_eq_true rfl, Nat.le_of_ble_eq_true rfl⟩ rfl rfl rfl ?_
  exact hR _ (Option.some.inj h).symm _ _ (jat ok_X5_refuseWeeks 37 (pc := 65) (i := .ireturn) (n := 1) rfl rfl)
def f_X5_refuseWeeks_b29 (k0 : Option Nat) (k1 : Option Nat) (s29 : Int32) (ah : AH) : Option ((Int32 × AH) ⊕ (((Unit) × AH) ⊕ ((Int32) × AH))) :=
  (gI ah k1 2 1).bind fun v6 => if v6 ≤ s29 then (some (.inr (.inl ((), ah)))) else (if qO ah k1 2 = true then ((f_X2_get k1 s29 ah).bind fun q8 => if q8.1 < 0 then (f_X5_refuseWeeks_b29_j60 k0 k1  q8.2) else (if qO q8.2 k1 2 = true then ((f_X2_get k1 s29 q8.2).bind fun q14 => (gR q14.2 k0 5 8).bind fun v17 => if qO q14.2 v17 1 = true then ((f_X1_everyone v17 q14.2).bind fun q19 => if q14.1 ≤ q19.1 then (some (.inr (.inr (s29 + 1, q19.2)))) else (f_X5_refuseWeeks_b29_j60 k0 k1  q19.2)) else none) else none)) else none)
set_option maxRecDepth 100000 in
set_option maxHeartbeats 4000000 in
theorem k_X5_refuseWeeks_b29 {l : Launch} {g : GX} (d : Nat) {Q : jQ} {k0 : Option Nat} {k1 : Option Nat} (s29 : Int32) (ah : AH) (out : (Int32 × AH) ⊕ (((Unit) × AH) ⊕ ((Int32) × AH))) (h : f_X5_refuseWeeks_b29 k0 k1 s29 ah = some out) (hR : ∀ q, out = .inl q → jRetI l g md_X5_refuseWeeks (jRm (d + 2) md_X5_refuseWeeks) Q (0, 0) q.1 q.2) (hX : ∀ q, out = .inr (.inl q) → J l g md_X5_refuseWeeks (jRm (d + 2) md_X5_refuseWeeks) Q 72 [] [] q.2 (0, 0)) (hN : ∀ q, out = .inr (.inr q) → J l g md_X5_refuseWeeks (jRm (d + 2) md_X5_refuseWeeks) Q 29 [(0, .inr (.inr (.inl k0))), (1, .inr (.inr (.inl k1))), (3, .inl q.1)] [] q.2 (0, 0)) : J l g md_X5_refuseWeeks (jRm (d + 2) md_X5_refuseWeeks) Q 29 [(0, .inr (.inr (.inl k0))), (1, .inr (.inr (.inl k1))), (3, .inl s29)] [] ah (0, 0) := by
  unfold f_X5_refuseWeeks_b29 at h
  refine J_seg ok_X5_refuseWeeks 19 2 (pc' := 31) (ls' := [(0, .inr (.inr (.inl k0))), (1, .inr (.inr (.inl k1))), (3, .inl s29)]) (st' := [.inr (.inr (.inl k1)), .inl s29]) rfl ?_
  obtain ⟨v6, h7, h⟩ := Option.bind_eq_some_iff.mp h
  refine J_getI (jat ok_X5_refuseWeeks 21 (pc := 31) (i := .getfield 112) (n := 3) rfl rfl) fl_RX5_112 h7 ?_
  refine J_ge (jat ok_X5_refuseWeeks 22 (pc := 34) (i := .if_icmp .ge 38) (n := 3) rfl rfl) (tgt := 72) (by decide) (fun c => ?_) (fun c => ?_)
  · have h := (if_pos c).symm.trans h
    exact J_sub (ls' := []) [] rfl (hX ((), ah) (Option.some.inj h).symm)
  · have h := (if_neg c).symm.trans h
    refine J_seg ok_X5_refuseWeeks 23 2 (pc' := 39) (ls' := [(0, .inr (.inr (.inl k0))), (1, .inr (.inr (.inl k1))), (3, .inl s29)]) (st' := [.inl s29, .inr (.inr (.inl k1))]) rfl ?_
    by_cases c10 : qO ah k1 2 = true
    case neg => exact absurd ((if_neg c10).symm.trans h) (by simp)
    have h := (if_pos c10).symm.trans h
    obtain ⟨q8, h9, h⟩ := Option.bind_eq_some_iff.mp h
    refine J_callV (md' := md_X2_get) (As := [.inl s29]) (st := []) (cs' := (0, 0)) (st' := [.inl q8.1]) (jat ok_X5_refuseWeeks 25 (pc := 39) (i := .invokevirtual 87) (n := 3) rfl rfl) ml_RX5_87 yv_X2_get c10 (c_X2_get l g (d + 0) h9) (jRo_of (by decide)) (Nat.le_of_ble_eq_true rfl) ⟨Nat.le_of_ble_eq_true rfl, Nat.le_of_ble_eq_true rfl⟩ rfl rfl rfl ?_
    refine J_lt0 (jat ok_X5_refuseWeeks 26 (pc := 42) (i := .ifCond .lt 18) (n := 3) rfl rfl) (tgt := 60) (by decide) (fun c => ?_) (fun c => ?_)
    · have h := (if_pos c).symm.trans h
      refine J_sub (ls' := [(0, .inr (.inr (.inl k0)))]) [0] rfl ?_
      exact k_X5_refuseWeeks_b29_j60 d _ _ h hR hX hN
    · have h := (if_neg c).symm.trans h
      refine J_seg ok_X5_refuseWeeks 27 2 (pc' := 47) (ls' := [(0, .inr (.inr (.inl k0))), (1, .inr (.inr (.inl k1))), (3, .inl s29)]) (st' := [.inl s29, .inr (.inr (.inl k1))]) rfl ?_
      by_cases c16 : qO q8.2 k1 2 = true
      case neg => exact absurd ((if_neg c16).symm.trans h) (by simp)
      have h := (if_pos c16).symm.trans h
      obtain ⟨q14, h15, h⟩ := Option.bind_eq_some_iff.mp h
      refine J_callV (md' := md_X2_get) (As := [.inl s29]) (st := []) (cs' := (0, 0)) (st' := [.inl q14.1]) (jat ok_X5_refuseWeeks 29 (pc := 47) (i := .invokevirtual 87) (n := 3) rfl rfl) ml_RX5_87 yv_X2_get c16 (c_X2_get l g (d + 0) h15) (jRo_of (by decide)) (Nat.le_of_ble_eq_true rfl) ⟨Nat.le_of_ble_eq_true rfl, Nat.le_of_ble_eq_true rfl⟩ rfl rfl rfl ?_
      refine J_seg ok_X5_refuseWeeks 30 1 (pc' := 51) (ls' := [(0, .inr (.inr (.inl k0))), (1, .inr (.inr (.inl k1))), (3, .inl s29)]) (st' := [.inr (.inr (.inl k0)), .inl q14.1]) rfl ?_
      obtain ⟨v17, h18, h⟩ := Option.bind_eq_some_iff.mp h
      refine J_getR (jat ok_X5_refuseWeeks 31 (pc := 51) (i := .getfield 53) (n := 3) rfl rfl) fl_RX5_53 h18 ?_
      by_cases c21 : qO q14.2 v17 1 = true
      case neg => exact absurd ((if_neg c21).symm.trans h) (by simp)
      have h := (if_pos c21).symm.trans h
      obtain ⟨q19, h20, h⟩ := Option.bind_eq_some_iff.mp h
      refine J_callV (md' := md_X1_everyone) (As := []) (st := [.inl q14.1]) (cs' := (0, 0)) (st' := [.inl q19.1, .inl q14.1]) (jat ok_X5_refuseWeeks 32 (pc := 54) (i := .invokevirtual 242) (n := 3) rfl rfl) ml_RX5_242 yv_X1_everyone c21 (c_X1_everyone l g (d + 1) h20) (jRo_of (by decide)) (Nat.le_of_ble_eq_true rfl) ⟨Nat.le_of_ble_eq_true rfl, Nat.le_of_ble_eq_true rfl⟩ rfl rfl rfl ?_
      refine J_le (jat ok_X5_refuseWeeks 33 (pc := 57) (i := .if_icmp .le 9) (n := 3) rfl rfl) (tgt := 66) (by decide) (fun c => ?_) (fun c => ?_)
      · have h := (if_pos c).symm.trans h
        refine J_seg ok_X5_refuseWeeks 38 2 (pc' := 29) (ls' := [(3, .inl (s29 + 1)), (0, .inr (.inr (.inl k0))), (1, .inr (.inr (.inl k1)))]) (st' := []) rfl ?_
        exact J_sub (ls' := [(0, .inr (.inr (.inl k0))), (1, .inr (.inr (.inl k1))), (3, .inl (s29 + 1))]) [1, 2, 0] rfl (hN (s29 + 1, q19.2) (Option.some.inj h).symm)
      · have h := (if_neg c).symm.trans h
        refine J_sub (ls' := [(0, .inr (.inr (.inl k0)))]) [0] rfl ?_
        exact k_X5_refuseWeeks_b29_j60 d _ _ h hR hX hN
def f_X5_refuseWeeks (x0 : Option Nat) (x1 : Option Nat) (ah : AH) : Option (Int32 × AH) :=
  if qO ah x0 5 = true then ((f_X5_refuseRow x0 x1 ah).bind fun q1 => if q1.1 = 0 then ((gI q1.2 x1 2 1).bind fun v4 => if (v4 - v4 / 2 * 2) = 0 then ((jloop (f_X5_refuseWeeks_b29 x0 x1) jfuel 0 q1.2).bind fun q22 => match q22 with | .inl r => some r | .inr z24 => some (0, z24.2)) else (if qO q1.2 x0 5 = true then ((f_X5_find x0 5 q1.2).bind fun q26 => some (q26.1, q26.2)) else none)) else (some (q1.1, q1.2))) else none
set_option maxRecDepth 100000 in
set_option maxHeartbeats 4000000 in
theorem k_X5_refuseWeeks {l : Launch} {g : GX} (d : Nat) {Q : jQ} {x0 : Option Nat} {x1 : Option Nat} (ah : AH) (out : Int32 × AH) (h : f_X5_refuseWeeks x0 x1 ah = some out) (hR : jRetI l g md_X5_refuseWeeks (jRm (d + 2) md_X5_refuseWeeks) Q (0, 0) out.1 out.2) : J l g md_X5_refuseWeeks (jRm (d + 2) md_X5_refuseWeeks) Q 0 [(0, .inr (.inr (.inl x0))), (1, .inr (.inr (.inl x1)))] [] ah (0, 0) := by
  unfold f_X5_refuseWeeks at h
  refine J_seg ok_X5_refuseWeeks 0 2 (pc' := 2) (ls' := [(0, .inr (.inr (.inl x0))), (1, .inr (.inr (.inl x1)))]) (st' := [.inr (.inr (.inl x1)), .inr (.inr (.inl x0))]) rfl ?_
  by_cases c3 : qO ah x0 5 = true
  case neg => exact absurd ((if_neg c3).symm.trans h) (by simp)
  have h := (if_pos c3).symm.trans h
  obtain ⟨q1, h2, h⟩ := Option.bind_eq_some_iff.mp h
  refine J_callV (md' := md_X5_refuseRow) (As := [.inr (.inr (.inl x1))]) (st := []) (cs' := (0, 0)) (st' := [.inl q1.1]) (jat ok_X5_refuseWeeks 2 (pc := 2) (i := .invokevirtual 318) (n := 3) rfl rfl) ml_RX5_318 yv_X5_refuseRow c3 (c_X5_refuseRow l g (d + 0) h2) (jRo_of (by decide)) (Nat.le_of_ble_eq_true rfl) ⟨Nat.le_of_ble_eq_true rfl, Nat.le_of_ble_eq_true rfl⟩ rfl rfl rfl ?_
  refine J_seg ok_X5_refuseWeeks 3 2 (pc' := 7) (ls' := [(2, .inl q1.1), (0, .inr (.inr (.inl x0))), (1, .inr (.inr (.inl x1)))]) (st' := [.inl q1.1]) rfl ?_
  refine J_eq0 (jat ok_X5_refuseWeeks 5 (pc := 7) (i := .ifCond .eq 5) (n := 3) rfl rfl) (tgt := 12) (by decide) (fun c => ?_) (fun c => ?_)
  · have h := (if_pos c).symm.trans h
    refine J_seg ok_X5_refuseWeeks 8 1 (pc' := 13) (ls' := [(2, .inl q1.1), (0, .inr (.inr (.inl x0))), (1, .inr (.inr (.inl x1)))]) (st' := [.inr (.inr (.inl x1))]) rfl ?_
    obtain ⟨v4, h5, h⟩ := Option.bind_eq_some_iff.mp h
    refine J_getI (jat ok_X5_refuseWeeks 9 (pc := 13) (i := .getfield 112) (n := 3) rfl rfl) fl_RX5_112 h5 ?_
    refine J_seg ok_X5_refuseWeeks 10 1 (pc' := 17) (ls' := [(2, .inl q1.1), (0, .inr (.inr (.inl x0))), (1, .inr (.inr (.inl x1)))]) (st' := [.inl 2, .inl v4]) rfl ?_
    refine J_irem (jat ok_X5_refuseWeeks 11 (pc := 17) (i := .irem) (n := 1) rfl rfl) (by decide) ?_
    refine J_eq0 (jat ok_X5_refuseWeeks 12 (pc := 18) (i := .ifCond .eq 9) (n := 3) rfl rfl) (tgt := 27) (by decide) (fun c => ?_) (fun c => ?_)
    · have h := (if_pos c).symm.trans h
      refine J_seg ok_X5_refuseWeeks 17 2 (pc' := 29) (ls' := [(3, .inl 0), (2, .inl q1.1), (0, .inr (.inr (.inl x0))), (1, .inr (.inr (.inl x1)))]) (st' := []) rfl ?_
      obtain ⟨q22, h23, h⟩ := Option.bind_eq_some_iff.mp h
      refine J_sub (ls' := [(0, .inr (.inr (.inl x0))), (1, .inr (.inr (.inl x1))), (3, .inl 0)]) [2, 3, 0] rfl ?_
      refine J_loop (pE := 72) (lh := fun t25 => [(0, .inr (.inr (.inl x0))), (1, .inr (.inr (.inl x1))), (3, .inl t25)]) (lx := fun z24 => []) (P := jRetI l g md_X5_refuseWeeks (jRm (d + 2) md_X5_refuseWeeks) Q (0, 0)) (fun s ah out hb hR hX hN => k_X5_refuseWeeks_b29 d s ah out hb hR hX hN) jfuel 0 _ _ h23 (fun r e => ?_) (fun z24 e => ?_)
      · subst e
        dsimp only at h
        have h := Option.some.inj h
        subst h
        exact hR
      · subst e
        dsimp only at h
        refine J_seg ok_X5_refuseWeeks 40 1 (pc' := 73) (ls' := []) (st' := [.inl 0]) rfl ?_
        have h := Option.some.inj h
        subst h
        exact hR _ _ (jat ok_X5_refuseWeeks 41 (pc := 73) (i := .ireturn) (n := 1) rfl rfl)
    · have h := (if_neg c).symm.trans h
      refine J_seg ok_X5_refuseWeeks 13 2 (pc' := 23) (ls' := [(2, .inl q1.1), (0, .inr (.inr (.inl x0))), (1, .inr (.inr (.inl x1)))]) (st' := [.inl 5, .inr (.inr (.inl x0))]) rfl ?_
      by_cases c28 : qO q1.2 x0 5 = true
      case neg => exact absurd ((if_neg c28).symm.trans h) (by simp)
      have h := (if_pos c28).symm.trans h
      obtain ⟨q26, h27, h⟩ := Option.bind_eq_some_iff.mp h
      refine J_callV (md' := md_X5_find) (As := [.inl 5]) (st := []) (cs' := (0, 0)) (st' := [.inl q26.1]) (jat ok_X5_refuseWeeks 15 (pc := 23) (i := .invokevirtual 75) (n := 3) rfl rfl) ml_RX5_75 yv_X5_find c28 (c_X5_find l g (d + 1) h27) (jRo_of (by decide)) (Nat.le_of_ble_eq_true rfl) ⟨Nat.le_of_ble_eq_true rfl, Nat.le_of_ble_eq_true rfl⟩ rfl rfl rfl ?_
      have h := Option.some.inj h
      subst h
      exact hR _ _ (jat ok_X5_refuseWeeks 16 (pc := 26) (i := .ireturn) (n := 1) rfl rfl)
  · have h := (if_neg c).symm.trans h
    refine J_seg ok_X5_refuseWeeks 6 1 (pc' := 11) (ls' := [(2, .inl q1.1), (0, .inr (.inr (.inl x0))), (1, .inr (.inr (.inl x1)))]) (st' := [.inl q1.1]) rfl ?_
    have h := Option.some.inj h
    subst h
    exact hR _ _ (jat ok_X5_refuseWeeks 7 (pc := 11) (i := .ireturn) (n := 1) rfl rfl)
theorem c_X5_refuseWeeks (l : Launch) (g : GX) (d : Nat) {x0 : Option Nat} {x1 : Option Nat} {ah : AH} {q : Int32 × AH} (h : f_X5_refuseWeeks x0 x1 ah = some q) : jM l g (d + 2) md_X5_refuseWeeks [.inr (.inr (.inl x0)), .inr (.inr (.inl x1))] ah (some (.inl q.1)) q.2 :=
  jM_of (by decide) (Nat.le_of_ble_eq_true rfl) (k_X5_refuseWeeks d ah q h (fun pc ls hd => J_reti hd rfl (jPV_int _) rfl (Nat.le_refl _) rfl rfl))
def f_X5_seekFits_b21 (k0 : Option Nat) (k1 : Option Nat) (s21 : Int32) (ah : AH) : Option ((Unit × AH) ⊕ (((Unit) × AH) ⊕ ((Int32) × AH))) :=
  (gI ah k1 2 1).bind fun v13 => if v13 ≤ (s21 + 1) then (some (.inr (.inl ((), ah)))) else ((gR ah k0 5 5).bind fun v15 => if qO ah k1 2 = true then ((f_X2_get k1 s21 ah).bind fun q17 => if qO q17.2 k1 2 = true then ((f_X2_get k1 (s21 + 1) q17.2).bind fun q20 => if qO q20.2 v15 0 = true then ((f_X0_retain v15 q17.1 q20.1 q20.2).bind fun q23 => some (.inr (.inr (s21 + 2, q23.2)))) else none) else none) else none)
set_option maxRecDepth 100000 in
set_option maxHeartbeats 4000000 in
theorem k_X5_seekFits_b21 {l : Launch} {g : GX} (d : Nat) {Q : jQ} {k0 : Option Nat} {k1 : Option Nat} (s21 : Int32) (ah : AH) (out : (Unit × AH) ⊕ (((Unit) × AH) ⊕ ((Int32) × AH))) (h : f_X5_seekFits_b21 k0 k1 s21 ah = some out) (hR : ∀ q, out = .inl q → jRetN q.1 q.2) (hX : ∀ q, out = .inr (.inl q) → J l g md_X5_seekFits (jRm (d + 11) md_X5_seekFits) Q 56 [] [] q.2 (0, 0)) (hN : ∀ q, out = .inr (.inr q) → J l g md_X5_seekFits (jRm (d + 11) md_X5_seekFits) Q 21 [(0, .inr (.inr (.inl k0))), (1, .inr (.inr (.inl k1))), (2, .inl q.1)] [] q.2 (0, 0)) : J l g md_X5_seekFits (jRm (d + 11) md_X5_seekFits) Q 21 [(0, .inr (.inr (.inl k0))), (1, .inr (.inr (.inl k1))), (2, .inl s21)] [] ah (0, 0) := by
  unfold f_X5_seekFits_b21 at h
  refine J_seg ok_X5_seekFits 11 4 (pc' := 25) (ls' := [(0, .inr (.inr (.inl k0))), (1, .inr (.inr (.inl k1))), (2, .inl s21)]) (st' := [.inr (.inr (.inl k1)), .inl (s21 + 1)]) rfl ?_
  obtain ⟨v13, h14, h⟩ := Option.bind_eq_some_iff.mp h
  refine J_getI (jat ok_X5_seekFits 15 (pc := 25) (i := .getfield 112) (n := 3) rfl rfl) fl_RX5_112 h14 ?_
  refine J_ge (jat ok_X5_seekFits 16 (pc := 28) (i := .if_icmp .ge 28) (n := 3) rfl rfl) (tgt := 56) (by decide) (fun c => ?_) (fun c => ?_)
  · have h := (if_pos c).symm.trans h
    exact J_sub (ls' := []) [] rfl (hX ((), ah) (Option.some.inj h).symm)
  · have h := (if_neg c).symm.trans h
    refine J_seg ok_X5_seekFits 17 1 (pc' := 32) (ls' := [(0, .inr (.inr (.inl k0))), (1, .inr (.inr (.inl k1))), (2, .inl s21)]) (st' := [.inr (.inr (.inl k0))]) rfl ?_
    obtain ⟨v15, h16, h⟩ := Option.bind_eq_some_iff.mp h
    refine J_getR (jat ok_X5_seekFits 18 (pc := 32) (i := .getfield 39) (n := 3) rfl rfl) fl_RX5_39 h16 ?_
    refine J_seg ok_X5_seekFits 19 2 (pc' := 37) (ls' := [(0, .inr (.inr (.inl k0))), (1, .inr (.inr (.inl k1))), (2, .inl s21)]) (st' := [.inl s21, .inr (.inr (.inl k1)), .inr (.inr (.inl v15))]) rfl ?_
    by_cases c19 : qO ah k1 2 = true
    case neg => exact absurd ((if_neg c19).symm.trans h) (by simp)
    have h := (if_pos c19).symm.trans h
    obtain ⟨q17, h18, h⟩ := Option.bind_eq_some_iff.mp h
    refine J_callV (md' := md_X2_get) (As := [.inl s21]) (st := [.inr (.inr (.inl v15))]) (cs' := (0, 0)) (st' := [.inl q17.1, .inr (.inr (.inl v15))]) (jat ok_X5_seekFits 21 (pc := 37) (i := .invokevirtual 87) (n := 3) rfl rfl) ml_RX5_87 yv_X2_get c19 (c_X2_get l g (d + 9) h18) (jRo_of (by decide)) (Nat.le_of_ble_eq_true rfl) ⟨Nat.le_of_ble_eq_true rfl, Nat.le_of_ble_eq_true rfl⟩ rfl rfl rfl ?_
    refine J_seg ok_X5_seekFits 22 4 (pc' := 44) (ls' := [(0, .inr (.inr (.inl k0))), (1, .inr (.inr (.inl k1))), (2, .inl s21)]) (st' := [.inl (s21 + 1), .inr (.inr (.inl k1)), .inl q17.1, .inr (.inr (.inl v15))]) rfl ?_
    by_cases c22 : qO q17.2 k1 2 = true
    case neg => exact absurd ((if_neg c22).symm.trans h) (by simp)
    have h := (if_pos c22).symm.trans h
    obtain ⟨q20, h21, h⟩ := Option.bind_eq_some_iff.mp h
    refine J_callV (md' := md_X2_get) (As := [.inl (s21 + 1)]) (st := [.inl q17.1, .inr (.inr (.inl v15))]) (cs' := (0, 0)) (st' := [.inl q20.1, .inl q17.1, .inr (.inr (.inl v15))]) (jat ok_X5_seekFits 26 (pc := 44) (i := .invokevirtual 87) (n := 3) rfl rfl) ml_RX5_87 yv_X2_get c22 (c_X2_get l g (d + 9) h21) (jRo_of (by decide)) (Nat.le_of_ble_eq_true rfl) ⟨Nat.le_of_ble_eq_true rfl, Nat.le_of_ble_eq_true rfl⟩ rfl rfl rfl ?_
    by_cases c25 : qO q20.2 v15 0 = true
    case neg => exact absurd ((if_neg c25).symm.trans h) (by simp)
    have h := (if_pos c25).symm.trans h
    obtain ⟨q23, h24, h⟩ := Option.bind_eq_some_iff.mp h
    refine J_callV (md' := md_X0_retain) (As := [.inl q17.1, .inl q20.1]) (st := []) (cs' := (0, 0)) (st' := []) (jat ok_X5_seekFits 27 (pc := 47) (i := .invokevirtual 361) (n := 3) rfl rfl) ml_RX5_361 yv_X0_retain c25 (c_X0_retain l g (d + 9) h24) (jRo_of (by decide)) (Nat.le_of_ble_eq_true rfl) ⟨Nat.le_of_ble_eq_true rfl, Nat.le_of_ble_eq_true rfl⟩ rfl rfl rfl ?_
    refine J_seg ok_X5_seekFits 28 2 (pc' := 21) (ls' := [(2, .inl (s21 + 2)), (0, .inr (.inr (.inl k0))), (1, .inr (.inr (.inl k1)))]) (st' := []) rfl ?_
    exact J_sub (ls' := [(0, .inr (.inr (.inl k0))), (1, .inr (.inr (.inl k1))), (2, .inl (s21 + 2))]) [1, 2, 0] rfl (hN (s21 + 2, q23.2) (Option.some.inj h).symm)
def f_X5_seekFits (x0 : Option Nat) (x1 : Option Nat) (ah : AH) : Option (Unit × AH) :=
  (gR ah x0 5 5).bind fun v1 => (gR ah x0 5 8).bind fun v3 => (gR ah x0 5 8).bind fun v5 => if qO ah v5 1 = true then ((f_X1_everyone v5 ah).bind fun q7 => if qO q7.2 v1 0 = true then ((f_X0_seek v1 v3 q7.1 1 q7.2).bind fun q10 => (jloop (f_X5_seekFits_b21 x0 x1) jfuel 0 q10.2).bind fun q26 => match q26 with | .inl r => none | .inr z28 => some ((), z28.2)) else none) else none
set_option maxRecDepth 100000 in
set_option maxHeartbeats 4000000 in
theorem k_X5_seekFits {l : Launch} {g : GX} (d : Nat) {Q : jQ} {x0 : Option Nat} {x1 : Option Nat} (ah : AH) (out : Unit × AH) (h : f_X5_seekFits x0 x1 ah = some out) (hR : jRetV l g md_X5_seekFits (jRm (d + 11) md_X5_seekFits) Q (0, 0) out.1 out.2) : J l g md_X5_seekFits (jRm (d + 11) md_X5_seekFits) Q 0 [(0, .inr (.inr (.inl x0))), (1, .inr (.inr (.inl x1)))] [] ah (0, 0) := by
  unfold f_X5_seekFits at h
  refine J_seg ok_X5_seekFits 0 1 (pc' := 1) (ls' := [(0, .inr (.inr (.inl x0))), (1, .inr (.inr (.inl x1)))]) (st' := [.inr (.inr (.inl x0))]) rfl ?_
  obtain ⟨v1, h2, h⟩ := Option.bind_eq_some_iff.mp h
  refine J_getR (jat ok_X5_seekFits 1 (pc := 1) (i := .getfield 39) (n := 3) rfl rfl) fl_RX5_39 h2 ?_
  refine J_seg ok_X5_seekFits 2 1 (pc' := 5) (ls' := [(0, .inr (.inr (.inl x0))), (1, .inr (.inr (.inl x1)))]) (st' := [.inr (.inr (.inl x0)), .inr (.inr (.inl v1))]) rfl ?_
  obtain ⟨v3, h4, h⟩ := Option.bind_eq_some_iff.mp h
  refine J_getR (jat ok_X5_seekFits 3 (pc := 5) (i := .getfield 53) (n := 3) rfl rfl) fl_RX5_53 h4 ?_
  refine J_seg ok_X5_seekFits 4 1 (pc' := 9) (ls' := [(0, .inr (.inr (.inl x0))), (1, .inr (.inr (.inl x1)))]) (st' := [.inr (.inr (.inl x0)), .inr (.inr (.inl v3)), .inr (.inr (.inl v1))]) rfl ?_
  obtain ⟨v5, h6, h⟩ := Option.bind_eq_some_iff.mp h
  refine J_getR (jat ok_X5_seekFits 5 (pc := 9) (i := .getfield 53) (n := 3) rfl rfl) fl_RX5_53 h6 ?_
  by_cases c9 : qO ah v5 1 = true
  case neg => exact absurd ((if_neg c9).symm.trans h) (by simp)
  have h := (if_pos c9).symm.trans h
  obtain ⟨q7, h8, h⟩ := Option.bind_eq_some_iff.mp h
  refine J_callV (md' := md_X1_everyone) (As := []) (st := [.inr (.inr (.inl v3)), .inr (.inr (.inl v1))]) (cs' := (0, 0)) (st' := [.inl q7.1, .inr (.inr (.inl v3)), .inr (.inr (.inl v1))]) (jat ok_X5_seekFits 6 (pc := 12) (i := .invokevirtual 242) (n := 3) rfl rfl) ml_RX5_242 yv_X1_everyone c9 (c_X1_everyone l g (d + 10) h8) (jRo_of (by decide)) (Nat.le_of_ble_eq_true rfl) ⟨Nat.le_of_ble_eq_true rfl, Nat.le_of_ble_eq_true rfl⟩ rfl rfl rfl ?_
  refine J_seg ok_X5_seekFits 7 1 (pc' := 16) (ls' := [(0, .inr (.inr (.inl x0))), (1, .inr (.inr (.inl x1)))]) (st' := [.inl 1, .inl q7.1, .inr (.inr (.inl v3)), .inr (.inr (.inl v1))]) rfl ?_
  by_cases c12 : qO q7.2 v1 0 = true
  case neg => exact absurd ((if_neg c12).symm.trans h) (by simp)
  have h := (if_pos c12).symm.trans h
  obtain ⟨q10, h11, h⟩ := Option.bind_eq_some_iff.mp h
  refine J_callV (md' := md_X0_seek) (As := [.inr (.inr (.inl v3)), .inl q7.1, .inl 1]) (st := []) (cs' := (0, 0)) (st' := []) (jat ok_X5_seekFits 8 (pc := 16) (i := .invokevirtual 225) (n := 3) rfl rfl) ml_RX5_225 yv_X0_seek c12 (c_X0_seek l g (d + 0) h11) (jRo_of (by decide)) (Nat.le_of_ble_eq_true rfl) ⟨Nat.le_of_ble_eq_true rfl, Nat.le_of_ble_eq_true rfl⟩ rfl rfl rfl ?_
  refine J_seg ok_X5_seekFits 9 2 (pc' := 21) (ls' := [(2, .inl 0), (0, .inr (.inr (.inl x0))), (1, .inr (.inr (.inl x1)))]) (st' := []) rfl ?_
  obtain ⟨q26, h27, h⟩ := Option.bind_eq_some_iff.mp h
  refine J_sub (ls' := [(0, .inr (.inr (.inl x0))), (1, .inr (.inr (.inl x1))), (2, .inl 0)]) [1, 2, 0] rfl ?_
  refine J_loop (pE := 56) (lh := fun t29 => [(0, .inr (.inr (.inl x0))), (1, .inr (.inr (.inl x1))), (2, .inl t29)]) (lx := fun z28 => []) (P := jRetN) (fun s ah out hb hR hX hN => k_X5_seekFits_b21 d s ah out hb hR hX hN) jfuel 0 _ _ h27 (fun r e => ?_) (fun z28 e => ?_)
  · subst e
    dsimp only at h
    cases h
  · subst e
    dsimp only at h
    have h := Option.some.inj h
    subst h
    exact hR _ _ (jat ok_X5_seekFits 30 (pc := 56) (i := .return_) (n := 1) rfl rfl)
theorem c_X5_seekFits (l : Launch) (g : GX) (d : Nat) {x0 : Option Nat} {x1 : Option Nat} {ah : AH} {q : Unit × AH} (h : f_X5_seekFits x0 x1 ah = some q) : jM l g (d + 11) md_X5_seekFits [.inr (.inr (.inl x0)), .inr (.inr (.inl x1))] ah none q.2 :=
  jM_of (by decide) (Nat.le_of_ble_eq_true rfl) (k_X5_seekFits d ah q h (fun pc ls hd => J_retv hd rfl rfl (Nat.le_refl _) rfl rfl))
def f_X5_fits (x0 : Option Nat) (x1 : Int32) (ah : AH) : Option (Int32 × AH) :=
  (gR ah x0 5 0).bind fun v1 => (f_X5_lineAt v1 x1 ah).bind fun q3 => if q3.1 = none then (some ((-1), q3.2)) else (if qO q3.2 x0 5 = true then ((f_X5_refuseWeeks x0 q3.1 q3.2).bind fun q5 => if q5.1 = 0 then (if qO q5.2 x0 5 = true then ((f_X5_seekFits x0 q3.1 q5.2).bind fun q8 => (gR q8.2 x0 5 5).bind fun v11 => (gI q8.2 v11 0 3).bind fun v13 => if qO q8.2 x0 5 = true then ((f_X5_tell x0 (Int32.toInt64 v13) 1 q8.2).bind fun q15 => some (q15.1, q15.2)) else none) else none) else (some (q5.1, q5.2))) else none)
set_option maxRecDepth 100000 in
set_option maxHeartbeats 4000000 in
theorem k_X5_fits {l : Launch} {g : GX} (d : Nat) {Q : jQ} {x0 : Option Nat} {x1 : Int32} (ah : AH) (out : Int32 × AH) (h : f_X5_fits x0 x1 ah = some out) (hR : jRetI l g md_X5_fits (jRm (d + 12) md_X5_fits) Q (0, 0) out.1 out.2) : J l g md_X5_fits (jRm (d + 12) md_X5_fits) Q 0 [(0, .inr (.inr (.inl x0))), (1, .inl x1)] [] ah (0, 0) := by
  unfold f_X5_fits at h
  refine J_seg ok_X5_fits 0 1 (pc' := 1) (ls' := [(0, .inr (.inr (.inl x0))), (1, .inl x1)]) (st' := [.inr (.inr (.inl x0))]) rfl ?_
  obtain ⟨v1, h2, h⟩ := Option.bind_eq_some_iff.mp h
  refine J_getR (jat ok_X5_fits 1 (pc := 1) (i := .getfield 11) (n := 3) rfl rfl) fl_RX5_11 h2 ?_
  refine J_seg ok_X5_fits 2 1 (pc' := 5) (ls' := [(0, .inr (.inr (.inl x0))), (1, .inl x1)]) (st' := [.inl x1, .inr (.inr (.inl v1))]) rfl ?_
  obtain ⟨q3, h4, h⟩ := Option.bind_eq_some_iff.mp h
  refine J_callS (md' := md_X5_lineAt) (As := [.inr (.inr (.inl v1)), .inl x1]) (st := []) (cs' := (0, 0)) (st' := [.inr (.inr (.inl q3.1))]) (jat ok_X5_fits 3 (pc := 5) (i := .invokestatic 71) (n := 3) rfl rfl) (Or.inl ml_RX5_71) ys_X5_lineAt (c_X5_lineAt l g (d + 11) h4) (jRo_of (by decide)) (Nat.le_of_ble_eq_true rfl) ⟨Nat.le_of_ble_eq_true rfl, Nat.le_of_ble_eq_true rfl⟩ rfl rfl rfl ?_
  refine J_seg ok_X5_fits 4 2 (pc' := 10) (ls' := [(2, .inr (.inr (.inl q3.1))), (0, .inr (.inr (.inl x0))), (1, .inl x1)]) (st' := [.inr (.inr (.inl q3.1))]) rfl ?_
  refine J_nonnull (jat ok_X5_fits 6 (pc := 10) (i := .ifnonnull 5) (n := 3) rfl rfl) (tgt := 15) (by decide) (fun c => ?_) (fun c => ?_)
  · have h := (if_neg c).symm.trans h
    refine J_seg ok_X5_fits 9 2 (pc' := 17) (ls' := [(2, .inr (.inr (.inl q3.1))), (0, .inr (.inr (.inl x0))), (1, .inl x1)]) (st' := [.inr (.inr (.inl q3.1)), .inr (.inr (.inl x0))]) rfl ?_
    by_cases c7 : qO q3.2 x0 5 = true
    case neg => exact absurd ((if_neg c7).symm.trans h) (by simp)
    have h := (if_pos c7).symm.trans h
    obtain ⟨q5, h6, h⟩ := Option.bind_eq_some_iff.mp h
    refine J_callV (md' := md_X5_refuseWeeks) (As := [.inr (.inr (.inl q3.1))]) (st := []) (cs' := (0, 0)) (st' := [.inl q5.1]) (jat ok_X5_fits 11 (pc := 17) (i := .invokevirtual 258) (n := 3) rfl rfl) ml_RX5_258 yv_X5_refuseWeeks c7 (c_X5_refuseWeeks l g (d + 9) h6) (jRo_of (by decide)) (Nat.le_of_ble_eq_true rfl) ⟨Nat.le_of_ble_eq_true rfl, Nat.le_of_ble_eq_true rfl⟩ rfl rfl rfl ?_
    refine J_seg ok_X5_fits 12 2 (pc' := 22) (ls' := [(3, .inl q5.1), (2, .inr (.inr (.inl q3.1))), (0, .inr (.inr (.inl x0))), (1, .inl x1)]) (st' := [.inl q5.1]) rfl ?_
    refine J_eq0 (jat ok_X5_fits 14 (pc := 22) (i := .ifCond .eq 5) (n := 3) rfl rfl) (tgt := 27) (by decide) (fun c => ?_) (fun c => ?_)
    · have h := (if_pos c).symm.trans h
      refine J_seg ok_X5_fits 17 2 (pc' := 29) (ls' := [(3, .inl q5.1), (2, .inr (.inr (.inl q3.1))), (0, .inr (.inr (.inl x0))), (1, .inl x1)]) (st' := [.inr (.inr (.inl q3.1)), .inr (.inr (.inl x0))]) rfl ?_
      by_cases c10 : qO q5.2 x0 5 = true
      case neg => exact absurd ((if_neg c10).symm.trans h) (by simp)
      have h := (if_pos c10).symm.trans h
      obtain ⟨q8, h9, h⟩ := Option.bind_eq_some_iff.mp h
      refine J_callV (md' := md_X5_seekFits) (As := [.inr (.inr (.inl q3.1))]) (st := []) (cs' := (0, 0)) (st' := []) (jat ok_X5_fits 19 (pc := 29) (i := .invokevirtual 261) (n := 3) rfl rfl) ml_RX5_261 yv_X5_seekFits c10 (c_X5_seekFits l g (d + 0) h9) (jRo_of (by decide)) (Nat.le_of_ble_eq_true rfl) ⟨Nat.le_of_ble_eq_true rfl, Nat.le_of_ble_eq_true rfl⟩ rfl rfl rfl ?_
      refine J_seg ok_X5_fits 20 2 (pc' := 34) (ls' := [(3, .inl q5.1), (2, .inr (.inr (.inl q3.1))), (0, .inr (.inr (.inl x0))), (1, .inl x1)]) (st' := [.inr (.inr (.inl x0)), .inr (.inr (.inl x0))]) rfl ?_
      obtain ⟨v11, h12, h⟩ := Option.bind_eq_some_iff.mp h
      refine J_getR (jat ok_X5_fits 22 (pc := 34) (i := .getfield 39) (n := 3) rfl rfl) fl_RX5_39 h12 ?_
      obtain ⟨v13, h14, h⟩ := Option.bind_eq_some_iff.mp h
      refine J_getI (jat ok_X5_fits 23 (pc := 37) (i := .getfield 232) (n := 3) rfl rfl) fl_RX5_232 h14 ?_
      refine J_seg ok_X5_fits 24 2 (pc' := 42) (ls' := [(3, .inl q5.1), (2, .inr (.inr (.inl q3.1))), (0, .inr (.inr (.inl x0))), (1, .inl x1)]) (st' := [.inr (.inl 1), .inr (.inl (Int32.toInt64 v13)), .inr (.inr (.inl x0))]) rfl ?_
      by_cases c17 : qO q8.2 x0 5 = true
      case neg => exact absurd ((if_neg c17).symm.trans h) (by simp)
      have h := (if_pos c17).symm.trans h
      obtain ⟨q15, h16, h⟩ := Option.bind_eq_some_iff.mp h
      refine J_callV (md' := md_X5_tell) (As := [.inr (.inl (Int32.toInt64 v13)), .inr (.inl 1)]) (st := []) (cs' := (0, 0)) (st' := [.inl q15.1]) (jat ok_X5_fits 26 (pc := 42) (i := .invokevirtual 245) (n := 3) rfl rfl) ml_RX5_245 yv_X5_tell c17 (c_X5_tell l g (d + 10) h16) (jRo_of (by decide)) (Nat.le_of_ble_eq_true rfl) ⟨Nat.le_of_ble_eq_true rfl, Nat.le_of_ble_eq_true rfl⟩ rfl rfl rfl ?_
      have h := Option.some.inj h
      subst h
      exact hR _ _ (jat ok_X5_fits 27 (pc := 45) (i := .ireturn) (n := 1) rfl rfl)
    · have h := (if_neg c).symm.trans h
      refine J_seg ok_X5_fits 15 1 (pc' := 26) (ls' := [(3, .inl q5.1), (2, .inr (.inr (.inl q3.1))), (0, .inr (.inr (.inl x0))), (1, .inl x1)]) (st' := [.inl q5.1]) rfl ?_
      have h := Option.some.inj h
      subst h
      exact hR _ _ (jat ok_X5_fits 16 (pc := 26) (i := .ireturn) (n := 1) rfl rfl)
  · have h := (if_pos c).symm.trans h
    refine J_seg ok_X5_fits 7 1 (pc' := 14) (ls' := [(2, .inr (.inr (.inl q3.1))), (0, .inr (.inr (.inl x0))), (1, .inl x1)]) (st' := [.inl (-1)]) rfl ?_
    have h := Option.some.inj h
    subst h
    exact hR _ _ (jat ok_X5_fits 8 (pc := 14) (i := .ireturn) (n := 1) rfl rfl)
theorem c_X5_fits (l : Launch) (g : GX) (d : Nat) {x0 : Option Nat} {x1 : Int32} {ah : AH} {q : Int32 × AH} (h : f_X5_fits x0 x1 ah = some q) : jM l g (d + 12) md_X5_fits [.inr (.inr (.inl x0)), .inl x1] ah (some (.inl q.1)) q.2 :=
  jM_of (by decide) (Nat.le_of_ble_eq_true rfl) (k_X5_fits d ah q h (fun pc ls hd => J_reti hd rfl (jPV_int _) rfl (Nat.le_refl _) rfl rfl))
def f_X5_refuseFits (x0 : Option Nat) (x1 : Option Nat) (ah : AH) : Option (Int32 × AH) :=
  if qO ah x0 5 = true then ((f_X5_refuseWeeks x0 x1 ah).bind fun q1 => if q1.1 = 0 then (if qO q1.2 x0 5 = true then ((f_X5_seekFits x0 x1 q1.2).bind fun q4 => (gR q4.2 x0 5 5).bind fun v7 => (gI q4.2 v7 0 3).bind fun v9 => if v9 = 0 then (if qO q4.2 x0 5 = true then ((f_X5_find x0 4 q4.2).bind fun q11 => some (q11.1, q11.2)) else none) else (some (0, q4.2))) else none) else (some (q1.1, q1.2))) else none
set_option maxRecDepth 100000 in
set_option maxHeartbeats 4000000 in
theorem k_X5_refuseFits {l : Launch} {g : GX} (d : Nat) {Q : jQ} {x0 : Option Nat} {x1 : Option Nat} (ah : AH) (out : Int32 × AH) (h : f_X5_refuseFits x0 x1 ah = some out) (hR : jRetI l g md_X5_refuseFits (jRm (d + 12) md_X5_refuseFits) Q (0, 0) out.1 out.2) : J l g md_X5_refuseFits (jRm (d + 12) md_X5_refuseFits) Q 0 [(0, .inr (.inr (.inl x0))), (1, .inr (.inr (.inl x1)))] [] ah (0, 0) := by
  unfold f_X5_refuseFits at h
  refine J_seg ok_X5_refuseFits 0 2 (pc' := 2) (ls' := [(0, .inr (.inr (.inl x0))), (1, .inr (.inr (.inl x1)))]) (st' := [.inr (.inr (.inl x1)), .inr (.inr (.inl x0))]) rfl ?_
  by_cases c3 : qO ah x0 5 = true
  case neg => exact absurd ((if_neg c3).symm.trans h) (by simp)
  have h := (if_pos c3).symm.trans h
  obtain ⟨q1, h2, h⟩ := Option.bind_eq_some_iff.mp h
  refine J_callV (md' := md_X5_refuseWeeks) (As := [.inr (.inr (.inl x1))]) (st := []) (cs' := (0, 0)) (st' := [.inl q1.1]) (jat ok_X5_refuseFits 2 (pc := 2) (i := .invokevirtual 258) (n := 3) rfl rfl) ml_RX5_258 yv_X5_refuseWeeks c3 (c_X5_refuseWeeks l g (d + 9) h2) (jRo_of (by decide)) (Nat.le_of_ble_eq_true rfl) ⟨Nat.le_of_ble_eq_true rfl, Nat.le_of_ble_eq_true rfl⟩ rfl rfl rfl ?_
  refine J_seg ok_X5_refuseFits 3 2 (pc' := 7) (ls' := [(2, .inl q1.1), (0, .inr (.inr (.inl x0))), (1, .inr (.inr (.inl x1)))]) (st' := [.inl q1.1]) rfl ?_
  refine J_eq0 (jat ok_X5_refuseFits 5 (pc := 7) (i := .ifCond .eq 5) (n := 3) rfl rfl) (tgt := 12) (by decide) (fun c => ?_) (fun c => ?_)
  · have h := (if_pos c).symm.trans h
    refine J_seg ok_X5_refuseFits 8 2 (pc' := 14) (ls' := [(2, .inl q1.1), (0, .inr (.inr (.inl x0))), (1, .inr (.inr (.inl x1)))]) (st' := [.inr (.inr (.inl x1)), .inr (.inr (.inl x0))]) rfl ?_
    by_cases c6 : qO q1.2 x0 5 = true
    case neg => exact absurd ((if_neg c6).symm.trans h) (by simp)
    have h := (if_pos c6).symm.trans h
    obtain ⟨q4, h5, h⟩ := Option.bind_eq_some_iff.mp h
    refine J_callV (md' := md_X5_seekFits) (As := [.inr (.inr (.inl x1))]) (st := []) (cs' := (0, 0)) (st' := []) (jat ok_X5_refuseFits 10 (pc := 14) (i := .invokevirtual 261) (n := 3) rfl rfl) ml_RX5_261 yv_X5_seekFits c6 (c_X5_seekFits l g (d + 0) h5) (jRo_of (by decide)) (Nat.le_of_ble_eq_true rfl) ⟨Nat.le_of_ble_eq_true rfl, Nat.le_of_ble_eq_true rfl⟩ rfl rfl rfl ?_
    refine J_seg ok_X5_refuseFits 11 1 (pc' := 18) (ls' := [(2, .inl q1.1), (0, .inr (.inr (.inl x0))), (1, .inr (.inr (.inl x1)))]) (st' := [.inr (.inr (.inl x0))]) rfl ?_
    obtain ⟨v7, h8, h⟩ := Option.bind_eq_some_iff.mp h
    refine J_getR (jat ok_X5_refuseFits 12 (pc := 18) (i := .getfield 39) (n := 3) rfl rfl) fl_RX5_39 h8 ?_
    obtain ⟨v9, h10, h⟩ := Option.bind_eq_some_iff.mp h
    refine J_getI (jat ok_X5_refuseFits 13 (pc := 21) (i := .getfield 232) (n := 3) rfl rfl) fl_RX5_232 h10 ?_
    refine J_ne0 (jat ok_X5_refuseFits 14 (pc := 24) (i := .ifCond .ne 11) (n := 3) rfl rfl) (tgt := 35) (by decide) (fun c => ?_) (fun c => ?_)
    · have h := (if_neg c).symm.trans h
      refine J_seg ok_X5_refuseFits 19 1 (pc' := 36) (ls' := [(2, .inl q1.1), (0, .inr (.inr (.inl x0))), (1, .inr (.inr (.inl x1)))]) (st' := [.inl 0]) rfl ?_
      have h := Option.some.inj h
      subst h
      exact hR _ _ (jat ok_X5_refuseFits 20 (pc := 36) (i := .ireturn) (n := 1) rfl rfl)
    · have h := (if_pos c).symm.trans h
      refine J_seg ok_X5_refuseFits 15 2 (pc' := 29) (ls' := [(2, .inl q1.1), (0, .inr (.inr (.inl x0))), (1, .inr (.inr (.inl x1)))]) (st' := [.inl 4, .inr (.inr (.inl x0))]) rfl ?_
      by_cases c13 : qO q4.2 x0 5 = true
      case neg => exact absurd ((if_neg c13).symm.trans h) (by simp)
      have h := (if_pos c13).symm.trans h
      obtain ⟨q11, h12, h⟩ := Option.bind_eq_some_iff.mp h
      refine J_callV (md' := md_X5_find) (As := [.inl 4]) (st := []) (cs' := (0, 0)) (st' := [.inl q11.1]) (jat ok_X5_refuseFits 17 (pc := 29) (i := .invokevirtual 75) (n := 3) rfl rfl) ml_RX5_75 yv_X5_find c13 (c_X5_find l g (d + 11) h12) (jRo_of (by decide)) (Nat.le_of_ble_eq_true rfl) ⟨Nat.le_of_ble_eq_true rfl, Nat.le_of_ble_eq_true rfl⟩ rfl rfl rfl ?_
      refine J_seg ok_X5_refuseFits 18 1 (pc' := 36) (ls' := [(2, .inl q1.1), (0, .inr (.inr (.inl x0))), (1, .inr (.inr (.inl x1)))]) (st' := [.inl q11.1]) rfl ?_
      have h := Option.some.inj h
      subst h
      exact hR _ _ (jat ok_X5_refuseFits 20 (pc := 36) (i := .ireturn) (n := 1) rfl rfl)
  · have h := (if_neg c).symm.trans h
    refine J_seg ok_X5_refuseFits 6 1 (pc' := 11) (ls' := [(2, .inl q1.1), (0, .inr (.inr (.inl x0))), (1, .inr (.inr (.inl x1)))]) (st' := [.inl q1.1]) rfl ?_
    have h := Option.some.inj h
    subst h
    exact hR _ _ (jat ok_X5_refuseFits 7 (pc := 11) (i := .ireturn) (n := 1) rfl rfl)
theorem c_X5_refuseFits (l : Launch) (g : GX) (d : Nat) {x0 : Option Nat} {x1 : Option Nat} {ah : AH} {q : Int32 × AH} (h : f_X5_refuseFits x0 x1 ah = some q) : jM l g (d + 12) md_X5_refuseFits [.inr (.inr (.inl x0)), .inr (.inr (.inl x1))] ah (some (.inl q.1)) q.2 :=
  jM_of (by decide) (Nat.le_of_ble_eq_true rfl) (k_X5_refuseFits d ah q h (fun pc ls hd => J_reti hd rfl (jPV_int _) rfl (Nat.le_refl _) rfl rfl))
def f_X5_sure (x0 : Option Nat) (x1 : Int32) (x2 : Int32) (ah : AH) : Option (Int32 × AH) :=
  (gR ah x0 5 0).bind fun v1 => (f_X5_lineAt v1 x2 ah).bind fun q3 => if q3.1 = none then (some ((-1), q3.2)) else ((gR q3.2 x0 5 8).bind fun v5 => if qO q3.2 v5 1 = true then ((f_X1_has v5 x1 q3.2).bind fun q7 => if q7.1 = 0 then (some ((-1), q7.2)) else (if qO q7.2 x0 5 = true then ((f_X5_refuseFits x0 q3.1 q7.2).bind fun q10 => if q10.1 = 0 then ((gR q10.2 x0 5 5).bind fun v13 => if qO q10.2 v13 0 = true then ((f_X0_victimIn v13 0 x1 q10.2).bind fun q15 => (gR q15.2 x0 5 5).bind fun v18 => if qO q15.2 v18 0 = true then ((f_X0_countPair v18 x1 q15.1 q15.2).bind fun q20 => (gR q20.2 x0 5 5).bind fun v23 => (gI q20.2 v23 0 3).bind fun v25 => if q20.1 = v25 then (some (q15.1, q20.2)) else (some ((-9), q20.2))) else none) else none) else (some (q10.1, q10.2))) else none)) else none)
set_option maxRecDepth 100000 in
set_option maxHeartbeats 4000000 in
theorem k_X5_sure {l : Launch} {g : GX} (d : Nat) {Q : jQ} {x0 : Option Nat} {x1 : Int32} {x2 : Int32} (ah : AH) (out : Int32 × AH) (h : f_X5_sure x0 x1 x2 ah = some out) (hR : jRetI l g md_X5_sure (jRm (d + 13) md_X5_sure) Q (0, 0) out.1 out.2) : J l g md_X5_sure (jRm (d + 13) md_X5_sure) Q 0 [(0, .inr (.inr (.inl x0))), (1, .inl x1), (2, .inl x2)] [] ah (0, 0) := by
  unfold f_X5_sure at h
  refine J_seg ok_X5_sure 0 1 (pc' := 1) (ls' := [(0, .inr (.inr (.inl x0))), (1, .inl x1), (2, .inl x2)]) (st' := [.inr (.inr (.inl x0))]) rfl ?_
  obtain ⟨v1, h2, h⟩ := Option.bind_eq_some_iff.mp h
  refine J_getR (jat ok_X5_sure 1 (pc := 1) (i := .getfield 11) (n := 3) rfl rfl) fl_RX5_11 h2 ?_
  refine J_seg ok_X5_sure 2 1 (pc' := 5) (ls' := [(0, .inr (.inr (.inl x0))), (1, .inl x1), (2, .inl x2)]) (st' := [.inl x2, .inr (.inr (.inl v1))]) rfl ?_
  obtain ⟨q3, h4, h⟩ := Option.bind_eq_some_iff.mp h
  refine J_callS (md' := md_X5_lineAt) (As := [.inr (.inr (.inl v1)), .inl x2]) (st := []) (cs' := (0, 0)) (st' := [.inr (.inr (.inl q3.1))]) (jat ok_X5_sure 3 (pc := 5) (i := .invokestatic 71) (n := 3) rfl rfl) (Or.inl ml_RX5_71) ys_X5_lineAt (c_X5_lineAt l g (d + 12) h4) (jRo_of (by decide)) (Nat.le_of_ble_eq_true rfl) ⟨Nat.le_of_ble_eq_true rfl, Nat.le_of_ble_eq_true rfl⟩ rfl rfl rfl ?_
  refine J_seg ok_X5_sure 4 2 (pc' := 10) (ls' := [(3, .inr (.inr (.inl q3.1))), (0, .inr (.inr (.inl x0))), (1, .inl x1), (2, .inl x2)]) (st' := [.inr (.inr (.inl q3.1))]) rfl ?_
  refine J_null (jat ok_X5_sure 6 (pc := 10) (i := .ifnull 14) (n := 3) rfl rfl) (tgt := 24) (by decide) (fun c => ?_) (fun c => ?_)
  · have h := (if_pos c).symm.trans h
    refine J_seg ok_X5_sure 12 1 (pc' := 25) (ls' := [(3, .inr (.inr (.inl q3.1))), (0, .inr (.inr (.inl x0))), (1, .inl x1), (2, .inl x2)]) (st' := [.inl (-1)]) rfl ?_
    have h := Option.some.inj h
    subst h
    exact hR _ _ (jat ok_X5_sure 13 (pc := 25) (i := .ireturn) (n := 1) rfl rfl)
  · have h := (if_neg c).symm.trans h
    refine J_seg ok_X5_sure 7 1 (pc' := 14) (ls' := [(3, .inr (.inr (.inl q3.1))), (0, .inr (.inr (.inl x0))), (1, .inl x1), (2, .inl x2)]) (st' := [.inr (.inr (.inl x0))]) rfl ?_
    obtain ⟨v5, h6, h⟩ := Option.bind_eq_some_iff.mp h
    refine J_getR (jat ok_X5_sure 8 (pc := 14) (i := .getfield 53) (n := 3) rfl rfl) fl_RX5_53 h6 ?_
    refine J_seg ok_X5_sure 9 1 (pc' := 18) (ls' := [(3, .inr (.inr (.inl q3.1))), (0, .inr (.inr (.inl x0))), (1, .inl x1), (2, .inl x2)]) (st' := [.inl x1, .inr (.inr (.inl v5))]) rfl ?_
    by_cases c9 : qO q3.2 v5 1 = true
    case neg => exact absurd ((if_neg c9).symm.trans h) (by simp)
    have h := (if_pos c9).symm.trans h
    obtain ⟨q7, h8, h⟩ := Option.bind_eq_some_iff.mp h
    refine J_callV (md' := md_X1_has) (As := [.inl x1]) (st := []) (cs' := (0, 0)) (st' := [.inl q7.1]) (jat ok_X5_sure 10 (pc := 18) (i := .invokevirtual 128) (n := 3) rfl rfl) ml_RX5_128 yv_X1_has c9 (c_X1_has l g (d + 12) h8) (jRo_of (by decide)) (Nat.le_of_ble_eq_true rfl) ⟨Nat.le_of_ble_eq_true rfl, Nat.le_of_ble_eq_true rfl⟩ rfl rfl rfl ?_
    refine J_ne0 (jat ok_X5_sure 11 (pc := 21) (i := .ifCond .ne 5) (n := 3) rfl rfl) (tgt := 26) (by decide) (fun c => ?_) (fun c => ?_)
    · have h := (if_neg c).symm.trans h
      refine J_seg ok_X5_sure 14 2 (pc' := 28) (ls' := [(3, .inr (.inr (.inl q3.1))), (0, .inr (.inr (.inl x0))), (1, .inl x1), (2, .inl x2)]) (st' := [.inr (.inr (.inl q3.1)), .inr (.inr (.inl x0))]) rfl ?_
      by_cases c12 : qO q7.2 x0 5 = true
      case neg => exact absurd ((if_neg c12).symm.trans h) (by simp)
      have h := (if_pos c12).symm.trans h
      obtain ⟨q10, h11, h⟩ := Option.bind_eq_some_iff.mp h
      refine J_callV (md' := md_X5_refuseFits) (As := [.inr (.inr (.inl q3.1))]) (st := []) (cs' := (0, 0)) (st' := [.inl q10.1]) (jat ok_X5_sure 16 (pc := 28) (i := .invokevirtual 265) (n := 3) rfl rfl) ml_RX5_265 yv_X5_refuseFits c12 (c_X5_refuseFits l g (d + 0) h11) (jRo_of (by decide)) (Nat.le_of_ble_eq_true rfl) ⟨Nat.le_of_ble_eq_true rfl, Nat.le_of_ble_eq_true rfl⟩ rfl rfl rfl ?_
      refine J_seg ok_X5_sure 17 2 (pc' := 35) (ls' := [(4, .inl q10.1), (3, .inr (.inr (.inl q3.1))), (0, .inr (.inr (.inl x0))), (1, .inl x1), (2, .inl x2)]) (st' := [.inl q10.1]) rfl ?_
      refine J_eq0 (jat ok_X5_sure 19 (pc := 35) (i := .ifCond .eq 6) (n := 3) rfl rfl) (tgt := 41) (by decide) (fun c => ?_) (fun c => ?_)
      · have h := (if_pos c).symm.trans h
        refine J_seg ok_X5_sure 22 1 (pc' := 42) (ls' := [(4, .inl q10.1), (3, .inr (.inr (.inl q3.1))), (0, .inr (.inr (.inl x0))), (1, .inl x1), (2, .inl x2)]) (st' := [.inr (.inr (.inl x0))]) rfl ?_
        obtain ⟨v13, h14, h⟩ := Option.bind_eq_some_iff.mp h
        refine J_getR (jat ok_X5_sure 23 (pc := 42) (i := .getfield 39) (n := 3) rfl rfl) fl_RX5_39 h14 ?_
        refine J_seg ok_X5_sure 24 2 (pc' := 47) (ls' := [(4, .inl q10.1), (3, .inr (.inr (.inl q3.1))), (0, .inr (.inr (.inl x0))), (1, .inl x1), (2, .inl x2)]) (st' := [.inl x1, .inl 0, .inr (.inr (.inl v13))]) rfl ?_
        by_cases c17 : qO q10.2 v13 0 = true
        case neg => exact absurd ((if_neg c17).symm.trans h) (by simp)
        have h := (if_pos c17).symm.trans h
        obtain ⟨q15, h16, h⟩ := Option.bind_eq_some_iff.mp h
        refine J_callV (md' := md_X0_victimIn) (As := [.inl 0, .inl x1]) (st := []) (cs' := (0, 0)) (st' := [.inl q15.1]) (jat ok_X5_sure 26 (pc := 47) (i := .invokevirtual 235) (n := 3) rfl rfl) ml_RX5_235 yv_X0_victimIn c17 (c_X0_victimIn l g (d + 12) h16) (jRo_of (by decide)) (Nat.le_of_ble_eq_true rfl) ⟨Nat.le_of_ble_eq_true rfl, Nat.le_of_ble_eq_true rfl⟩ rfl rfl rfl ?_
        refine J_seg ok_X5_sure 27 2 (pc' := 53) (ls' := [(5, .inl q15.1), (4, .inl q10.1), (3, .inr (.inr (.inl q3.1))), (0, .inr (.inr (.inl x0))), (1, .inl x1), (2, .inl x2)]) (st' := [.inr (.inr (.inl x0))]) rfl ?_
        obtain ⟨v18, h19, h⟩ := Option.bind_eq_some_iff.mp h
        refine J_getR (jat ok_X5_sure 29 (pc := 53) (i := .getfield 39) (n := 3) rfl rfl) fl_RX5_39 h19 ?_
        refine J_seg ok_X5_sure 30 2 (pc' := 59) (ls' := [(5, .inl q15.1), (4, .inl q10.1), (3, .inr (.inr (.inl q3.1))), (0, .inr (.inr (.inl x0))), (1, .inl x1), (2, .inl x2)]) (st' := [.inl q15.1, .inl x1, .inr (.inr (.inl v18))]) rfl ?_
        by_cases c22 : qO q15.2 v18 0 = true
        case neg => exact absurd ((if_neg c22).symm.trans h) (by simp)
        have h := (if_pos c22).symm.trans h
        obtain ⟨q20, h21, h⟩ := Option.bind_eq_some_iff.mp h
        refine J_callV (md' := md_X0_countPair) (As := [.inl x1, .inl q15.1]) (st := []) (cs' := (0, 0)) (st' := [.inl q20.1]) (jat ok_X5_sure 32 (pc := 59) (i := .invokevirtual 252) (n := 3) rfl rfl) ml_RX5_252 yv_X0_countPair c22 (c_X0_countPair l g (d + 11) h21) (jRo_of (by decide)) (Nat.le_of_ble_eq_true rfl) ⟨Nat.le_of_ble_eq_true rfl, Nat.le_of_ble_eq_true rfl⟩ rfl rfl rfl ?_
        refine J_seg ok_X5_sure 33 1 (pc' := 63) (ls' := [(5, .inl q15.1), (4, .inl q10.1), (3, .inr (.inr (.inl q3.1))), (0, .inr (.inr (.inl x0))), (1, .inl x1), (2, .inl x2)]) (st' := [.inr (.inr (.inl x0)), .inl q20.1]) rfl ?_
        obtain ⟨v23, h24, h⟩ := Option.bind_eq_some_iff.mp h
        refine J_getR (jat ok_X5_sure 34 (pc := 63) (i := .getfield 39) (n := 3) rfl rfl) fl_RX5_39 h24 ?_
        obtain ⟨v25, h26, h⟩ := Option.bind_eq_some_iff.mp h
        refine J_getI (jat ok_X5_sure 35 (pc := 66) (i := .getfield 232) (n := 3) rfl rfl) fl_RX5_232 h26 ?_
        refine J_ne (jat ok_X5_sure 36 (pc := 69) (i := .if_icmp .ne 8) (n := 3) rfl rfl) (tgt := 77) (by decide) (fun c => ?_) (fun c => ?_)
        · have h := (if_neg c).symm.trans h
          refine J_seg ok_X5_sure 39 1 (pc' := 79) (ls' := [(5, .inl q15.1), (4, .inl q10.1), (3, .inr (.inr (.inl q3.1))), (0, .inr (.inr (.inl x0))), (1, .inl x1), (2, .inl x2)]) (st' := [.inl (-9)]) rfl ?_
          have h := Option.some.inj h
          subst h
          exact hR _ _ (jat ok_X5_sure 40 (pc := 79) (i := .ireturn) (n := 1) rfl rfl)
        · have h := (if_pos c).symm.trans h
          refine J_seg ok_X5_sure 37 2 (pc' := 79) (ls' := [(5, .inl q15.1), (4, .inl q10.1), (3, .inr (.inr (.inl q3.1))), (0, .inr (.inr (.inl x0))), (1, .inl x1), (2, .inl x2)]) (st' := [.inl q15.1]) rfl ?_
          have h := Option.some.inj h
          subst h
          exact hR _ _ (jat ok_X5_sure 40 (pc := 79) (i := .ireturn) (n := 1) rfl rfl)
      · have h := (if_neg c).symm.trans h
        refine J_seg ok_X5_sure 20 1 (pc' := 40) (ls' := [(4, .inl q10.1), (3, .inr (.inr (.inl q3.1))), (0, .inr (.inr (.inl x0))), (1, .inl x1), (2, .inl x2)]) (st' := [.inl q10.1]) rfl ?_
        have h := Option.some.inj h
        subst h
        exact hR _ _ (jat ok_X5_sure 21 (pc := 40) (i := .ireturn) (n := 1) rfl rfl)
    · have h := (if_pos c).symm.trans h
      refine J_seg ok_X5_sure 12 1 (pc' := 25) (ls' := [(3, .inr (.inr (.inl q3.1))), (0, .inr (.inr (.inl x0))), (1, .inl x1), (2, .inl x2)]) (st' := [.inl (-1)]) rfl ?_
      have h := Option.some.inj h
      subst h
      exact hR _ _ (jat ok_X5_sure 13 (pc := 25) (i := .ireturn) (n := 1) rfl rfl)
theorem c_X5_sure (l : Launch) (g : GX) (d : Nat) {x0 : Option Nat} {x1 : Int32} {x2 : Int32} {ah : AH} {q : Int32 × AH} (h : f_X5_sure x0 x1 x2 ah = some q) : jM l g (d + 13) md_X5_sure [.inr (.inr (.inl x0)), .inl x1, .inl x2] ah (some (.inl q.1)) q.2 :=
  jM_of (by decide) (Nat.le_of_ble_eq_true rfl) (k_X5_sure d ah q h (fun pc ls hd => J_reti hd rfl (jPV_int _) rfl (Nat.le_refl _) rfl rfl))
def f_X5_ask_b43 (k0 : Option Nat) (s43 : Int32 × Int32 × Int32) (ah : AH) : Option ((Unit × AH) ⊕ (((Int32 × Int32) × AH) ⊕ ((Int32 × Int32 × Int32) × AH))) :=
  (gR ah k0 5 8).bind fun v13 => if qO ah v13 1 = true then ((f_X1_everyone v13 ah).bind fun q15 => if q15.1 < s43.2.2 then (some (.inr (.inl ((s43.1, s43.2.1), q15.2)))) else ((gR q15.2 k0 5 5).bind fun v18 => if qO q15.2 v18 0 = true then ((f_X0_mostAlike v18 s43.2.2 q15.2).bind fun q20 => if s43.2.1 ≤ q20.1 then (some (.inr (.inr ((s43.1, s43.2.1, s43.2.2 + 1), q20.2)))) else (some (.inr (.inr ((s43.2.2, q20.1, s43.2.2 + 1), q20.2))))) else none)) else none
set_option maxRecDepth 100000 in
set_option maxHeartbeats 4000000 in
theorem k_X5_ask_b43 {l : Launch} {g : GX} (d : Nat) {Q : jQ} {k0 : Option Nat} (s43 : Int32 × Int32 × Int32) (ah : AH) (out : (Unit × AH) ⊕ (((Int32 × Int32) × AH) ⊕ ((Int32 × Int32 × Int32) × AH))) (h : f_X5_ask_b43 k0 s43 ah = some out) (hR : ∀ q, out = .inl q → jRetN q.1 q.2) (hX : ∀ q, out = .inr (.inl q) → J l g md_X5_ask (jRm (d + 13) md_X5_ask) Q 87 [(0, .inr (.inr (.inl k0))), (4, .inl q.1.1), (5, .inl q.1.2)] [] q.2 (0, 0)) (hN : ∀ q, out = .inr (.inr q) → J l g md_X5_ask (jRm (d + 13) md_X5_ask) Q 43 [(0, .inr (.inr (.inl k0))), (4, .inl q.1.1), (5, .inl q.1.2.1), (6, .inl q.1.2.2)] [] q.2 (0, 0)) : J l g md_X5_ask (jRm (d + 13) md_X5_ask) Q 43 [(0, .inr (.inr (.inl k0))), (4, .inl s43.1), (5, .inl s43.2.1), (6, .inl s43.2.2)] [] ah (0, 0) := by
  unfold f_X5_ask_b43 at h
  refine J_seg ok_X5_ask 26 2 (pc' := 46) (ls' := [(0, .inr (.inr (.inl k0))), (4, .inl s43.1), (5, .inl s43.2.1), (6, .inl s43.2.2)]) (st' := [.inr (.inr (.inl k0)), .inl s43.2.2]) rfl ?_
  obtain ⟨v13, h14, h⟩ := Option.bind_eq_some_iff.mp h
  refine J_getR (jat ok_X5_ask 28 (pc := 46) (i := .getfield 53) (n := 3) rfl rfl) fl_RX5_53 h14 ?_
  by_cases c17 : qO ah v13 1 = true
  case neg => exact absurd ((if_neg c17).symm.trans h) (by simp)
  have h := (if_pos c17).symm.trans h
  obtain ⟨q15, h16, h⟩ := Option.bind_eq_some_iff.mp h
  refine J_callV (md' := md_X1_everyone) (As := []) (st := [.inl s43.2.2]) (cs' := (0, 0)) (st' := [.inl q15.1, .inl s43.2.2]) (jat ok_X5_ask 29 (pc := 49) (i := .invokevirtual 242) (n := 3) rfl rfl) ml_RX5_242 yv_X1_everyone c17 (c_X1_everyone l g (d + 12) h16) (jRo_of (by decide)) (Nat.le_of_ble_eq_true rfl) ⟨Nat.le_of_ble_eq_true rfl, Nat.le_of_ble_eq_true rfl⟩ rfl rfl rfl ?_
  refine J_gt (jat ok_X5_ask 30 (pc := 52) (i := .if_icmp .gt 35) (n := 3) rfl rfl) (tgt := 87) (by decide) (fun c => ?_) (fun c => ?_)
  · have h := (if_pos c).symm.trans h
    exact J_sub (ls' := [(0, .inr (.inr (.inl k0))), (4, .inl s43.1), (5, .inl s43.2.1)]) [0, 1, 2] rfl (hX ((s43.1, s43.2.1), q15.2) (Option.some.inj h).symm)
  · have h := (if_neg c).symm.trans h
    refine J_seg ok_X5_ask 31 1 (pc' := 56) (ls' := [(0, .inr (.inr (.inl k0))), (4, .inl s43.1), (5, .inl s43.2.1), (6, .inl s43.2.2)]) (st' := [.inr (.inr (.inl k0))]) rfl ?_
    obtain ⟨v18, h19, h⟩ := Option.bind_eq_some_iff.mp h
    refine J_getR (jat ok_X5_ask 32 (pc := 56) (i := .getfield 39) (n := 3) rfl rfl) fl_RX5_39 h19 ?_
    refine J_seg ok_X5_ask 33 1 (pc' := 61) (ls' := [(0, .inr (.inr (.inl k0))), (4, .inl s43.1), (5, .inl s43.2.1), (6, .inl s43.2.2)]) (st' := [.inl s43.2.2, .inr (.inr (.inl v18))]) rfl ?_
    by_cases c22 : qO q15.2 v18 0 = true
    case neg => exact absurd ((if_neg c22).symm.trans h) (by simp)
    have h := (if_pos c22).symm.trans h
    obtain ⟨q20, h21, h⟩ := Option.bind_eq_some_iff.mp h
    refine J_callV (md' := md_X0_mostAlike) (As := [.inl s43.2.2]) (st := []) (cs' := (0, 0)) (st' := [.inl q20.1]) (jat ok_X5_ask 34 (pc := 61) (i := .invokevirtual 268) (n := 3) rfl rfl) ml_RX5_268 yv_X0_mostAlike c22 (c_X0_mostAlike l g (d + 11) h21) (jRo_of (by decide)) (Nat.le_of_ble_eq_true rfl) ⟨Nat.le_of_ble_eq_true rfl, Nat.le_of_ble_eq_true rfl⟩ rfl rfl rfl ?_
    refine J_seg ok_X5_ask 35 3 (pc' := 70) (ls' := [(7, .inl q20.1), (0, .inr (.inr (.inl k0))), (4, .inl s43.1), (5, .inl s43.2.1), (6, .inl s43.2.2)]) (st' := [.inl s43.2.1, .inl q20.1]) rfl ?_
    refine J_ge (jat ok_X5_ask 38 (pc := 70) (i := .if_icmp .ge 11) (n := 3) rfl rfl) (tgt := 81) (by decide) (fun c => ?_) (fun c => ?_)
    · have h := (if_pos c).symm.trans h
      refine J_seg ok_X5_ask 43 2 (pc' := 43) (ls' := [(6, .inl (s43.2.2 + 1)), (7, .inl q20.1), (0, .inr (.inr (.inl k0))), (4, .inl s43.1), (5, .inl s43.2.1)]) (st' := []) rfl ?_
      exact J_sub (ls' := [(0, .inr (.inr (.inl k0))), (4, .inl s43.1), (5, .inl s43.2.1), (6, .inl (s43.2.2 + 1))]) [2, 3, 4, 0] rfl (hN ((s43.1, s43.2.1, s43.2.2 + 1), q20.2) (Option.some.inj h).symm)
    · have h := (if_neg c).symm.trans h
      refine J_seg ok_X5_ask 39 6 (pc' := 43) (ls' := [(6, .inl (s43.2.2 + 1)), (4, .inl s43.2.2), (5, .inl q20.1), (7, .inl q20.1), (0, .inr (.inr (.inl k0)))]) (st' := []) rfl ?_
      exact J_sub (ls' := [(0, .inr (.inr (.inl k0))), (4, .inl s43.2.2), (5, .inl q20.1), (6, .inl (s43.2.2 + 1))]) [4, 1, 2, 0] rfl (hN ((s43.2.2, q20.1, s43.2.2 + 1), q20.2) (Option.some.inj h).symm)
def f_X5_ask (x0 : Option Nat) (x1 : Int32) (ah : AH) : Option (Int32 × AH) :=
  (gR ah x0 5 0).bind fun v1 => (f_X5_lineAt v1 x1 ah).bind fun q3 => if q3.1 = none then (some ((-1), q3.2)) else (if qO q3.2 x0 5 = true then ((f_X5_refuseFits x0 q3.1 q3.2).bind fun q5 => if q5.1 = 0 then ((gR q5.2 x0 5 5).bind fun v8 => if qO q5.2 v8 0 = true then ((f_X0_mostAlike v8 0 q5.2).bind fun q10 => (jloop (f_X5_ask_b43 x0) jfuel (0, q10.1, 1) q10.2).bind fun q23 => match q23 with | .inl r => none | .inr z25 => (sF z25.2 x0 5 11 (.inl z25.1.2)).bind fun a27 => some (z25.1.1, a27)) else none) else (some (q5.1, q5.2))) else none)
set_option maxRecDepth 100000 in
set_option maxHeartbeats 4000000 in
theorem k_X5_ask {l : Launch} {g : GX} (d : Nat) {Q : jQ} {x0 : Option Nat} {x1 : Int32} (ah : AH) (out : Int32 × AH) (h : f_X5_ask x0 x1 ah = some out) (hR : jRetI l g md_X5_ask (jRm (d + 13) md_X5_ask) Q (0, 0) out.1 out.2) : J l g md_X5_ask (jRm (d + 13) md_X5_ask) Q 0 [(0, .inr (.inr (.inl x0))), (1, .inl x1)] [] ah (0, 0) := by
  unfold f_X5_ask at h
  refine J_seg ok_X5_ask 0 1 (pc' := 1) (ls' := [(0, .inr (.inr (.inl x0))), (1, .inl x1)]) (st' := [.inr (.inr (.inl x0))]) rfl ?_
  obtain ⟨v1, h2, h⟩ := Option.bind_eq_some_iff.mp h
  refine J_getR (jat ok_X5_ask 1 (pc := 1) (i := .getfield 11) (n := 3) rfl rfl) fl_RX5_11 h2 ?_
  refine J_seg ok_X5_ask 2 1 (pc' := 5) (ls' := [(0, .inr (.inr (.inl x0))), (1, .inl x1)]) (st' := [.inl x1, .inr (.inr (.inl v1))]) rfl ?_
  obtain ⟨q3, h4, h⟩ := Option.bind_eq_some_iff.mp h
  refine J_callS (md' := md_X5_lineAt) (As := [.inr (.inr (.inl v1)), .inl x1]) (st := []) (cs' := (0, 0)) (st' := [.inr (.inr (.inl q3.1))]) (jat ok_X5_ask 3 (pc := 5) (i := .invokestatic 71) (n := 3) rfl rfl) (Or.inl ml_RX5_71) ys_X5_lineAt (c_X5_lineAt l g (d + 12) h4) (jRo_of (by decide)) (Nat.le_of_ble_eq_true rfl) ⟨Nat.le_of_ble_eq_true rfl, Nat.le_of_ble_eq_true rfl⟩ rfl rfl rfl ?_
  refine J_seg ok_X5_ask 4 2 (pc' := 10) (ls' := [(2, .inr (.inr (.inl q3.1))), (0, .inr (.inr (.inl x0))), (1, .inl x1)]) (st' := [.inr (.inr (.inl q3.1))]) rfl ?_
  refine J_nonnull (jat ok_X5_ask 6 (pc := 10) (i := .ifnonnull 5) (n := 3) rfl rfl) (tgt := 15) (by decide) (fun c => ?_) (fun c => ?_)
  · have h := (if_neg c).symm.trans h
    refine J_seg ok_X5_ask 9 2 (pc' := 17) (ls' := [(2, .inr (.inr (.inl q3.1))), (0, .inr (.inr (.inl x0))), (1, .inl x1)]) (st' := [.inr (.inr (.inl q3.1)), .inr (.inr (.inl x0))]) rfl ?_
    by_cases c7 : qO q3.2 x0 5 = true
    case neg => exact absurd ((if_neg c7).symm.trans h) (by simp)
    have h := (if_pos c7).symm.trans h
    obtain ⟨q5, h6, h⟩ := Option.bind_eq_some_iff.mp h
    refine J_callV (md' := md_X5_refuseFits) (As := [.inr (.inr (.inl q3.1))]) (st := []) (cs' := (0, 0)) (st' := [.inl q5.1]) (jat ok_X5_ask 11 (pc := 17) (i := .invokevirtual 265) (n := 3) rfl rfl) ml_RX5_265 yv_X5_refuseFits c7 (c_X5_refuseFits l g (d + 0) h6) (jRo_of (by decide)) (Nat.le_of_ble_eq_true rfl) ⟨Nat.le_of_ble_eq_true rfl, Nat.le_of_ble_eq_true rfl⟩ rfl rfl rfl ?_
    refine J_seg ok_X5_ask 12 2 (pc' := 22) (ls' := [(3, .inl q5.1), (2, .inr (.inr (.inl q3.1))), (0, .inr (.inr (.inl x0))), (1, .inl x1)]) (st' := [.inl q5.1]) rfl ?_
    refine J_eq0 (jat ok_X5_ask 14 (pc := 22) (i := .ifCond .eq 5) (n := 3) rfl rfl) (tgt := 27) (by decide) (fun c => ?_) (fun c => ?_)
    · have h := (if_pos c).symm.trans h
      refine J_seg ok_X5_ask 17 3 (pc' := 31) (ls' := [(4, .inl 0), (3, .inl q5.1), (2, .inr (.inr (.inl q3.1))), (0, .inr (.inr (.inl x0))), (1, .inl x1)]) (st' := [.inr (.inr (.inl x0))]) rfl ?_
      obtain ⟨v8, h9, h⟩ := Option.bind_eq_some_iff.mp h
      refine J_getR (jat ok_X5_ask 20 (pc := 31) (i := .getfield 39) (n := 3) rfl rfl) fl_RX5_39 h9 ?_
      refine J_seg ok_X5_ask 21 1 (pc' := 35) (ls' := [(4, .inl 0), (3, .inl q5.1), (2, .inr (.inr (.inl q3.1))), (0, .inr (.inr (.inl x0))), (1, .inl x1)]) (st' := [.inl 0, .inr (.inr (.inl v8))]) rfl ?_
      by_cases c12 : qO q5.2 v8 0 = true
      case neg => exact absurd ((if_neg c12).symm.trans h) (by simp)
      have h := (if_pos c12).symm.trans h
      obtain ⟨q10, h11, h⟩ := Option.bind_eq_some_iff.mp h
      refine J_callV (md' := md_X0_mostAlike) (As := [.inl 0]) (st := []) (cs' := (0, 0)) (st' := [.inl q10.1]) (jat ok_X5_ask 22 (pc := 35) (i := .invokevirtual 268) (n := 3) rfl rfl) ml_RX5_268 yv_X0_mostAlike c12 (c_X0_mostAlike l g (d + 11) h11) (jRo_of (by decide)) (Nat.le_of_ble_eq_true rfl) ⟨Nat.le_of_ble_eq_true rfl, Nat.le_of_ble_eq_true rfl⟩ rfl rfl rfl ?_
      refine J_seg ok_X5_ask 23 3 (pc' := 43) (ls' := [(6, .inl 1), (5, .inl q10.1), (4, .inl 0), (3, .inl q5.1), (2, .inr (.inr (.inl q3.1))), (0, .inr (.inr (.inl x0))), (1, .inl x1)]) (st' := []) rfl ?_
      obtain ⟨q23, h24, h⟩ := Option.bind_eq_some_iff.mp h
      refine J_sub (ls' := [(0, .inr (.inr (.inl x0))), (4, .inl 0), (5, .inl q10.1), (6, .inl 1)]) [5, 2, 1, 0] rfl ?_
      refine J_loop (pE := 87) (lh := fun t26 => [(0, .inr (.inr (.inl x0))), (4, .inl t26.1), (5, .inl t26.2.1), (6, .inl t26.2.2)]) (lx := fun z25 => [(0, .inr (.inr (.inl x0))), (4, .inl z25.1), (5, .inl z25.2)]) (P := jRetN) (fun s ah out hb hR hX hN => k_X5_ask_b43 d s ah out hb hR hX hN) jfuel (0, q10.1, 1) _ _ h24 (fun r e => ?_) (fun z25 e => ?_)
      · subst e
        dsimp only at h
        cases h
      · subst e
        dsimp only at h
        refine J_seg ok_X5_ask 45 2 (pc' := 90) (ls' := [(0, .inr (.inr (.inl x0))), (4, .inl z25.1.1), (5, .inl z25.1.2)]) (st' := [.inl z25.1.2, .inr (.inr (.inl x0))]) rfl ?_
        obtain ⟨a27, h28, h⟩ := Option.bind_eq_some_iff.mp h
        refine J_put (jat ok_X5_ask 47 (pc := 90) (i := .putfield 90) (n := 3) rfl rfl) (fp_RX5_90 _) (jPV_int _) h28 ?_
        refine J_seg ok_X5_ask 48 1 (pc' := 95) (ls' := [(0, .inr (.inr (.inl x0))), (4, .inl z25.1.1), (5, .inl z25.1.2)]) (st' := [.inl z25.1.1]) rfl ?_
        have h := Option.some.inj h
        subst h
        exact hR _ _ (jat ok_X5_ask 49 (pc := 95) (i := .ireturn) (n := 1) rfl rfl)
    · have h := (if_neg c).symm.trans h
      refine J_seg ok_X5_ask 15 1 (pc' := 26) (ls' := [(3, .inl q5.1), (2, .inr (.inr (.inl q3.1))), (0, .inr (.inr (.inl x0))), (1, .inl x1)]) (st' := [.inl q5.1]) rfl ?_
      have h := Option.some.inj h
      subst h
      exact hR _ _ (jat ok_X5_ask 16 (pc := 26) (i := .ireturn) (n := 1) rfl rfl)
  · have h := (if_pos c).symm.trans h
    refine J_seg ok_X5_ask 7 1 (pc' := 14) (ls' := [(2, .inr (.inr (.inl q3.1))), (0, .inr (.inr (.inl x0))), (1, .inl x1)]) (st' := [.inl (-1)]) rfl ?_
    have h := Option.some.inj h
    subst h
    exact hR _ _ (jat ok_X5_ask 8 (pc := 14) (i := .ireturn) (n := 1) rfl rfl)
theorem c_X5_ask (l : Launch) (g : GX) (d : Nat) {x0 : Option Nat} {x1 : Int32} {ah : AH} {q : Int32 × AH} (h : f_X5_ask x0 x1 ah = some q) : jM l g (d + 13) md_X5_ask [.inr (.inr (.inl x0)), .inl x1] ah (some (.inl q.1)) q.2 :=
  jM_of (by decide) (Nat.le_of_ble_eq_true rfl) (k_X5_ask d ah q h (fun pc ls hd => J_reti hd rfl (jPV_int _) rfl (Nat.le_refl _) rfl rfl))
def f_X5_actByLot (x0 : Option Nat) (x1 : Int32) (x2 : Int64) (ah : AH) : Option (Int32 × AH) :=
  if (Int64.toInt32 ((x2 / 4) - (x2 / 4) / 3 * 3)) = 2 then ((gR ah x0 5 3).bind fun v1 => if qO ah v1 4 = true then ((f_X4_victimOf v1 x1 ah).bind fun q3 => if q3.1 = (-9) then (some (1, q3.2)) else (some (Int64.toInt32 ((x2 / 4) - (x2 / 4) / 3 * 3), q3.2))) else none) else (some (Int64.toInt32 ((x2 / 4) - (x2 / 4) / 3 * 3), ah))
set_option maxRecDepth 100000 in
set_option maxHeartbeats 4000000 in
theorem k_X5_actByLot {l : Launch} {g : GX} (d : Nat) {Q : jQ} {x0 : Option Nat} {x1 : Int32} {x2 : Int64} (ah : AH) (out : Int32 × AH) (h : f_X5_actByLot x0 x1 x2 ah = some out) (hR : jRetI l g md_X5_actByLot (jRm (d + 2) md_X5_actByLot) Q (0, 0) out.1 out.2) : J l g md_X5_actByLot (jRm (d + 2) md_X5_actByLot) Q 0 [(0, .inr (.inr (.inl x0))), (1, .inl x1), (2, .inr (.inl x2))] [] ah (0, 0) := by
  unfold f_X5_actByLot at h
  refine J_seg ok_X5_actByLot 0 1 (pc' := 1) (ls' := [(0, .inr (.inr (.inl x0))), (1, .inl x1), (2, .inr (.inl x2))]) (st' := [.inr (.inl x2)]) rfl ?_
  refine J_ldc2 (jat ok_X5_actByLot 1 (pc := 1) (i := .ldc2_w 350) (n := 3) rfl rfl) lc_RX5_350 ?_
  refine J_ldiv (jat ok_X5_actByLot 2 (pc := 4) (i := .ldiv) (n := 1) rfl rfl) (by decide) ?_
  refine J_ldc2 (jat ok_X5_actByLot 3 (pc := 5) (i := .ldc2_w 352) (n := 3) rfl rfl) lc_RX5_352 ?_
  refine J_lrem (jat ok_X5_actByLot 4 (pc := 8) (i := .lrem) (n := 1) rfl rfl) (by decide) ?_
  refine J_seg ok_X5_actByLot 5 4 (pc' := 15) (ls' := [(4, .inl (Int64.toInt32 ((x2 / 4) - (x2 / 4) / 3 * 3))), (0, .inr (.inr (.inl x0))), (1, .inl x1), (2, .inr (.inl x2))]) (st' := [.inl 2, .inl (Int64.toInt32 ((x2 / 4) - (x2 / 4) / 3 * 3))]) rfl ?_
  refine J_ne (jat ok_X5_actByLot 9 (pc := 15) (i := .if_icmp .ne 20) (n := 3) rfl rfl) (tgt := 35) (by decide) (fun c => ?_) (fun c => ?_)
  · have h := (if_neg c).symm.trans h
    refine J_seg ok_X5_actByLot 18 1 (pc' := 37) (ls' := [(4, .inl (Int64.toInt32 ((x2 / 4) - (x2 / 4) / 3 * 3))), (0, .inr (.inr (.inl x0))), (1, .inl x1), (2, .inr (.inl x2))]) (st' := [.inl (Int64.toInt32 ((x2 / 4) - (x2 / 4) / 3 * 3))]) rfl ?_
    have h := Option.some.inj h
    subst h
    exact hR _ _ (jat ok_X5_actByLot 19 (pc := 37) (i := .ireturn) (n := 1) rfl rfl)
  · have h := (if_pos c).symm.trans h
    refine J_seg ok_X5_actByLot 10 1 (pc' := 19) (ls' := [(4, .inl (Int64.toInt32 ((x2 / 4) - (x2 / 4) / 3 * 3))), (0, .inr (.inr (.inl x0))), (1, .inl x1), (2, .inr (.inl x2))]) (st' := [.inr (.inr (.inl x0))]) rfl ?_
    obtain ⟨v1, h2, h⟩ := Option.bind_eq_some_iff.mp h
    refine J_getR (jat ok_X5_actByLot 11 (pc := 19) (i := .getfield 28) (n := 3) rfl rfl) fl_RX5_28 h2 ?_
    refine J_seg ok_X5_actByLot 12 1 (pc' := 23) (ls' := [(4, .inl (Int64.toInt32 ((x2 / 4) - (x2 / 4) / 3 * 3))), (0, .inr (.inr (.inl x0))), (1, .inl x1), (2, .inr (.inl x2))]) (st' := [.inl x1, .inr (.inr (.inl v1))]) rfl ?_
    by_cases c5 : qO ah v1 4 = true
    case neg => exact absurd ((if_neg c5).symm.trans h) (by simp)
    have h := (if_pos c5).symm.trans h
    obtain ⟨q3, h4, h⟩ := Option.bind_eq_some_iff.mp h
    refine J_callV (md' := md_X4_victimOf) (As := [.inl x1]) (st := []) (cs' := (0, 0)) (st' := [.inl q3.1]) (jat ok_X5_actByLot 13 (pc := 23) (i := .invokevirtual 178) (n := 3) rfl rfl) ml_RX5_178 yv_X4_victimOf c5 (c_X4_victimOf l g (d + 0) h4) (jRo_of (by decide)) (Nat.le_of_ble_eq_true rfl) ⟨Nat.le_of_ble_eq_true rfl, Nat.le_of_ble_eq_true rfl⟩ rfl rfl rfl ?_
    refine J_seg ok_X5_actByLot 14 1 (pc' := 28) (ls' := [(4, .inl (Int64.toInt32 ((x2 / 4) - (x2 / 4) / 3 * 3))), (0, .inr (.inr (.inl x0))), (1, .inl x1), (2, .inr (.inl x2))]) (st' := [.inl (-9), .inl q3.1]) rfl ?_
    refine J_ne (jat ok_X5_actByLot 15 (pc := 28) (i := .if_icmp .ne 7) (n := 3) rfl rfl) (tgt := 35) (by decide) (fun c => ?_) (fun c => ?_)
    · have h := (if_neg c).symm.trans h
      refine J_seg ok_X5_actByLot 18 1 (pc' := 37) (ls' := [(4, .inl (Int64.toInt32 ((x2 / 4) - (x2 / 4) / 3 * 3))), (0, .inr (.inr (.inl x0))), (1, .inl x1), (2, .inr (.inl x2))]) (st' := [.inl (Int64.toInt32 ((x2 / 4) - (x2 / 4) / 3 * 3))]) rfl ?_
      have h := Option.some.inj h
      subst h
      exact hR _ _ (jat ok_X5_actByLot 19 (pc := 37) (i := .ireturn) (n := 1) rfl rfl)
    · have h := (if_pos c).symm.trans h
      refine J_seg ok_X5_actByLot 16 2 (pc' := 37) (ls' := [(4, .inl (Int64.toInt32 ((x2 / 4) - (x2 / 4) / 3 * 3))), (0, .inr (.inr (.inl x0))), (1, .inl x1), (2, .inr (.inl x2))]) (st' := [.inl 1]) rfl ?_
      have h := Option.some.inj h
      subst h
      exact hR _ _ (jat ok_X5_actByLot 19 (pc := 37) (i := .ireturn) (n := 1) rfl rfl)
theorem c_X5_actByLot (l : Launch) (g : GX) (d : Nat) {x0 : Option Nat} {x1 : Int32} {x2 : Int64} {ah : AH} {q : Int32 × AH} (h : f_X5_actByLot x0 x1 x2 ah = some q) : jM l g (d + 2) md_X5_actByLot [.inr (.inr (.inl x0)), .inl x1, .inr (.inl x2)] ah (some (.inl q.1)) q.2 :=
  jM_of (by decide) (Nat.le_of_ble_eq_true rfl) (k_X5_actByLot d ah q h (fun pc ls hd => J_reti hd rfl (jPV_int _) rfl (Nat.le_refl _) rfl rfl))
def f_X5_lots_b75 (k0 : Option Nat) (k1 : Int32) (k5 : Int32) (k6 : Int32) (s75 : Int64 × Int32) (ah : AH) : Option ((Unit × AH) ⊕ (((Int64) × AH) ⊕ ((Int64 × Int32) × AH))) :=
  (gR ah k0 5 8).bind fun v9 => (gI ah v9 1 5).bind fun v11 => if v11 ≤ s75.2 then (some (.inr (.inl (s75.1, ah)))) else (if 6 ≤ s75.2 then (some (.inr (.inl (s75.1, ah)))) else ((gR ah k0 5 6).bind fun v13 => if qO ah k0 5 = true then ((f_X5_actByLot k0 s75.2 ((s75.1 * 48271) - (s75.1 * 48271) / 2147483647 * 2147483647) ah).bind fun q15 => (sA q15.2 v13 s75.2 q15.1).bind fun a18 => some (.inr (.inr (((s75.1 * 48271) - (s75.1 * 48271) / 2147483647 * 2147483647, s75.2 + 1), a18)))) else none))
set_option maxRecDepth 100000 in
set_option maxHeartbeats 4000000 in
theorem k_X5_lots_b75 {l : Launch} {g : GX} (d : Nat) {Q : jQ} {k0 : Option Nat} {k1 : Int32} {k5 : Int32} {k6 : Int32} (s75 : Int64 × Int32) (ah : AH) (out : (Unit × AH) ⊕ (((Int64) × AH) ⊕ ((Int64 × Int32) × AH))) (h : f_X5_lots_b75 k0 k1 k5 k6 s75 ah = some out) (hR : ∀ q, out = .inl q → jRetN q.1 q.2) (hX : ∀ q, out = .inr (.inl q) → J l g md_X5_lots (jRm (d + 6) md_X5_lots) Q 124 [(0, .inr (.inr (.inl k0))), (1, .inl k1), (3, .inr (.inl q.1)), (5, .inl k5), (6, .inl k6)] [] q.2 (0, 0)) (hN : ∀ q, out = .inr (.inr q) → J l g md_X5_lots (jRm (d + 6) md_X5_lots) Q 75 [(0, .inr (.inr (.inl k0))), (1, .inl k1), (3, .inr (.inl q.1.1)), (5, .inl k5), (6, .inl k6), (7, .inl q.1.2)] [] q.2 (0, 0)) : J l g md_X5_lots (jRm (d + 6) md_X5_lots) Q 75 [(0, .inr (.inr (.inl k0))), (1, .inl k1), (3, .inr (.inl s75.1)), (5, .inl k5), (6, .inl k6), (7, .inl s75.2)] [] ah (0, 0) := by
  unfold f_X5_lots_b75 at h
  refine J_seg ok_X5_lots 43 2 (pc' := 78) (ls' := [(0, .inr (.inr (.inl k0))), (1, .inl k1), (3, .inr (.inl s75.1)), (5, .inl k5), (6, .inl k6), (7, .inl s75.2)]) (st' := [.inr (.inr (.inl k0)), .inl s75.2]) rfl ?_
  obtain ⟨v9, h10, h⟩ := Option.bind_eq_some_iff.mp h
  refine J_getR (jat ok_X5_lots 45 (pc := 78) (i := .getfield 53) (n := 3) rfl rfl) fl_RX5_53 h10 ?_
  obtain ⟨v11, h12, h⟩ := Option.bind_eq_some_iff.mp h
  refine J_getI (jat ok_X5_lots 46 (pc := 81) (i := .getfield 127) (n := 3) rfl rfl) fl_RX5_127 h12 ?_
  refine J_ge (jat ok_X5_lots 47 (pc := 84) (i := .if_icmp .ge 40) (n := 3) rfl rfl) (tgt := 124) (by decide) (fun c => ?_) (fun c => ?_)
  · have h := (if_pos c).symm.trans h
    exact J_sub (ls' := [(0, .inr (.inr (.inl k0))), (1, .inl k1), (3, .inr (.inl s75.1)), (5, .inl k5), (6, .inl k6)]) [0, 1, 2, 3, 4] rfl (hX (s75.1, ah) (Option.some.inj h).symm)
  · have h := (if_neg c).symm.trans h
    refine J_seg ok_X5_lots 48 2 (pc' := 91) (ls' := [(0, .inr (.inr (.inl k0))), (1, .inl k1), (3, .inr (.inl s75.1)), (5, .inl k5), (6, .inl k6), (7, .inl s75.2)]) (st' := [.inl 6, .inl s75.2]) rfl ?_
    refine J_ge (jat ok_X5_lots 50 (pc := 91) (i := .if_icmp .ge 33) (n := 3) rfl rfl) (tgt := 124) (by decide) (fun c => ?_) (fun c => ?_)
    · have h := (if_pos c).symm.trans h
      exact J_sub (ls' := [(0, .inr (.inr (.inl k0))), (1, .inl k1), (3, .inr (.inl s75.1)), (5, .inl k5), (6, .inl k6)]) [0, 1, 2, 3, 4] rfl (hX (s75.1, ah) (Option.some.inj h).symm)
    · have h := (if_neg c).symm.trans h
      refine J_seg ok_X5_lots 51 1 (pc' := 95) (ls' := [(0, .inr (.inr (.inl k0))), (1, .inl k1), (3, .inr (.inl s75.1)), (5, .inl k5), (6, .inl k6), (7, .inl s75.2)]) (st' := [.inr (.inl s75.1)]) rfl ?_
      refine J_ldc2 (jat ok_X5_lots 52 (pc := 95) (i := .ldc2_w 273) (n := 3) rfl rfl) lc_RX5_273 ?_
      refine J_seg ok_X5_lots 53 1 (pc' := 99) (ls' := [(0, .inr (.inr (.inl k0))), (1, .inl k1), (3, .inr (.inl s75.1)), (5, .inl k5), (6, .inl k6), (7, .inl s75.2)]) (st' := [.inr (.inl (s75.1 * 48271))]) rfl ?_
      refine J_ldc2 (jat ok_X5_lots 54 (pc := 99) (i := .ldc2_w 271) (n := 3) rfl rfl) lc_RX5_271 ?_
      refine J_lrem (jat ok_X5_lots 55 (pc := 102) (i := .lrem) (n := 1) rfl rfl) (by decide) ?_
      refine J_seg ok_X5_lots 56 2 (pc' := 105) (ls' := [(3, .inr (.inl ((s75.1 * 48271) - (s75.1 * 48271) / 2147483647 * 2147483647))), (0, .inr (.inr (.inl k0))), (1, .inl k1), (5, .inl k5), (6, .inl k6), (7, .inl s75.2)]) (st' := [.inr (.inr (.inl k0))]) rfl ?_
      obtain ⟨v13, h14, h⟩ := Option.bind_eq_some_iff.mp h
      refine J_getR (jat ok_X5_lots 58 (pc := 105) (i := .getfield 43) (n := 3) rfl rfl) fl_RX5_43 h14 ?_
      refine J_seg ok_X5_lots 59 4 (pc' := 114) (ls' := [(3, .inr (.inl ((s75.1 * 48271) - (s75.1 * 48271) / 2147483647 * 2147483647))), (0, .inr (.inr (.inl k0))), (1, .inl k1), (5, .inl k5), (6, .inl k6), (7, .inl s75.2)]) (st' := [.inr (.inl ((s75.1 * 48271) - (s75.1 * 48271) / 2147483647 * 2147483647)), .inl s75.2, .inr (.inr (.inl k0)), .inl s75.2, .inr (.inr (.inl v13))]) rfl ?_
      by_cases c17 : qO ah k0 5 = true
      case neg => exact absurd ((if_neg c17).symm.trans h) (by simp)
      have h := (if_pos c17).symm.trans h
      obtain ⟨q15, h16, h⟩ := Option.bind_eq_some_iff.mp h
      refine J_callV (md' := md_X5_actByLot) (As := [.inl s75.2, .inr (.inl ((s75.1 * 48271) - (s75.1 * 48271) / 2147483647 * 2147483647))]) (st := [.inl s75.2, .inr (.inr (.inl v13))]) (cs' := (0, 0)) (st' := [.inl q15.1, .inl s75.2, .inr (.inr (.inl v13))]) (jat ok_X5_lots 63 (pc := 114) (i := .invokevirtual 275) (n := 3) rfl rfl) ml_RX5_275 yv_X5_actByLot c17 (c_X5_actByLot l g (d + 3) h16) (jRo_of (by decide)) (Nat.le_of_ble_eq_true rfl) ⟨Nat.le_of_ble_eq_true rfl, Nat.le_of_ble_eq_true rfl⟩ rfl rfl rfl ?_
      obtain ⟨a18, h19, h⟩ := Option.bind_eq_some_iff.mp h
      refine J_iast (jat ok_X5_lots 64 (pc := 117) (i := .iastore) (n := 1) rfl rfl) h19 ?_
      refine J_seg ok_X5_lots 65 2 (pc' := 75) (ls' := [(7, .inl (s75.2 + 1)), (3, .inr (.inl ((s75.1 * 48271) - (s75.1 * 48271) / 2147483647 * 2147483647))), (0, .inr (.inr (.inl k0))), (1, .inl k1), (5, .inl k5), (6, .inl k6)]) (st' := []) rfl ?_
      exact J_sub (ls' := [(0, .inr (.inr (.inl k0))), (1, .inl k1), (3, .inr (.inl ((s75.1 * 48271) - (s75.1 * 48271) / 2147483647 * 2147483647))), (5, .inl k5), (6, .inl k6), (7, .inl (s75.2 + 1))]) [2, 3, 1, 4, 5, 0] rfl (hN (((s75.1 * 48271) - (s75.1 * 48271) / 2147483647 * 2147483647, s75.2 + 1), a18) (Option.some.inj h).symm)
def f_X5_lots_b66_j124 (k0 : Option Nat) (k1 : Int32) (x3 : Int64) (x5 : Int32) (x6 : Int32) (ah : AH) : Option ((Unit × AH) ⊕ (((Int32) × AH) ⊕ ((Int64 × Int32 × Int32) × AH))) :=
  if qO ah k0 5 = true then ((f_X5_passWeek k0 ah).bind fun q24 => some (.inr (.inr ((x3, x5 + q24.1, x6 + 1), q24.2)))) else none
set_option maxRecDepth 100000 in
set_option maxHeartbeats 4000000 in
theorem k_X5_lots_b66_j124 {l : Launch} {g : GX} (d : Nat) {Q : jQ} {k0 : Option Nat} {k1 : Int32} {x3 : Int64} {x5 : Int32} {x6 : Int32} (ah : AH) (out : (Unit × AH) ⊕ (((Int32) × AH) ⊕ ((Int64 × Int32 × Int32) × AH))) (h : f_X5_lots_b66_j124 k0 k1 x3 x5 x6 ah = some out) (hR : ∀ q, out = .inl q → jRetN q.1 q.2) (hX : ∀ q, out = .inr (.inl q) → J l g md_X5_lots (jRm (d + 6) md_X5_lots) Q 139 [(5, .inl q.1)] [] q.2 (0, 0)) (hN : ∀ q, out = .inr (.inr q) → J l g md_X5_lots (jRm (d + 6) md_X5_lots) Q 66 [(0, .inr (.inr (.inl k0))), (1, .inl k1), (3, .inr (.inl q.1.1)), (5, .inl q.1.2.1), (6, .inl q.1.2.2)] [] q.2 (0, 0)) : J l g md_X5_lots (jRm (d + 6) md_X5_lots) Q 124 [(0, .inr (.inr (.inl k0))), (1, .inl k1), (3, .inr (.inl x3)), (5, .inl x5), (6, .inl x6)] [] ah (0, 0) := by
  unfold f_X5_lots_b66_j124 at h
  refine J_seg ok_X5_lots 67 2 (pc' := 127) (ls' := [(0, .inr (.inr (.inl k0))), (1, .inl k1), (3, .inr (.inl x3)), (5, .inl x5), (6, .inl x6)]) (st' := [.inr (.inr (.inl k0)), .inl x5]) rfl ?_
  by_cases c26 : qO ah k0 5 = true
  case neg => exact absurd ((if_neg c26).symm.trans h) (by simp)
  have h := (if_pos c26).symm.trans h
  obtain ⟨q24, h25, h⟩ := Option.bind_eq_some_iff.mp h
  refine J_callV (md' := md_X5_passWeek) (As := []) (st := [.inl x5]) (cs' := (0, 0)) (st' := [.inl q24.1, .inl x5]) (jat ok_X5_lots 69 (pc := 127) (i := .invokevirtual 175) (n := 3) rfl rfl) ml_RX5_175 yv_X5_passWeek c26 (c_X5_passWeek l g (d + 0) h25) (jRo_of (by decide)) (Nat.le_of_ble_eq_true rfl) ⟨Nat.le_of_ble_eq_true rfl, Nat.le_of_ble_eq_true rfl⟩ rfl rfl rfl ?_
  refine J_seg ok_X5_lots 70 4 (pc' := 66) (ls' := [(6, .inl (x6 + 1)), (5, .inl (x5 + q24.1)), (0, .inr (.inr (.inl k0))), (1, .inl k1), (3, .inr (.inl x3))]) (st' := []) rfl ?_
  exact J_sub (ls' := [(0, .inr (.inr (.inl k0))), (1, .inl k1), (3, .inr (.inl x3)), (5, .inl (x5 + q24.1)), (6, .inl (x6 + 1))]) [2, 3, 4, 1, 0] rfl (hN ((x3, x5 + q24.1, x6 + 1), q24.2) (Option.some.inj h).symm)
def f_X5_lots_b66 (k0 : Option Nat) (k1 : Int32) (s66 : Int64 × Int32 × Int32) (ah : AH) : Option ((Unit × AH) ⊕ (((Int32) × AH) ⊕ ((Int64 × Int32 × Int32) × AH))) :=
  if k1 ≤ s66.2.2 then (some (.inr (.inl (s66.2.1, ah)))) else ((jloop (f_X5_lots_b75 k0 k1 s66.2.1 s66.2.2) jfuel (s66.1, 0) ah).bind fun q20 => match q20 with | .inl r => none | .inr z22 => f_X5_lots_b66_j124 k0 k1 z22.1 s66.2.1 s66.2.2 z22.2)
set_option maxRecDepth 100000 in
set_option maxHeartbeats 4000000 in
theorem k_X5_lots_b66 {l : Launch} {g : GX} (d : Nat) {Q : jQ} {k0 : Option Nat} {k1 : Int32} (s66 : Int64 × Int32 × Int32) (ah : AH) (out : (Unit × AH) ⊕ (((Int32) × AH) ⊕ ((Int64 × Int32 × Int32) × AH))) (h : f_X5_lots_b66 k0 k1 s66 ah = some out) (hR : ∀ q, out = .inl q → jRetN q.1 q.2) (hX : ∀ q, out = .inr (.inl q) → J l g md_X5_lots (jRm (d + 6) md_X5_lots) Q 139 [(5, .inl q.1)] [] q.2 (0, 0)) (hN : ∀ q, out = .inr (.inr q) → J l g md_X5_lots (jRm (d + 6) md_X5_lots) Q 66 [(0, .inr (.inr (.inl k0))), (1, .inl k1), (3, .inr (.inl q.1.1)), (5, .inl q.1.2.1), (6, .inl q.1.2.2)] [] q.2 (0, 0)) : J l g md_X5_lots (jRm (d + 6) md_X5_lots) Q 66 [(0, .inr (.inr (.inl k0))), (1, .inl k1), (3, .inr (.inl s66.1)), (5, .inl s66.2.1), (6, .inl s66.2.2)] [] ah (0, 0) := by
  unfold f_X5_lots_b66 at h
  refine J_seg ok_X5_lots 38 2 (pc' := 69) (ls' := [(0, .inr (.inr (.inl k0))), (1, .inl k1), (3, .inr (.inl s66.1)), (5, .inl s66.2.1), (6, .inl s66.2.2)]) (st' := [.inl k1, .inl s66.2.2]) rfl ?_
  refine J_ge (jat ok_X5_lots 40 (pc := 69) (i := .if_icmp .ge 70) (n := 3) rfl rfl) (tgt := 139) (by decide) (fun c => ?_) (fun c => ?_)
  · have h := (if_pos c).symm.trans h
    exact J_sub (ls' := [(5, .inl s66.2.1)]) [3] rfl (hX (s66.2.1, ah) (Option.some.inj h).symm)
  · have h := (if_neg c).symm.trans h
    refine J_seg ok_X5_lots 41 2 (pc' := 75) (ls' := [(7, .inl 0), (0, .inr (.inr (.inl k0))), (1, .inl k1), (3, .inr (.inl s66.1)), (5, .inl s66.2.1), (6, .inl s66.2.2)]) (st' := []) rfl ?_
    obtain ⟨q20, h21, h⟩ := Option.bind_eq_some_iff.mp h
    refine J_sub (ls' := [(0, .inr (.inr (.inl k0))), (1, .inl k1), (3, .inr (.inl s66.1)), (5, .inl s66.2.1), (6, .inl s66.2.2), (7, .inl 0)]) [1, 2, 3, 4, 5, 0] rfl ?_
    refine J_loop (pE := 124) (lh := fun t23 => [(0, .inr (.inr (.inl k0))), (1, .inl k1), (3, .inr (.inl t23.1)), (5, .inl s66.2.1), (6, .inl s66.2.2), (7, .inl t23.2)]) (lx := fun z22 => [(0, .inr (.inr (.inl k0))), (1, .inl k1), (3, .inr (.inl z22)), (5, .inl s66.2.1), (6, .inl s66.2.2)]) (P := jRetN) (fun s ah out hb hR hX hN => k_X5_lots_b75 d s ah out hb hR hX hN) jfuel (s66.1, 0) _ _ h21 (fun r e => ?_) (fun z22 e => ?_)
    · subst e
      dsimp only at h
      cases h
    · subst e
      dsimp only at h
      refine J_sub (ls' := [(0, .inr (.inr (.inl k0))), (1, .inl k1), (3, .inr (.inl z22.1)), (5, .inl s66.2.1), (6, .inl s66.2.2)]) [0, 1, 2, 3, 4] rfl ?_
      exact k_X5_lots_b66_j124 d _ _ h hR hX hN
def f_X5_lots (x0 : Option Nat) (x1 : Int32) (x2 : Int32) (ah : AH) : Option (Int32 × AH) :=
  if x1 < 1 then (some ((-1), ah)) else (if 20 < x1 then (some ((-1), ah)) else (if x2 < 1 then (some ((-1), ah)) else (if (lg_cmp (Int32.toInt64 x2) 2147483647) < 0 then ((gR ah x0 5 8).bind fun v1 => (gI ah v1 1 5).bind fun v3 => if v3 = 0 then (some ((-4), ah)) else ((gR ah x0 5 3).bind fun v5 => (gI ah v5 4 3).bind fun v7 => if (v7 + x1) ≤ 40 then ((jloop (f_X5_lots_b66 x0 x1) jfuel (Int32.toInt64 x2, 0, 0) ah).bind fun q27 => match q27 with | .inl r => none | .inr z29 => some (z29.1, z29.2)) else (some ((-2), ah)))) else (some ((-1), ah)))))
set_option maxRecDepth 100000 in
set_option maxHeartbeats 4000000 in
theorem k_X5_lots {l : Launch} {g : GX} (d : Nat) {Q : jQ} {x0 : Option Nat} {x1 : Int32} {x2 : Int32} (ah : AH) (out : Int32 × AH) (h : f_X5_lots x0 x1 x2 ah = some out) (hR : jRetI l g md_X5_lots (jRm (d + 6) md_X5_lots) Q (0, 0) out.1 out.2) : J l g md_X5_lots (jRm (d + 6) md_X5_lots) Q 0 [(0, .inr (.inr (.inl x0))), (1, .inl x1), (2, .inl x2)] [] ah (0, 0) := by
  unfold f_X5_lots at h
  refine J_seg ok_X5_lots 0 2 (pc' := 2) (ls' := [(0, .inr (.inr (.inl x0))), (1, .inl x1), (2, .inl x2)]) (st' := [.inl 1, .inl x1]) rfl ?_
  refine J_lt (jat ok_X5_lots 2 (pc := 2) (i := .if_icmp .lt 23) (n := 3) rfl rfl) (tgt := 25) (by decide) (fun c => ?_) (fun c => ?_)
  · have h := (if_pos c).symm.trans h
    refine J_seg ok_X5_lots 14 1 (pc' := 26) (ls' := [(0, .inr (.inr (.inl x0))), (1, .inl x1), (2, .inl x2)]) (st' := [.inl (-1)]) rfl ?_
    have h := Option.some.inj h
    subst h
    exact hR _ _ (jat ok_X5_lots 15 (pc := 26) (i := .ireturn) (n := 1) rfl rfl)
  · have h := (if_neg c).symm.trans h
    refine J_seg ok_X5_lots 3 2 (pc' := 8) (ls' := [(0, .inr (.inr (.inl x0))), (1, .inl x1), (2, .inl x2)]) (st' := [.inl 20, .inl x1]) rfl ?_
    refine J_gt (jat ok_X5_lots 5 (pc := 8) (i := .if_icmp .gt 17) (n := 3) rfl rfl) (tgt := 25) (by decide) (fun c => ?_) (fun c => ?_)
    · have h := (if_pos c).symm.trans h
      refine J_seg ok_X5_lots 14 1 (pc' := 26) (ls' := [(0, .inr (.inr (.inl x0))), (1, .inl x1), (2, .inl x2)]) (st' := [.inl (-1)]) rfl ?_
      have h := Option.some.inj h
      subst h
      exact hR _ _ (jat ok_X5_lots 15 (pc := 26) (i := .ireturn) (n := 1) rfl rfl)
    · have h := (if_neg c).symm.trans h
      refine J_seg ok_X5_lots 6 2 (pc' := 13) (ls' := [(0, .inr (.inr (.inl x0))), (1, .inl x1), (2, .inl x2)]) (st' := [.inl 1, .inl x2]) rfl ?_
      refine J_lt (jat ok_X5_lots 8 (pc := 13) (i := .if_icmp .lt 12) (n := 3) rfl rfl) (tgt := 25) (by decide) (fun c => ?_) (fun c => ?_)
      · have h := (if_pos c).symm.trans h
        refine J_seg ok_X5_lots 14 1 (pc' := 26) (ls' := [(0, .inr (.inr (.inl x0))), (1, .inl x1), (2, .inl x2)]) (st' := [.inl (-1)]) rfl ?_
        have h := Option.some.inj h
        subst h
        exact hR _ _ (jat ok_X5_lots 15 (pc := 26) (i := .ireturn) (n := 1) rfl rfl)
      · have h := (if_neg c).symm.trans h
        refine J_seg ok_X5_lots 9 2 (pc' := 18) (ls' := [(0, .inr (.inr (.inl x0))), (1, .inl x1), (2, .inl x2)]) (st' := [.inr (.inl (Int32.toInt64 x2))]) rfl ?_
        refine J_ldc2 (jat ok_X5_lots 11 (pc := 18) (i := .ldc2_w 271) (n := 3) rfl rfl) lc_RX5_271 ?_
        refine J_seg ok_X5_lots 12 1 (pc' := 22) (ls' := [(0, .inr (.inr (.inl x0))), (1, .inl x1), (2, .inl x2)]) (st' := [.inl (lg_cmp (Int32.toInt64 x2) 2147483647)]) rfl ?_
        refine J_lt0 (jat ok_X5_lots 13 (pc := 22) (i := .ifCond .lt 5) (n := 3) rfl rfl) (tgt := 27) (by decide) (fun c => ?_) (fun c => ?_)
        · have h := (if_pos c).symm.trans h
          refine J_seg ok_X5_lots 16 1 (pc' := 28) (ls' := [(0, .inr (.inr (.inl x0))), (1, .inl x1), (2, .inl x2)]) (st' := [.inr (.inr (.inl x0))]) rfl ?_
          obtain ⟨v1, h2, h⟩ := Option.bind_eq_some_iff.mp h
          refine J_getR (jat ok_X5_lots 17 (pc := 28) (i := .getfield 53) (n := 3) rfl rfl) fl_RX5_53 h2 ?_
          obtain ⟨v3, h4, h⟩ := Option.bind_eq_some_iff.mp h
          refine J_getI (jat ok_X5_lots 18 (pc := 31) (i := .getfield 127) (n := 3) rfl rfl) fl_RX5_127 h4 ?_
          refine J_ne0 (jat ok_X5_lots 19 (pc := 34) (i := .ifCond .ne 6) (n := 3) rfl rfl) (tgt := 40) (by decide) (fun c => ?_) (fun c => ?_)
          · have h := (if_neg c).symm.trans h
            refine J_seg ok_X5_lots 22 1 (pc' := 41) (ls' := [(0, .inr (.inr (.inl x0))), (1, .inl x1), (2, .inl x2)]) (st' := [.inr (.inr (.inl x0))]) rfl ?_
            obtain ⟨v5, h6, h⟩ := Option.bind_eq_some_iff.mp h
            refine J_getR (jat ok_X5_lots 23 (pc := 41) (i := .getfield 28) (n := 3) rfl rfl) fl_RX5_28 h6 ?_
            obtain ⟨v7, h8, h⟩ := Option.bind_eq_some_iff.mp h
            refine J_getI (jat ok_X5_lots 24 (pc := 44) (i := .getfield 172) (n := 3) rfl rfl) fl_RX5_172 h8 ?_
            refine J_seg ok_X5_lots 25 3 (pc' := 51) (ls' := [(0, .inr (.inr (.inl x0))), (1, .inl x1), (2, .inl x2)]) (st' := [.inl 40, .inl (v7 + x1)]) rfl ?_
            refine J_le (jat ok_X5_lots 28 (pc := 51) (i := .if_icmp .le 6) (n := 3) rfl rfl) (tgt := 57) (by decide) (fun c => ?_) (fun c => ?_)
            · have h := (if_pos c).symm.trans h
              refine J_seg ok_X5_lots 31 7 (pc' := 66) (ls' := [(6, .inl 0), (5, .inl 0), (3, .inr (.inl (Int32.toInt64 x2))), (0, .inr (.inr (.inl x0))), (1, .inl x1), (2, .inl x2)]) (st' := []) rfl ?_
              obtain ⟨q27, h28, h⟩ := Option.bind_eq_some_iff.mp h
              refine J_sub (ls' := [(0, .inr (.inr (.inl x0))), (1, .inl x1), (3, .inr (.inl (Int32.toInt64 x2))), (5, .inl 0), (6, .inl 0)]) [3, 4, 2, 1, 0] rfl ?_
              refine J_loop (pE := 139) (lh := fun t30 => [(0, .inr (.inr (.inl x0))), (1, .inl x1), (3, .inr (.inl t30.1)), (5, .inl t30.2.1), (6, .inl t30.2.2)]) (lx := fun z29 => [(5, .inl z29)]) (P := jRetN) (fun s ah out hb hR hX hN => k_X5_lots_b66 d s ah out hb hR hX hN) jfuel (Int32.toInt64 x2, 0, 0) _ _ h28 (fun r e => ?_) (fun z29 e => ?_)
              · subst e
                dsimp only at h
                cases h
              · subst e
                dsimp only at h
                refine J_seg ok_X5_lots 74 1 (pc' := 141) (ls' := [(5, .inl z29.1)]) (st' := [.inl z29.1]) rfl ?_
                have h := Option.some.inj h
                subst h
                exact hR _ _ (jat ok_X5_lots 75 (pc := 141) (i := .ireturn) (n := 1) rfl rfl)
            · have h := (if_neg c).symm.trans h
              refine J_seg ok_X5_lots 29 1 (pc' := 56) (ls' := [(0, .inr (.inr (.inl x0))), (1, .inl x1), (2, .inl x2)]) (st' := [.inl (-2)]) rfl ?_
              have h := Option.some.inj h
              subst h
              exact hR _ _ (jat ok_X5_lots 30 (pc := 56) (i := .ireturn) (n := 1) rfl rfl)
          · have h := (if_pos c).symm.trans h
            refine J_seg ok_X5_lots 20 1 (pc' := 39) (ls' := [(0, .inr (.inr (.inl x0))), (1, .inl x1), (2, .inl x2)]) (st' := [.inl (-4)]) rfl ?_
            have h := Option.some.inj h
            subst h
            exact hR _ _ (jat ok_X5_lots 21 (pc := 39) (i := .ireturn) (n := 1) rfl rfl)
        · have h := (if_neg c).symm.trans h
          refine J_seg ok_X5_lots 14 1 (pc' := 26) (ls' := [(0, .inr (.inr (.inl x0))), (1, .inl x1), (2, .inl x2)]) (st' := [.inl (-1)]) rfl ?_
          have h := Option.some.inj h
          subst h
          exact hR _ _ (jat ok_X5_lots 15 (pc := 26) (i := .ireturn) (n := 1) rfl rfl)
theorem c_X5_lots (l : Launch) (g : GX) (d : Nat) {x0 : Option Nat} {x1 : Int32} {x2 : Int32} {ah : AH} {q : Int32 × AH} (h : f_X5_lots x0 x1 x2 ah = some q) : jM l g (d + 6) md_X5_lots [.inr (.inr (.inl x0)), .inl x1, .inl x2] ah (some (.inl q.1)) q.2 :=
  jM_of (by decide) (Nat.le_of_ble_eq_true rfl) (k_X5_lots d ah q h (fun pc ls hd => J_reti hd rfl (jPV_int _) rfl (Nat.le_refl _) rfl rfl))
