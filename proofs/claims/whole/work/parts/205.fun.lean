def f_X5_hasReached (x0 : Option Nat) (x1 : Int32) (ah : AH) : Option (Int32 × AH) :=
  (gR ah x0 5 3).bind fun v1 => if qO ah v1 4 = true then ((f_X4_deedsOf v1 x1 ah).bind fun q3 => (gR q3.2 x0 5 8).bind fun v6 => if qO q3.2 v6 1 = true then ((f_X1_aimOf v6 x1 q3.2).bind fun q8 => if q3.1 < q8.1 then (some (0, q8.2)) else (some (1, q8.2))) else none) else none
set_option maxRecDepth 100000 in
set_option maxHeartbeats 4000000 in
theorem k_X5_hasReached {l : Launch} {g : GX} (d : Nat) {Q : jQ} {x0 : Option Nat} {x1 : Int32} (ah : AH) (out : Int32 × AH) (h : f_X5_hasReached x0 x1 ah = some out) (hR : jRetZ l g md_X5_hasReached (jRm (d + 2) md_X5_hasReached) Q (0, 0) out.1 out.2) : J l g md_X5_hasReached (jRm (d + 2) md_X5_hasReached) Q 0 [(0, .inr (.inr (.inl x0))), (1, .inl x1)] [] ah (0, 0) := by
  unfold f_X5_hasReached at h
  refine J_seg ok_X5_hasReached 0 1 (pc' := 1) (ls' := [(0, .inr (.inr (.inl x0))), (1, .inl x1)]) (st' := [.inr (.inr (.inl x0))]) rfl ?_
  obtain ⟨v1, h2, h⟩ := Option.bind_eq_some_iff.mp h
  refine J_getR (jat ok_X5_hasReached 1 (pc := 1) (i := .getfield 28) (n := 3) rfl rfl) fl_RX5_28 h2 ?_
  refine J_seg ok_X5_hasReached 2 1 (pc' := 5) (ls' := [(0, .inr (.inr (.inl x0))), (1, .inl x1)]) (st' := [.inl x1, .inr (.inr (.inl v1))]) rfl ?_
  by_cases c5 : qO ah v1 4 = true
  case neg => exact absurd ((if_neg c5).symm.trans h) (by simp)
  have h := (if_pos c5).symm.trans h
  obtain ⟨q3, h4, h⟩ := Option.bind_eq_some_iff.mp h
  refine J_callV (md' := md_X4_deedsOf) (As := [.inl x1]) (st := []) (cs' := (0, 0)) (st' := [.inl q3.1]) (jat ok_X5_hasReached 3 (pc := 5) (i := .invokevirtual 330) (n := 3) rfl rfl) ml_RX5_330 yv_X4_deedsOf c5 (c_X4_deedsOf l g (d + 0) h4) (jRo_of (by decide)) (Nat.le_of_ble_eq_true rfl) ⟨Nat.le_of_ble_eq_true rfl, Nat.le_of_ble_eq_true rfl⟩ rfl rfl rfl ?_
  refine J_seg ok_X5_hasReached 4 1 (pc' := 9) (ls' := [(0, .inr (.inr (.inl x0))), (1, .inl x1)]) (st' := [.inr (.inr (.inl x0)), .inl q3.1]) rfl ?_
  obtain ⟨v6, h7, h⟩ := Option.bind_eq_some_iff.mp h
  refine J_getR (jat ok_X5_hasReached 5 (pc := 9) (i := .getfield 53) (n := 3) rfl rfl) fl_RX5_53 h7 ?_
  refine J_seg ok_X5_hasReached 6 1 (pc' := 13) (ls' := [(0, .inr (.inr (.inl x0))), (1, .inl x1)]) (st' := [.inl x1, .inr (.inr (.inl v6)), .inl q3.1]) rfl ?_
  by_cases c10 : qO q3.2 v6 1 = true
  case neg => exact absurd ((if_neg c10).symm.trans h) (by simp)
  have h := (if_pos c10).symm.trans h
  obtain ⟨q8, h9, h⟩ := Option.bind_eq_some_iff.mp h
  refine J_callV (md' := md_X1_aimOf) (As := [.inl x1]) (st := [.inl q3.1]) (cs' := (0, 0)) (st' := [.inl q8.1, .inl q3.1]) (jat ok_X5_hasReached 7 (pc := 13) (i := .invokevirtual 324) (n := 3) rfl rfl) ml_RX5_324 yv_X1_aimOf c10 (c_X1_aimOf l g (d + 0) h9) (jRo_of (by decide)) (Nat.le_of_ble_eq_true rfl) ⟨Nat.le_of_ble_eq_true rfl, Nat.le_of_ble_eq_true rfl⟩ rfl rfl rfl ?_
  refine J_lt (jat ok_X5_hasReached 8 (pc := 16) (i := .if_icmp .lt 7) (n := 3) rfl rfl) (tgt := 23) (by decide) (fun c => ?_) (fun c => ?_)
  · have h := (if_pos c).symm.trans h
    refine J_seg ok_X5_hasReached 11 1 (pc' := 24) (ls' := [(0, .inr (.inr (.inl x0))), (1, .inl x1)]) (st' := [.inl 0]) rfl ?_
    have h := Option.some.inj h
    subst h
    exact hR _ _ (jat ok_X5_hasReached 12 (pc := 24) (i := .ireturn) (n := 1) rfl rfl) (Or.inl rfl)
  · have h := (if_neg c).symm.trans h
    refine J_seg ok_X5_hasReached 9 2 (pc' := 24) (ls' := [(0, .inr (.inr (.inl x0))), (1, .inl x1)]) (st' := [.inl 1]) rfl ?_
    have h := Option.some.inj h
    subst h
    exact hR _ _ (jat ok_X5_hasReached 12 (pc := 24) (i := .ireturn) (n := 1) rfl rfl) (Or.inr rfl)
theorem c_X5_hasReached (l : Launch) (g : GX) (d : Nat) {x0 : Option Nat} {x1 : Int32} {ah : AH} {q : Int32 × AH} (h : f_X5_hasReached x0 x1 ah = some q) : jM l g (d + 2) md_X5_hasReached [.inr (.inr (.inl x0)), .inl x1] ah (some (.inl q.1)) q.2 :=
  jM_of (by decide) (Nat.le_of_ble_eq_true rfl) (k_X5_hasReached d ah q h (fun pc ls hd c => J_reti hd rfl (jPV_z c) rfl (Nat.le_refl _) rfl rfl))
def f_X5_trait (x0 : Option Nat) (x1 : Int32) (x2 : Int32) (ah : AH) : Option (Int32 × AH) :=
  if x2 = 0 then ((gR ah x0 5 8).bind fun v1 => if qO ah v1 1 = true then ((f_X1_kindOf v1 x1 ah).bind fun q3 => some (q3.1, q3.2)) else none) else (if x2 = 1 then ((gR ah x0 5 8).bind fun v6 => if qO ah v6 1 = true then ((f_X1_aimOf v6 x1 ah).bind fun q8 => some (q8.1, q8.2)) else none) else (if x2 = 2 then ((gR ah x0 5 8).bind fun v11 => if qO ah v11 1 = true then ((f_X1_zealOf v11 x1 ah).bind fun q13 => some (q13.1, q13.2)) else none) else (if x2 = 3 then ((gR ah x0 5 3).bind fun v16 => if qO ah v16 4 = true then ((f_X4_victimOf v16 x1 ah).bind fun q18 => some (q18.1, q18.2)) else none) else (if x2 = 4 then ((gR ah x0 5 3).bind fun v21 => if qO ah v21 4 = true then ((f_X4_foeOf v21 x1 ah).bind fun q23 => some (q23.1, q23.2)) else none) else (if x2 = 5 then ((gR ah x0 5 3).bind fun v26 => if qO ah v26 4 = true then ((f_X4_deedsOf v26 x1 ah).bind fun q28 => some (q28.1, q28.2)) else none) else (if x2 = 6 then ((gR ah x0 5 3).bind fun v31 => if qO ah v31 4 = true then ((f_X4_finesOf v31 x1 ah).bind fun q33 => some (q33.1, q33.2)) else none) else (if x2 = 7 then (if qO ah x0 5 = true then ((f_X5_hasReached x0 x1 ah).bind fun q36 => if q36.1 = 0 then (some (0, q36.2)) else (some (1, q36.2))) else none) else ((gR ah x0 5 8).bind fun v39 => if qO ah v39 1 = true then ((f_X1_lovedBy v39 x1 ah).bind fun q41 => some (q41.1, q41.2)) else none))))))))
set_option maxRecDepth 100000 in
set_option maxHeartbeats 4000000 in
theorem k_X5_trait {l : Launch} {g : GX} (d : Nat) {Q : jQ} {x0 : Option Nat} {x1 : Int32} {x2 : Int32} (ah : AH) (out : Int32 × AH) (h : f_X5_trait x0 x1 x2 ah = some out) (hR : jRetI l g md_X5_trait (jRm (d + 3) md_X5_trait) Q (0, 0) out.1 out.2) : J l g md_X5_trait (jRm (d + 3) md_X5_trait) Q 0 [(0, .inr (.inr (.inl x0))), (1, .inl x1), (2, .inl x2)] [] ah (0, 0) := by
  unfold f_X5_trait at h
  refine J_seg ok_X5_trait 0 1 (pc' := 1) (ls' := [(0, .inr (.inr (.inl x0))), (1, .inl x1), (2, .inl x2)]) (st' := [.inl x2]) rfl ?_
  by_cases c0 : x2 = 0
  · have h := (if_pos c0).symm.trans h
    refine J_tabIn sw_X5_trait_1 (off := 47) (tgt := 48) (by rw [c0]; decide) (by rw [c0]; decide) (by rw [c0]; decide) (by decide) ?_
    refine J_seg ok_X5_trait 1 1 (pc' := 49) (ls' := [(0, .inr (.inr (.inl x0))), (1, .inl x1), (2, .inl x2)]) (st' := [.inr (.inr (.inl x0))]) rfl ?_
    obtain ⟨v1, h2, h⟩ := Option.bind_eq_some_iff.mp h
    refine J_getR (jat ok_X5_trait 2 (pc := 49) (i := .getfield 53) (n := 3) rfl rfl) fl_RX5_53 h2 ?_
    refine J_seg ok_X5_trait 3 1 (pc' := 53) (ls' := [(0, .inr (.inr (.inl x0))), (1, .inl x1), (2, .inl x2)]) (st' := [.inl x1, .inr (.inr (.inl v1))]) rfl ?_
    by_cases c5 : qO ah v1 1 = true
    case neg => exact absurd ((if_neg c5).symm.trans h) (by simp)
    have h := (if_pos c5).symm.trans h
    obtain ⟨q3, h4, h⟩ := Option.bind_eq_some_iff.mp h
    refine J_callV (md' := md_X1_kindOf) (As := [.inl x1]) (st := []) (cs' := (0, 0)) (st' := [.inl q3.1]) (jat ok_X5_trait 4 (pc := 53) (i := .invokevirtual 321) (n := 3) rfl rfl) ml_RX5_321 yv_X1_kindOf c5 (c_X1_kindOf l g (d + 1) h4) (jRo_of (by decide)) (Nat.le_of_ble_eq_true rfl) ⟨Nat.le_of_ble_eq_true rfl, Nat.le_of_ble_eq_true rfl⟩ rfl rfl rfl ?_
    have h := Option.some.inj h
    subst h
    exact hR _ _ (jat ok_X5_trait 5 (pc := 56) (i := .ireturn) (n := 1) rfl rfl)
  · have h := (if_neg c0).symm.trans h
    by_cases c1 : x2 = 1
    · have h := (if_pos c1).symm.trans h
      refine J_tabIn sw_X5_trait_1 (off := 56) (tgt := 57) (by rw [c1]; decide) (by rw [c1]; decide) (by rw [c1]; decide) (by decide) ?_
      refine J_seg ok_X5_trait 6 1 (pc' := 58) (ls' := [(0, .inr (.inr (.inl x0))), (1, .inl x1), (2, .inl x2)]) (st' := [.inr (.inr (.inl x0))]) rfl ?_
      obtain ⟨v6, h7, h⟩ := Option.bind_eq_some_iff.mp h
      refine J_getR (jat ok_X5_trait 7 (pc := 58) (i := .getfield 53) (n := 3) rfl rfl) fl_RX5_53 h7 ?_
      refine J_seg ok_X5_trait 8 1 (pc' := 62) (ls' := [(0, .inr (.inr (.inl x0))), (1, .inl x1), (2, .inl x2)]) (st' := [.inl x1, .inr (.inr (.inl v6))]) rfl ?_
      by_cases c10 : qO ah v6 1 = true
      case neg => exact absurd ((if_neg c10).symm.trans h) (by simp)
      have h := (if_pos c10).symm.trans h
      obtain ⟨q8, h9, h⟩ := Option.bind_eq_some_iff.mp h
      refine J_callV (md' := md_X1_aimOf) (As := [.inl x1]) (st := []) (cs' := (0, 0)) (st' := [.inl q8.1]) (jat ok_X5_trait 9 (pc := 62) (i := .invokevirtual 324) (n := 3) rfl rfl) ml_RX5_324 yv_X1_aimOf c10 (c_X1_aimOf l g (d + 1) h9) (jRo_of (by decide)) (Nat.le_of_ble_eq_true rfl) ⟨Nat.le_of_ble_eq_true rfl, Nat.le_of_ble_eq_true rfl⟩ rfl rfl rfl ?_
      have h := Option.some.inj h
      subst h
      exact hR _ _ (jat ok_X5_trait 10 (pc := 65) (i := .ireturn) (n := 1) rfl rfl)
    · have h := (if_neg c1).symm.trans h
      by_cases c2 : x2 = 2
      · have h := (if_pos c2).symm.trans h
        refine J_tabIn sw_X5_trait_1 (off := 65) (tgt := 66) (by rw [c2]; decide) (by rw [c2]; decide) (by rw [c2]; decide) (by decide) ?_
        refine J_seg ok_X5_trait 11 1 (pc' := 67) (ls' := [(0, .inr (.inr (.inl x0))), (1, .inl x1), (2, .inl x2)]) (st' := [.inr (.inr (.inl x0))]) rfl ?_
        obtain ⟨v11, h12, h⟩ := Option.bind_eq_some_iff.mp h
        refine J_getR (jat ok_X5_trait 12 (pc := 67) (i := .getfield 53) (n := 3) rfl rfl) fl_RX5_53 h12 ?_
        refine J_seg ok_X5_trait 13 1 (pc' := 71) (ls' := [(0, .inr (.inr (.inl x0))), (1, .inl x1), (2, .inl x2)]) (st' := [.inl x1, .inr (.inr (.inl v11))]) rfl ?_
        by_cases c15 : qO ah v11 1 = true
        case neg => exact absurd ((if_neg c15).symm.trans h) (by simp)
        have h := (if_pos c15).symm.trans h
        obtain ⟨q13, h14, h⟩ := Option.bind_eq_some_iff.mp h
        refine J_callV (md' := md_X1_zealOf) (As := [.inl x1]) (st := []) (cs' := (0, 0)) (st' := [.inl q13.1]) (jat ok_X5_trait 14 (pc := 71) (i := .invokevirtual 327) (n := 3) rfl rfl) ml_RX5_327 yv_X1_zealOf c15 (c_X1_zealOf l g (d + 1) h14) (jRo_of (by decide)) (Nat.le_of_ble_eq_true rfl) ⟨Nat.le_of_ble_eq_true rfl, Nat.le_of_ble_eq_true rfl⟩ rfl rfl rfl ?_
        have h := Option.some.inj h
        subst h
        exact hR _ _ (jat ok_X5_trait 15 (pc := 74) (i := .ireturn) (n := 1) rfl rfl)
      · have h := (if_neg c2).symm.trans h
        by_cases c3 : x2 = 3
        · have h := (if_pos c3).symm.trans h
          refine J_tabIn sw_X5_trait_1 (off := 74) (tgt := 75) (by rw [c3]; decide) (by rw [c3]; decide) (by rw [c3]; decide) (by decide) ?_
          refine J_seg ok_X5_trait 16 1 (pc' := 76) (ls' := [(0, .inr (.inr (.inl x0))), (1, .inl x1), (2, .inl x2)]) (st' := [.inr (.inr (.inl x0))]) rfl ?_
          obtain ⟨v16, h17, h⟩ := Option.bind_eq_some_iff.mp h
          refine J_getR (jat ok_X5_trait 17 (pc := 76) (i := .getfield 28) (n := 3) rfl rfl) fl_RX5_28 h17 ?_
          refine J_seg ok_X5_trait 18 1 (pc' := 80) (ls' := [(0, .inr (.inr (.inl x0))), (1, .inl x1), (2, .inl x2)]) (st' := [.inl x1, .inr (.inr (.inl v16))]) rfl ?_
          by_cases c20 : qO ah v16 4 = true
          case neg => exact absurd ((if_neg c20).symm.trans h) (by simp)
          have h := (if_pos c20).symm.trans h
          obtain ⟨q18, h19, h⟩ := Option.bind_eq_some_iff.mp h
          refine J_callV (md' := md_X4_victimOf) (As := [.inl x1]) (st := []) (cs' := (0, 0)) (st' := [.inl q18.1]) (jat ok_X5_trait 19 (pc := 80) (i := .invokevirtual 178) (n := 3) rfl rfl) ml_RX5_178 yv_X4_victimOf c20 (c_X4_victimOf l g (d + 1) h19) (jRo_of (by decide)) (Nat.le_of_ble_eq_true rfl) ⟨Nat.le_of_ble_eq_true rfl, Nat.le_of_ble_eq_true rfl⟩ rfl rfl rfl ?_
          have h := Option.some.inj h
          subst h
          exact hR _ _ (jat ok_X5_trait 20 (pc := 83) (i := .ireturn) (n := 1) rfl rfl)
        · have h := (if_neg c3).symm.trans h
          by_cases c4 : x2 = 4
          · have h := (if_pos c4).symm.trans h
            refine J_tabIn sw_X5_trait_1 (off := 83) (tgt := 84) (by rw [c4]; decide) (by rw [c4]; decide) (by rw [c4]; decide) (by decide) ?_
            refine J_seg ok_X5_trait 21 1 (pc' := 85) (ls' := [(0, .inr (.inr (.inl x0))), (1, .inl x1), (2, .inl x2)]) (st' := [.inr (.inr (.inl x0))]) rfl ?_
            obtain ⟨v21, h22, h⟩ := Option.bind_eq_some_iff.mp h
            refine J_getR (jat ok_X5_trait 22 (pc := 85) (i := .getfield 28) (n := 3) rfl rfl) fl_RX5_28 h22 ?_
            refine J_seg ok_X5_trait 23 1 (pc' := 89) (ls' := [(0, .inr (.inr (.inl x0))), (1, .inl x1), (2, .inl x2)]) (st' := [.inl x1, .inr (.inr (.inl v21))]) rfl ?_
            by_cases c25 : qO ah v21 4 = true
            case neg => exact absurd ((if_neg c25).symm.trans h) (by simp)
            have h := (if_pos c25).symm.trans h
            obtain ⟨q23, h24, h⟩ := Option.bind_eq_some_iff.mp h
            refine J_callV (md' := md_X4_foeOf) (As := [.inl x1]) (st := []) (cs' := (0, 0)) (st' := [.inl q23.1]) (jat ok_X5_trait 24 (pc := 89) (i := .invokevirtual 203) (n := 3) rfl rfl) ml_RX5_203 yv_X4_foeOf c25 (c_X4_foeOf l g (d + 0) h24) (jRo_of (by decide)) (Nat.le_of_ble_eq_true rfl) ⟨Nat.le_of_ble_eq_true rfl, Nat.le_of_ble_eq_true rfl⟩ rfl rfl rfl ?_
            have h := Option.some.inj h
            subst h
            exact hR _ _ (jat ok_X5_trait 25 (pc := 92) (i := .ireturn) (n := 1) rfl rfl)
          · have h := (if_neg c4).symm.trans h
            by_cases c5 : x2 = 5
            · have h := (if_pos c5).symm.trans h
              refine J_tabIn sw_X5_trait_1 (off := 92) (tgt := 93) (by rw [c5]; decide) (by rw [c5]; decide) (by rw [c5]; decide) (by decide) ?_
              refine J_seg ok_X5_trait 26 1 (pc' := 94) (ls' := [(0, .inr (.inr (.inl x0))), (1, .inl x1), (2, .inl x2)]) (st' := [.inr (.inr (.inl x0))]) rfl ?_
              obtain ⟨v26, h27, h⟩ := Option.bind_eq_some_iff.mp h
              refine J_getR (jat ok_X5_trait 27 (pc := 94) (i := .getfield 28) (n := 3) rfl rfl) fl_RX5_28 h27 ?_
              refine J_seg ok_X5_trait 28 1 (pc' := 98) (ls' := [(0, .inr (.inr (.inl x0))), (1, .inl x1), (2, .inl x2)]) (st' := [.inl x1, .inr (.inr (.inl v26))]) rfl ?_
              by_cases c30 : qO ah v26 4 = true
              case neg => exact absurd ((if_neg c30).symm.trans h) (by simp)
              have h := (if_pos c30).symm.trans h
              obtain ⟨q28, h29, h⟩ := Option.bind_eq_some_iff.mp h
              refine J_callV (md' := md_X4_deedsOf) (As := [.inl x1]) (st := []) (cs' := (0, 0)) (st' := [.inl q28.1]) (jat ok_X5_trait 29 (pc := 98) (i := .invokevirtual 330) (n := 3) rfl rfl) ml_RX5_330 yv_X4_deedsOf c30 (c_X4_deedsOf l g (d + 1) h29) (jRo_of (by decide)) (Nat.le_of_ble_eq_true rfl) ⟨Nat.le_of_ble_eq_true rfl, Nat.le_of_ble_eq_true rfl⟩ rfl rfl rfl ?_
              have h := Option.some.inj h
              subst h
              exact hR _ _ (jat ok_X5_trait 30 (pc := 101) (i := .ireturn) (n := 1) rfl rfl)
            · have h := (if_neg c5).symm.trans h
              by_cases c6 : x2 = 6
              · have h := (if_pos c6).symm.trans h
                refine J_tabIn sw_X5_trait_1 (off := 101) (tgt := 102) (by rw [c6]; decide) (by rw [c6]; decide) (by rw [c6]; decide) (by decide) ?_
                refine J_seg ok_X5_trait 31 1 (pc' := 103) (ls' := [(0, .inr (.inr (.inl x0))), (1, .inl x1), (2, .inl x2)]) (st' := [.inr (.inr (.inl x0))]) rfl ?_
                obtain ⟨v31, h32, h⟩ := Option.bind_eq_some_iff.mp h
                refine J_getR (jat ok_X5_trait 32 (pc := 103) (i := .getfield 28) (n := 3) rfl rfl) fl_RX5_28 h32 ?_
                refine J_seg ok_X5_trait 33 1 (pc' := 107) (ls' := [(0, .inr (.inr (.inl x0))), (1, .inl x1), (2, .inl x2)]) (st' := [.inl x1, .inr (.inr (.inl v31))]) rfl ?_
                by_cases c35 : qO ah v31 4 = true
                case neg => exact absurd ((if_neg c35).symm.trans h) (by simp)
                have h := (if_pos c35).symm.trans h
                obtain ⟨q33, h34, h⟩ := Option.bind_eq_some_iff.mp h
                refine J_callV (md' := md_X4_finesOf) (As := [.inl x1]) (st := []) (cs' := (0, 0)) (st' := [.inl q33.1]) (jat ok_X5_trait 34 (pc := 107) (i := .invokevirtual 333) (n := 3) rfl rfl) ml_RX5_333 yv_X4_finesOf c35 (c_X4_finesOf l g (d + 1) h34) (jRo_of (by decide)) (Nat.le_of_ble_eq_true rfl) ⟨Nat.le_of_ble_eq_true rfl, Nat.le_of_ble_eq_true rfl⟩ rfl rfl rfl ?_
                have h := Option.some.inj h
                subst h
                exact hR _ _ (jat ok_X5_trait 35 (pc := 110) (i := .ireturn) (n := 1) rfl rfl)
              · have h := (if_neg c6).symm.trans h
                by_cases c7 : x2 = 7
                · have h := (if_pos c7).symm.trans h
                  refine J_tabIn sw_X5_trait_1 (off := 110) (tgt := 111) (by rw [c7]; decide) (by rw [c7]; decide) (by rw [c7]; decide) (by decide) ?_
                  refine J_seg ok_X5_trait 36 2 (pc' := 113) (ls' := [(0, .inr (.inr (.inl x0))), (1, .inl x1), (2, .inl x2)]) (st' := [.inl x1, .inr (.inr (.inl x0))]) rfl ?_
                  by_cases c38 : qO ah x0 5 = true
                  case neg => exact absurd ((if_neg c38).symm.trans h) (by simp)
                  have h := (if_pos c38).symm.trans h
                  obtain ⟨q36, h37, h⟩ := Option.bind_eq_some_iff.mp h
                  refine J_callV (md' := md_X5_hasReached) (As := [.inl x1]) (st := []) (cs' := (0, 0)) (st' := [.inl q36.1]) (jat ok_X5_trait 38 (pc := 113) (i := .invokevirtual 206) (n := 3) rfl rfl) ml_RX5_206 yv_X5_hasReached c38 (c_X5_hasReached l g (d + 0) h37) (jRo_of (by decide)) (Nat.le_of_ble_eq_true rfl) ⟨Nat.le_of_ble_eq_true rfl, Nat.le_of_ble_eq_true rfl⟩ rfl rfl rfl ?_
                  refine J_eq0 (jat ok_X5_trait 39 (pc := 116) (i := .ifCond .eq 7) (n := 3) rfl rfl) (tgt := 123) (by decide) (fun c => ?_) (fun c => ?_)
                  · have h := (if_pos c).symm.trans h
                    refine J_seg ok_X5_trait 42 1 (pc' := 124) (ls' := [(0, .inr (.inr (.inl x0))), (1, .inl x1), (2, .inl x2)]) (st' := [.inl 0]) rfl ?_
                    have h := Option.some.inj h
                    subst h
                    exact hR _ _ (jat ok_X5_trait 43 (pc := 124) (i := .ireturn) (n := 1) rfl rfl)
                  · have h := (if_neg c).symm.trans h
                    refine J_seg ok_X5_trait 40 2 (pc' := 124) (ls' := [(0, .inr (.inr (.inl x0))), (1, .inl x1), (2, .inl x2)]) (st' := [.inl 1]) rfl ?_
                    have h := Option.some.inj h
                    subst h
                    exact hR _ _ (jat ok_X5_trait 43 (pc := 124) (i := .ireturn) (n := 1) rfl rfl)
                · have h := (if_neg c7).symm.trans h
                  have c0 := jtoInt_ne (n := 0) (by decide) c0
                  have c1 := jtoInt_ne (n := 1) (by decide) c1
                  have c2 := jtoInt_ne (n := 2) (by decide) c2
                  have c3 := jtoInt_ne (n := 3) (by decide) c3
                  have c4 := jtoInt_ne (n := 4) (by decide) c4
                  have c5 := jtoInt_ne (n := 5) (by decide) c5
                  have c6 := jtoInt_ne (n := 6) (by decide) c6
                  have c7 := jtoInt_ne (n := 7) (by decide) c7
                  refine J_tabOut sw_X5_trait_1 (tgt := 125) (by omega) (by decide) ?_
                  refine J_seg ok_X5_trait 44 1 (pc' := 126) (ls' := [(0, .inr (.inr (.inl x0))), (1, .inl x1), (2, .inl x2)]) (st' := [.inr (.inr (.inl x0))]) rfl ?_
                  obtain ⟨v39, h40, h⟩ := Option.bind_eq_some_iff.mp h
                  refine J_getR (jat ok_X5_trait 45 (pc := 126) (i := .getfield 53) (n := 3) rfl rfl) fl_RX5_53 h40 ?_
                  refine J_seg ok_X5_trait 46 1 (pc' := 130) (ls' := [(0, .inr (.inr (.inl x0))), (1, .inl x1), (2, .inl x2)]) (st' := [.inl x1, .inr (.inr (.inl v39))]) rfl ?_
                  by_cases c43 : qO ah v39 1 = true
                  case neg => exact absurd ((if_neg c43).symm.trans h) (by simp)
                  have h := (if_pos c43).symm.trans h
                  obtain ⟨q41, h42, h⟩ := Option.bind_eq_some_iff.mp h
                  refine J_callV (md' := md_X1_lovedBy) (As := [.inl x1]) (st := []) (cs' := (0, 0)) (st' := [.inl q41.1]) (jat ok_X5_trait 47 (pc := 130) (i := .invokevirtual 145) (n := 3) rfl rfl) ml_RX5_145 yv_X1_lovedBy c43 (c_X1_lovedBy l g (d + 1) h42) (jRo_of (by decide)) (Nat.le_of_ble_eq_true rfl) ⟨Nat.le_of_ble_eq_true rfl, Nat.le_of_ble_eq_true rfl⟩ rfl rfl rfl ?_
                  have h := Option.some.inj h
                  subst h
                  exact hR _ _ (jat ok_X5_trait 48 (pc := 133) (i := .ireturn) (n := 1) rfl rfl)
theorem c_X5_trait (l : Launch) (g : GX) (d : Nat) {x0 : Option Nat} {x1 : Int32} {x2 : Int32} {ah : AH} {q : Int32 × AH} (h : f_X5_trait x0 x1 x2 ah = some q) : jM l g (d + 3) md_X5_trait [.inr (.inr (.inl x0)), .inl x1, .inl x2] ah (some (.inl q.1)) q.2 :=
  jM_of (by decide) (Nat.le_of_ble_eq_true rfl) (k_X5_trait d ah q h (fun pc ls hd => J_reti hd rfl (jPV_int _) rfl (Nat.le_refl _) rfl rfl))
def f_X5_person (x0 : Option Nat) (x1 : Int32) (x2 : Int32) (ah : AH) : Option (Int32 × AH) :=
  (gR ah x0 5 8).bind fun v1 => if qO ah v1 1 = true then ((f_X1_has v1 x1 ah).bind fun q3 => if q3.1 = 0 then (some ((-1), q3.2)) else (if x2 < 0 then (some ((-1), q3.2)) else (if x2 < 9 then (if qO q3.2 x0 5 = true then ((f_X5_trait x0 x1 x2 q3.2).bind fun q6 => (sF q6.2 x0 5 11 (.inl q6.1)).bind fun a9 => some (1, a9)) else none) else (some ((-1), q3.2))))) else none
set_option maxRecDepth 100000 in
set_option maxHeartbeats 4000000 in
theorem k_X5_person {l : Launch} {g : GX} (d : Nat) {Q : jQ} {x0 : Option Nat} {x1 : Int32} {x2 : Int32} (ah : AH) (out : Int32 × AH) (h : f_X5_person x0 x1 x2 ah = some out) (hR : jRetI l g md_X5_person (jRm (d + 4) md_X5_person) Q (0, 0) out.1 out.2) : J l g md_X5_person (jRm (d + 4) md_X5_person) Q 0 [(0, .inr (.inr (.inl x0))), (1, .inl x1), (2, .inl x2)] [] ah (0, 0) := by
  unfold f_X5_person at h
  refine J_seg ok_X5_person 0 1 (pc' := 1) (ls' := [(0, .inr (.inr (.inl x0))), (1, .inl x1), (2, .inl x2)]) (st' := [.inr (.inr (.inl x0))]) rfl ?_
  obtain ⟨v1, h2, h⟩ := Option.bind_eq_some_iff.mp h
  refine J_getR (jat ok_X5_person 1 (pc := 1) (i := .getfield 53) (n := 3) rfl rfl) fl_RX5_53 h2 ?_
  refine J_seg ok_X5_person 2 1 (pc' := 5) (ls' := [(0, .inr (.inr (.inl x0))), (1, .inl x1), (2, .inl x2)]) (st' := [.inl x1, .inr (.inr (.inl v1))]) rfl ?_
  by_cases c5 : qO ah v1 1 = true
  case neg => exact absurd ((if_neg c5).symm.trans h) (by simp)
  have h := (if_pos c5).symm.trans h
  obtain ⟨q3, h4, h⟩ := Option.bind_eq_some_iff.mp h
  refine J_callV (md' := md_X1_has) (As := [.inl x1]) (st := []) (cs' := (0, 0)) (st' := [.inl q3.1]) (jat ok_X5_person 3 (pc := 5) (i := .invokevirtual 128) (n := 3) rfl rfl) ml_RX5_128 yv_X1_has c5 (c_X1_has l g (d + 3) h4) (jRo_of (by decide)) (Nat.le_of_ble_eq_true rfl) ⟨Nat.le_of_ble_eq_true rfl, Nat.le_of_ble_eq_true rfl⟩ rfl rfl rfl ?_
  refine J_eq0 (jat ok_X5_person 4 (pc := 8) (i := .ifCond .eq 13) (n := 3) rfl rfl) (tgt := 21) (by decide) (fun c => ?_) (fun c => ?_)
  · have h := (if_pos c).symm.trans h
    refine J_seg ok_X5_person 10 1 (pc' := 22) (ls' := [(0, .inr (.inr (.inl x0))), (1, .inl x1), (2, .inl x2)]) (st' := [.inl (-1)]) rfl ?_
    have h := Option.some.inj h
    subst h
    exact hR _ _ (jat ok_X5_person 11 (pc := 22) (i := .ireturn) (n := 1) rfl rfl)
  · have h := (if_neg c).symm.trans h
    refine J_seg ok_X5_person 5 1 (pc' := 12) (ls' := [(0, .inr (.inr (.inl x0))), (1, .inl x1), (2, .inl x2)]) (st' := [.inl x2]) rfl ?_
    refine J_lt0 (jat ok_X5_person 6 (pc := 12) (i := .ifCond .lt 9) (n := 3) rfl rfl) (tgt := 21) (by decide) (fun c => ?_) (fun c => ?_)
    · have h := (if_pos c).symm.trans h
      refine J_seg ok_X5_person 10 1 (pc' := 22) (ls' := [(0, .inr (.inr (.inl x0))), (1, .inl x1), (2, .inl x2)]) (st' := [.inl (-1)]) rfl ?_
      have h := Option.some.inj h
      subst h
      exact hR _ _ (jat ok_X5_person 11 (pc := 22) (i := .ireturn) (n := 1) rfl rfl)
    · have h := (if_neg c).symm.trans h
      refine J_seg ok_X5_person 7 2 (pc' := 18) (ls' := [(0, .inr (.inr (.inl x0))), (1, .inl x1), (2, .inl x2)]) (st' := [.inl 9, .inl x2]) rfl ?_
      refine J_lt (jat ok_X5_person 9 (pc := 18) (i := .if_icmp .lt 5) (n := 3) rfl rfl) (tgt := 23) (by decide) (fun c => ?_) (fun c => ?_)
      · have h := (if_pos c).symm.trans h
        refine J_seg ok_X5_person 12 4 (pc' := 27) (ls' := [(0, .inr (.inr (.inl x0))), (1, .inl x1), (2, .inl x2)]) (st' := [.inl x2, .inl x1, .inr (.inr (.inl x0)), .inr (.inr (.inl x0))]) rfl ?_
        by_cases c8 : qO q3.2 x0 5 = true
        case neg => exact absurd ((if_neg c8).symm.trans h) (by simp)
        have h := (if_pos c8).symm.trans h
        obtain ⟨q6, h7, h⟩ := Option.bind_eq_some_iff.mp h
        refine J_callV (md' := md_X5_trait) (As := [.inl x1, .inl x2]) (st := [.inr (.inr (.inl x0))]) (cs' := (0, 0)) (st' := [.inl q6.1, .inr (.inr (.inl x0))]) (jat ok_X5_person 16 (pc := 27) (i := .invokevirtual 132) (n := 3) rfl rfl) ml_RX5_132 yv_X5_trait c8 (c_X5_trait l g (d + 0) h7) (jRo_of (by decide)) (Nat.le_of_ble_eq_true rfl) ⟨Nat.le_of_ble_eq_true rfl, Nat.le_of_ble_eq_true rfl⟩ rfl rfl rfl ?_
        obtain ⟨a9, h10, h⟩ := Option.bind_eq_some_iff.mp h
        refine J_put (jat ok_X5_person 17 (pc := 30) (i := .putfield 90) (n := 3) rfl rfl) (fp_RX5_90 _) (jPV_int _) h10 ?_
        refine J_seg ok_X5_person 18 1 (pc' := 34) (ls' := [(0, .inr (.inr (.inl x0))), (1, .inl x1), (2, .inl x2)]) (st' := [.inl 1]) rfl ?_
        have h := Option.some.inj h
        subst h
        exact hR _ _ (jat ok_X5_person 19 (pc := 34) (i := .ireturn) (n := 1) rfl rfl)
      · have h := (if_neg c).symm.trans h
        refine J_seg ok_X5_person 10 1 (pc' := 22) (ls' := [(0, .inr (.inr (.inl x0))), (1, .inl x1), (2, .inl x2)]) (st' := [.inl (-1)]) rfl ?_
        have h := Option.some.inj h
        subst h
        exact hR _ _ (jat ok_X5_person 11 (pc := 22) (i := .ireturn) (n := 1) rfl rfl)
theorem c_X5_person (l : Launch) (g : GX) (d : Nat) {x0 : Option Nat} {x1 : Int32} {x2 : Int32} {ah : AH} {q : Int32 × AH} (h : f_X5_person x0 x1 x2 ah = some q) : jM l g (d + 4) md_X5_person [.inr (.inr (.inl x0)), .inl x1, .inl x2] ah (some (.inl q.1)) q.2 :=
  jM_of (by decide) (Nat.le_of_ble_eq_true rfl) (k_X5_person d ah q h (fun pc ls hd => J_reti hd rfl (jPV_int _) rfl (Nat.le_refl _) rfl rfl))
def f_X5_calmedBy_b4 (k0 : Option Nat) (k1 : Int32) (s4 : Int32 × Int32) (ah : AH) : Option ((Unit × AH) ⊕ (((Int32) × AH) ⊕ ((Int32 × Int32) × AH))) :=
  (gR ah k0 5 8).bind fun v1 => (gI ah v1 1 5).bind fun v3 => if v3 ≤ s4.2 then (some (.inr (.inl (s4.1, ah)))) else (if s4.2 = k1 then (some (.inr (.inr ((s4.1, s4.2 + 1), ah)))) else ((gR ah k0 5 8).bind fun v5 => if qO ah v5 1 = true then ((f_X1_lovedBy v5 s4.2 ah).bind fun q7 => (f_X5_isIn q7.1 k1 q7.2).bind fun q10 => if q10.1 = 0 then ((gR q10.2 k0 5 8).bind fun v12 => if qO q10.2 v12 1 = true then ((f_X1_power v12 s4.2 q10.2).bind fun q14 => (gR q14.2 k0 5 8).bind fun v17 => if qO q14.2 v17 1 = true then ((f_X1_against v17 s4.2 k1 q14.2).bind fun q19 => if q14.1 ≤ q19.1 then (some (.inr (.inr ((s4.1, s4.2 + 1), q19.2)))) else (some (.inr (.inr ((s4.1 + 1, s4.2 + 1), q19.2))))) else none) else none) else (some (.inr (.inr ((s4.1, s4.2 + 1), q10.2))))) else none))
set_option maxRecDepth 100000 in
set_option maxHeartbeats 4000000 in
theorem k_X5_calmedBy_b4 {l : Launch} {g : GX} (d : Nat) {Q : jQ} {k0 : Option Nat} {k1 : Int32} (s4 : Int32 × Int32) (ah : AH) (out : (Unit × AH) ⊕ (((Int32) × AH) ⊕ ((Int32 × Int32) × AH))) (h : f_X5_calmedBy_b4 k0 k1 s4 ah = some out) (hR : ∀ q, out = .inl q → jRetN q.1 q.2) (hX : ∀ q, out = .inr (.inl q) → J l g md_X5_calmedBy (jRm (d + 5) md_X5_calmedBy) Q 64 [(2, .inl q.1)] [] q.2 (0, 0)) (hN : ∀ q, out = .inr (.inr q) → J l g md_X5_calmedBy (jRm (d + 5) md_X5_calmedBy) Q 4 [(0, .inr (.inr (.inl k0))), (1, .inl k1), (2, .inl q.1.1), (3, .inl q.1.2)] [] q.2 (0, 0)) : J l g md_X5_calmedBy (jRm (d + 5) md_X5_calmedBy) Q 4 [(0, .inr (.inr (.inl k0))), (1, .inl k1), (2, .inl s4.1), (3, .inl s4.2)] [] ah (0, 0) := by
  unfold f_X5_calmedBy_b4 at h
  refine J_seg ok_X5_calmedBy 4 2 (pc' := 6) (ls' := [(0, .inr (.inr (.inl k0))), (1, .inl k1), (2, .inl s4.1), (3, .inl s4.2)]) (st' := [.inr (.inr (.inl k0)), .inl s4.2]) rfl ?_
  obtain ⟨v1, h2, h⟩ := Option.bind_eq_some_iff.mp h
  refine J_getR (jat ok_X5_calmedBy 6 (pc := 6) (i := .getfield 53) (n := 3) rfl rfl) fl_RX5_53 h2 ?_
  obtain ⟨v3, h4, h⟩ := Option.bind_eq_some_iff.mp h
  refine J_getI (jat ok_X5_calmedBy 7 (pc := 9) (i := .getfield 127) (n := 3) rfl rfl) fl_RX5_127 h4 ?_
  refine J_ge (jat ok_X5_calmedBy 8 (pc := 12) (i := .if_icmp .ge 52) (n := 3) rfl rfl) (tgt := 64) (by decide) (fun c => ?_) (fun c => ?_)
  · have h := (if_pos c).symm.trans h
    exact J_sub (ls' := [(2, .inl s4.1)]) [2] rfl (hX (s4.1, ah) (Option.some.inj h).symm)
  · have h := (if_neg c).symm.trans h
    refine J_seg ok_X5_calmedBy 9 2 (pc' := 17) (ls' := [(0, .inr (.inr (.inl k0))), (1, .inl k1), (2, .inl s4.1), (3, .inl s4.2)]) (st' := [.inl k1, .inl s4.2]) rfl ?_
    refine J_eq (jat ok_X5_calmedBy 11 (pc := 17) (i := .if_icmp .eq 41) (n := 3) rfl rfl) (tgt := 58) (by decide) (fun c => ?_) (fun c => ?_)
    · have h := (if_pos c).symm.trans h
      refine J_seg ok_X5_calmedBy 30 2 (pc' := 4) (ls' := [(3, .inl (s4.2 + 1)), (0, .inr (.inr (.inl k0))), (1, .inl k1), (2, .inl s4.1)]) (st' := []) rfl ?_
      exact J_sub (ls' := [(0, .inr (.inr (.inl k0))), (1, .inl k1), (2, .inl s4.1), (3, .inl (s4.2 + 1))]) [1, 2, 3, 0] rfl (hN ((s4.1, s4.2 + 1), ah) (Option.some.inj h).symm)
    · have h := (if_neg c).symm.trans h
      refine J_seg ok_X5_calmedBy 12 1 (pc' := 21) (ls' := [(0, .inr (.inr (.inl k0))), (1, .inl k1), (2, .inl s4.1), (3, .inl s4.2)]) (st' := [.inr (.inr (.inl k0))]) rfl ?_
      obtain ⟨v5, h6, h⟩ := Option.bind_eq_some_iff.mp h
      refine J_getR (jat ok_X5_calmedBy 13 (pc := 21) (i := .getfield 53) (n := 3) rfl rfl) fl_RX5_53 h6 ?_
      refine J_seg ok_X5_calmedBy 14 1 (pc' := 25) (ls' := [(0, .inr (.inr (.inl k0))), (1, .inl k1), (2, .inl s4.1), (3, .inl s4.2)]) (st' := [.inl s4.2, .inr (.inr (.inl v5))]) rfl ?_
      by_cases c9 : qO ah v5 1 = true
      case neg => exact absurd ((if_neg c9).symm.trans h) (by simp)
      have h := (if_pos c9).symm.trans h
      obtain ⟨q7, h8, h⟩ := Option.bind_eq_some_iff.mp h
      refine J_callV (md' := md_X1_lovedBy) (As := [.inl s4.2]) (st := []) (cs' := (0, 0)) (st' := [.inl q7.1]) (jat ok_X5_calmedBy 15 (pc := 25) (i := .invokevirtual 145) (n := 3) rfl rfl) ml_RX5_145 yv_X1_lovedBy c9 (c_X1_lovedBy l g (d + 3) h8) (jRo_of (by decide)) (Nat.le_of_ble_eq_true rfl) ⟨Nat.le_of_ble_eq_true rfl, Nat.le_of_ble_eq_true rfl⟩ rfl rfl rfl ?_
      refine J_seg ok_X5_calmedBy 16 1 (pc' := 29) (ls' := [(0, .inr (.inr (.inl k0))), (1, .inl k1), (2, .inl s4.1), (3, .inl s4.2)]) (st' := [.inl k1, .inl q7.1]) rfl ?_
      obtain ⟨q10, h11, h⟩ := Option.bind_eq_some_iff.mp h
      refine J_callS (md' := md_X5_isIn) (As := [.inl q7.1, .inl k1]) (st := []) (cs' := (0, 0)) (st' := [.inl q10.1]) (jat ok_X5_calmedBy 17 (pc := 29) (i := .invokestatic 197) (n := 3) rfl rfl) (Or.inl ml_RX5_197) ys_X5_isIn (c_X5_isIn l g (d + 4) h11) (jRo_of (by decide)) (Nat.le_of_ble_eq_true rfl) ⟨Nat.le_of_ble_eq_true rfl, Nat.le_of_ble_eq_true rfl⟩ rfl rfl rfl ?_
      refine J_ne0 (jat ok_X5_calmedBy 18 (pc := 32) (i := .ifCond .ne 26) (n := 3) rfl rfl) (tgt := 58) (by decide) (fun c => ?_) (fun c => ?_)
      · have h := (if_neg c).symm.trans h
        refine J_seg ok_X5_calmedBy 30 2 (pc' := 4) (ls' := [(3, .inl (s4.2 + 1)), (0, .inr (.inr (.inl k0))), (1, .inl k1), (2, .inl s4.1)]) (st' := []) rfl ?_
        exact J_sub (ls' := [(0, .inr (.inr (.inl k0))), (1, .inl k1), (2, .inl s4.1), (3, .inl (s4.2 + 1))]) [1, 2, 3, 0] rfl (hN ((s4.1, s4.2 + 1), q10.2) (Option.some.inj h).symm)
      · have h := (if_pos c).symm.trans h
        refine J_seg ok_X5_calmedBy 19 1 (pc' := 36) (ls' := [(0, .inr (.inr (.inl k0))), (1, .inl k1), (2, .inl s4.1), (3, .inl s4.2)]) (st' := [.inr (.inr (.inl k0))]) rfl ?_
        obtain ⟨v12, h13, h⟩ := Option.bind_eq_some_iff.mp h
        refine J_getR (jat ok_X5_calmedBy 20 (pc := 36) (i := .getfield 53) (n := 3) rfl rfl) fl_RX5_53 h13 ?_
        refine J_seg ok_X5_calmedBy 21 1 (pc' := 40) (ls' := [(0, .inr (.inr (.inl k0))), (1, .inl k1), (2, .inl s4.1), (3, .inl s4.2)]) (st' := [.inl s4.2, .inr (.inr (.inl v12))]) rfl ?_
        by_cases c16 : qO q10.2 v12 1 = true
        case neg => exact absurd ((if_neg c16).symm.trans h) (by simp)
        have h := (if_pos c16).symm.trans h
        obtain ⟨q14, h15, h⟩ := Option.bind_eq_some_iff.mp h
        refine J_callV (md' := md_X1_power) (As := [.inl s4.2]) (st := []) (cs' := (0, 0)) (st' := [.inl q14.1]) (jat ok_X5_calmedBy 22 (pc := 40) (i := .invokevirtual 139) (n := 3) rfl rfl) ml_RX5_139 yv_X1_power c16 (c_X1_power l g (d + 1) h15) (jRo_of (by decide)) (Nat.le_of_ble_eq_true rfl) ⟨Nat.le_of_ble_eq_true rfl, Nat.le_of_ble_eq_true rfl⟩ rfl rfl rfl ?_
        refine J_seg ok_X5_calmedBy 23 1 (pc' := 44) (ls' := [(0, .inr (.inr (.inl k0))), (1, .inl k1), (2, .inl s4.1), (3, .inl s4.2)]) (st' := [.inr (.inr (.inl k0)), .inl q14.1]) rfl ?_
        obtain ⟨v17, h18, h⟩ := Option.bind_eq_some_iff.mp h
        refine J_getR (jat ok_X5_calmedBy 24 (pc := 44) (i := .getfield 53) (n := 3) rfl rfl) fl_RX5_53 h18 ?_
        refine J_seg ok_X5_calmedBy 25 2 (pc' := 49) (ls' := [(0, .inr (.inr (.inl k0))), (1, .inl k1), (2, .inl s4.1), (3, .inl s4.2)]) (st' := [.inl k1, .inl s4.2, .inr (.inr (.inl v17)), .inl q14.1]) rfl ?_
        by_cases c21 : qO q14.2 v17 1 = true
        case neg => exact absurd ((if_neg c21).symm.trans h) (by simp)
        have h := (if_pos c21).symm.trans h
        obtain ⟨q19, h20, h⟩ := Option.bind_eq_some_iff.mp h
        refine J_callV (md' := md_X1_against) (As := [.inl s4.2, .inl k1]) (st := [.inl q14.1]) (cs' := (0, 0)) (st' := [.inl q19.1, .inl q14.1]) (jat ok_X5_calmedBy 27 (pc := 49) (i := .invokevirtual 162) (n := 3) rfl rfl) ml_RX5_162 yv_X1_against c21 (c_X1_against l g (d + 0) h20) (jRo_of (by decide)) (Nat.le_of_ble_eq_true rfl) ⟨Nat.le_of_ble_eq_true rfl, Nat.le_of_ble_eq_true rfl⟩ rfl rfl rfl ?_
        refine J_le (jat ok_X5_calmedBy 28 (pc := 52) (i := .if_icmp .le 6) (n := 3) rfl rfl) (tgt := 58) (by decide) (fun c => ?_) (fun c => ?_)
        · have h := (if_pos c).symm.trans h
          refine J_seg ok_X5_calmedBy 30 2 (pc' := 4) (ls' := [(3, .inl (s4.2 + 1)), (0, .inr (.inr (.inl k0))), (1, .inl k1), (2, .inl s4.1)]) (st' := []) rfl ?_
          exact J_sub (ls' := [(0, .inr (.inr (.inl k0))), (1, .inl k1), (2, .inl s4.1), (3, .inl (s4.2 + 1))]) [1, 2, 3, 0] rfl (hN ((s4.1, s4.2 + 1), q19.2) (Option.some.inj h).symm)
        · have h := (if_neg c).symm.trans h
          refine J_seg ok_X5_calmedBy 29 3 (pc' := 4) (ls' := [(3, .inl (s4.2 + 1)), (2, .inl (s4.1 + 1)), (0, .inr (.inr (.inl k0))), (1, .inl k1)]) (st' := []) rfl ?_
          exact J_sub (ls' := [(0, .inr (.inr (.inl k0))), (1, .inl k1), (2, .inl (s4.1 + 1)), (3, .inl (s4.2 + 1))]) [2, 3, 1, 0] rfl (hN ((s4.1 + 1, s4.2 + 1), q19.2) (Option.some.inj h).symm)
def f_X5_calmedBy (x0 : Option Nat) (x1 : Int32) (ah : AH) : Option (Int32 × AH) :=
  (jloop (f_X5_calmedBy_b4 x0 x1) jfuel (0, 0) ah).bind fun q22 => match q22 with | .inl r => none | .inr z24 => some (z24.1, z24.2)
set_option maxRecDepth 100000 in
set_option maxHeartbeats 4000000 in
theorem k_X5_calmedBy {l : Launch} {g : GX} (d : Nat) {Q : jQ} {x0 : Option Nat} {x1 : Int32} (ah : AH) (out : Int32 × AH) (h : f_X5_calmedBy x0 x1 ah = some out) (hR : jRetI l g md_X5_calmedBy (jRm (d + 5) md_X5_calmedBy) Q (0, 0) out.1 out.2) : J l g md_X5_calmedBy (jRm (d + 5) md_X5_calmedBy) Q 0 [(0, .inr (.inr (.inl x0))), (1, .inl x1)] [] ah (0, 0) := by
  unfold f_X5_calmedBy at h
  refine J_seg ok_X5_calmedBy 0 4 (pc' := 4) (ls' := [(3, .inl 0), (2, .inl 0), (0, .inr (.inr (.inl x0))), (1, .inl x1)]) (st' := []) rfl ?_
  obtain ⟨q22, h23, h⟩ := Option.bind_eq_some_iff.mp h
  refine J_sub (ls' := [(0, .inr (.inr (.inl x0))), (1, .inl x1), (2, .inl 0), (3, .inl 0)]) [2, 3, 1, 0] rfl ?_
  refine J_loop (pE := 64) (lh := fun t25 => [(0, .inr (.inr (.inl x0))), (1, .inl x1), (2, .inl t25.1), (3, .inl t25.2)]) (lx := fun z24 => [(2, .inl z24)]) (P := jRetN) (fun s ah out hb hR hX hN => k_X5_calmedBy_b4 d s ah out hb hR hX hN) jfuel (0, 0) _ _ h23 (fun r e => ?_) (fun z24 e => ?_)
  · subst e
    dsimp only at h
    cases h
  · subst e
    dsimp only at h
    refine J_seg ok_X5_calmedBy 32 1 (pc' := 65) (ls' := [(2, .inl z24.1)]) (st' := [.inl z24.1]) rfl ?_
    have h := Option.some.inj h
    subst h
    exact hR _ _ (jat ok_X5_calmedBy 33 (pc := 65) (i := .ireturn) (n := 1) rfl rfl)
theorem c_X5_calmedBy (l : Launch) (g : GX) (d : Nat) {x0 : Option Nat} {x1 : Int32} {ah : AH} {q : Int32 × AH} (h : f_X5_calmedBy x0 x1 ah = some q) : jM l g (d + 5) md_X5_calmedBy [.inr (.inr (.inl x0)), .inl x1] ah (some (.inl q.1)) q.2 :=
  jM_of (by decide) (Nat.le_of_ble_eq_true rfl) (k_X5_calmedBy d ah q h (fun pc ls hd => J_reti hd rfl (jPV_int _) rfl (Nat.le_refl _) rfl rfl))
def f_X5_owesDuty (x0 : Option Nat) (x1 : Int32) (ah : AH) : Option (Int32 × AH) :=
  (gR ah x0 5 3).bind fun v1 => if qO ah v1 4 = true then ((f_X4_victimOf v1 x1 ah).bind fun q3 => if q3.1 = (-9) then (some (0, q3.2)) else ((gR q3.2 x0 5 8).bind fun v6 => if qO q3.2 v6 1 = true then ((f_X1_isOf v6 x1 2 q3.2).bind fun q8 => if q8.1 = 0 then ((gR q8.2 x0 5 8).bind fun v11 => if qO q8.2 v11 1 = true then ((f_X1_lovedBy v11 x1 q8.2).bind fun q13 => (f_X5_isIn q13.1 q3.1 q13.2).bind fun q16 => if q16.1 = 0 then (if qO q16.2 x0 5 = true then ((f_X5_hasReached x0 q3.1 q16.2).bind fun q18 => if q18.1 = 0 then (some (1, q18.2)) else (some (0, q18.2))) else none) else (some (0, q16.2))) else none) else (some (0, q8.2))) else none)) else none
set_option maxRecDepth 100000 in
set_option maxHeartbeats 4000000 in
theorem k_X5_owesDuty {l : Launch} {g : GX} (d : Nat) {Q : jQ} {x0 : Option Nat} {x1 : Int32} (ah : AH) (out : Int32 × AH) (h : f_X5_owesDuty x0 x1 ah = some out) (hR : jRetZ l g md_X5_owesDuty (jRm (d + 3) md_X5_owesDuty) Q (0, 0) out.1 out.2) : J l g md_X5_owesDuty (jRm (d + 3) md_X5_owesDuty) Q 0 [(0, .inr (.inr (.inl x0))), (1, .inl x1)] [] ah (0, 0) := by
  unfold f_X5_owesDuty at h
  refine J_seg ok_X5_owesDuty 0 1 (pc' := 1) (ls' := [(0, .inr (.inr (.inl x0))), (1, .inl x1)]) (st' := [.inr (.inr (.inl x0))]) rfl ?_
  obtain ⟨v1, h2, h⟩ := Option.bind_eq_some_iff.mp h
  refine J_getR (jat ok_X5_owesDuty 1 (pc := 1) (i := .getfield 28) (n := 3) rfl rfl) fl_RX5_28 h2 ?_
  refine J_seg ok_X5_owesDuty 2 1 (pc' := 5) (ls' := [(0, .inr (.inr (.inl x0))), (1, .inl x1)]) (st' := [.inl x1, .inr (.inr (.inl v1))]) rfl ?_
  by_cases c5 : qO ah v1 4 = true
  case neg => exact absurd ((if_neg c5).symm.trans h) (by simp)
  have h := (if_pos c5).symm.trans h
  obtain ⟨q3, h4, h⟩ := Option.bind_eq_some_iff.mp h
  refine J_callV (md' := md_X4_victimOf) (As := [.inl x1]) (st := []) (cs' := (0, 0)) (st' := [.inl q3.1]) (jat ok_X5_owesDuty 3 (pc := 5) (i := .invokevirtual 178) (n := 3) rfl rfl) ml_RX5_178 yv_X4_victimOf c5 (c_X4_victimOf l g (d + 1) h4) (jRo_of (by decide)) (Nat.le_of_ble_eq_true rfl) ⟨Nat.le_of_ble_eq_true rfl, Nat.le_of_ble_eq_true rfl⟩ rfl rfl rfl ?_
  refine J_seg ok_X5_owesDuty 4 3 (pc' := 12) (ls' := [(2, .inl q3.1), (0, .inr (.inr (.inl x0))), (1, .inl x1)]) (st' := [.inl (-9), .inl q3.1]) rfl ?_
  refine J_eq (jat ok_X5_owesDuty 7 (pc := 12) (i := .if_icmp .eq 42) (n := 3) rfl rfl) (tgt := 54) (by decide) (fun c => ?_) (fun c => ?_)
  · have h := (if_pos c).symm.trans h
    refine J_seg ok_X5_owesDuty 27 1 (pc' := 55) (ls' := [(2, .inl q3.1), (0, .inr (.inr (.inl x0))), (1, .inl x1)]) (st' := [.inl 0]) rfl ?_
    have h := Option.some.inj h
    subst h
    exact hR _ _ (jat ok_X5_owesDuty 28 (pc := 55) (i := .ireturn) (n := 1) rfl rfl) (Or.inl rfl)
  · have h := (if_neg c).symm.trans h
    refine J_seg ok_X5_owesDuty 8 1 (pc' := 16) (ls' := [(2, .inl q3.1), (0, .inr (.inr (.inl x0))), (1, .inl x1)]) (st' := [.inr (.inr (.inl x0))]) rfl ?_
    obtain ⟨v6, h7, h⟩ := Option.bind_eq_some_iff.mp h
    refine J_getR (jat ok_X5_owesDuty 9 (pc := 16) (i := .getfield 53) (n := 3) rfl rfl) fl_RX5_53 h7 ?_
    refine J_seg ok_X5_owesDuty 10 2 (pc' := 21) (ls' := [(2, .inl q3.1), (0, .inr (.inr (.inl x0))), (1, .inl x1)]) (st' := [.inl 2, .inl x1, .inr (.inr (.inl v6))]) rfl ?_
    by_cases c10 : qO q3.2 v6 1 = true
    case neg => exact absurd ((if_neg c10).symm.trans h) (by simp)
    have h := (if_pos c10).symm.trans h
    obtain ⟨q8, h9, h⟩ := Option.bind_eq_some_iff.mp h
    refine J_callV (md' := md_X1_isOf) (As := [.inl x1, .inl 2]) (st := []) (cs' := (0, 0)) (st' := [.inl q8.1]) (jat ok_X5_owesDuty 12 (pc := 21) (i := .invokevirtual 136) (n := 3) rfl rfl) ml_RX5_136 yv_X1_isOf c10 (c_X1_isOf l g (d + 0) h9) (jRo_of (by decide)) (Nat.le_of_ble_eq_true rfl) ⟨Nat.le_of_ble_eq_true rfl, Nat.le_of_ble_eq_true rfl⟩ rfl rfl rfl ?_
    refine J_ne0 (jat ok_X5_owesDuty 13 (pc := 24) (i := .ifCond .ne 30) (n := 3) rfl rfl) (tgt := 54) (by decide) (fun c => ?_) (fun c => ?_)
    · have h := (if_neg c).symm.trans h
      refine J_seg ok_X5_owesDuty 27 1 (pc' := 55) (ls' := [(2, .inl q3.1), (0, .inr (.inr (.inl x0))), (1, .inl x1)]) (st' := [.inl 0]) rfl ?_
      have h := Option.some.inj h
      subst h
      exact hR _ _ (jat ok_X5_owesDuty 28 (pc := 55) (i := .ireturn) (n := 1) rfl rfl) (Or.inl rfl)
    · have h := (if_pos c).symm.trans h
      refine J_seg ok_X5_owesDuty 14 1 (pc' := 28) (ls' := [(2, .inl q3.1), (0, .inr (.inr (.inl x0))), (1, .inl x1)]) (st' := [.inr (.inr (.inl x0))]) rfl ?_
      obtain ⟨v11, h12, h⟩ := Option.bind_eq_some_iff.mp h
      refine J_getR (jat ok_X5_owesDuty 15 (pc := 28) (i := .getfield 53) (n := 3) rfl rfl) fl_RX5_53 h12 ?_
      refine J_seg ok_X5_owesDuty 16 1 (pc' := 32) (ls' := [(2, .inl q3.1), (0, .inr (.inr (.inl x0))), (1, .inl x1)]) (st' := [.inl x1, .inr (.inr (.inl v11))]) rfl ?_
      by_cases c15 : qO q8.2 v11 1 = true
      case neg => exact absurd ((if_neg c15).symm.trans h) (by simp)
      have h := (if_pos c15).symm.trans h
      obtain ⟨q13, h14, h⟩ := Option.bind_eq_some_iff.mp h
      refine J_callV (md' := md_X1_lovedBy) (As := [.inl x1]) (st := []) (cs' := (0, 0)) (st' := [.inl q13.1]) (jat ok_X5_owesDuty 17 (pc := 32) (i := .invokevirtual 145) (n := 3) rfl rfl) ml_RX5_145 yv_X1_lovedBy c15 (c_X1_lovedBy l g (d + 1) h14) (jRo_of (by decide)) (Nat.le_of_ble_eq_true rfl) ⟨Nat.le_of_ble_eq_true rfl, Nat.le_of_ble_eq_true rfl⟩ rfl rfl rfl ?_
      refine J_seg ok_X5_owesDuty 18 1 (pc' := 36) (ls' := [(2, .inl q3.1), (0, .inr (.inr (.inl x0))), (1, .inl x1)]) (st' := [.inl q3.1, .inl q13.1]) rfl ?_
      obtain ⟨q16, h17, h⟩ := Option.bind_eq_some_iff.mp h
      refine J_callS (md' := md_X5_isIn) (As := [.inl q13.1, .inl q3.1]) (st := []) (cs' := (0, 0)) (st' := [.inl q16.1]) (jat ok_X5_owesDuty 19 (pc := 36) (i := .invokestatic 197) (n := 3) rfl rfl) (Or.inl ml_RX5_197) ys_X5_isIn (c_X5_isIn l g (d + 2) h17) (jRo_of (by decide)) (Nat.le_of_ble_eq_true rfl) ⟨Nat.le_of_ble_eq_true rfl, Nat.le_of_ble_eq_true rfl⟩ rfl rfl rfl ?_
      refine J_ne0 (jat ok_X5_owesDuty 20 (pc := 39) (i := .ifCond .ne 15) (n := 3) rfl rfl) (tgt := 54) (by decide) (fun c => ?_) (fun c => ?_)
      · have h := (if_neg c).symm.trans h
        refine J_seg ok_X5_owesDuty 27 1 (pc' := 55) (ls' := [(2, .inl q3.1), (0, .inr (.inr (.inl x0))), (1, .inl x1)]) (st' := [.inl 0]) rfl ?_
        have h := Option.some.inj h
        subst h
        exact hR _ _ (jat ok_X5_owesDuty 28 (pc := 55) (i := .ireturn) (n := 1) rfl rfl) (Or.inl rfl)
      · have h := (if_pos c).symm.trans h
        refine J_seg ok_X5_owesDuty 21 2 (pc' := 44) (ls' := [(2, .inl q3.1), (0, .inr (.inr (.inl x0))), (1, .inl x1)]) (st' := [.inl q3.1, .inr (.inr (.inl x0))]) rfl ?_
        by_cases c20 : qO q16.2 x0 5 = true
        case neg => exact absurd ((if_neg c20).symm.trans h) (by simp)
        have h := (if_pos c20).symm.trans h
        obtain ⟨q18, h19, h⟩ := Option.bind_eq_some_iff.mp h
        refine J_callV (md' := md_X5_hasReached) (As := [.inl q3.1]) (st := []) (cs' := (0, 0)) (st' := [.inl q18.1]) (jat ok_X5_owesDuty 23 (pc := 44) (i := .invokevirtual 206) (n := 3) rfl rfl) ml_RX5_206 yv_X5_hasReached c20 (c_X5_hasReached l g (d + 0) h19) (jRo_of (by decide)) (Nat.le_of_ble_eq_true rfl) ⟨Nat.le_of_ble_eq_true rfl, Nat.le_of_ble_eq_true rfl⟩ rfl rfl rfl ?_
        refine J_ne0 (jat ok_X5_owesDuty 24 (pc := 47) (i := .ifCond .ne 7) (n := 3) rfl rfl) (tgt := 54) (by decide) (fun c => ?_) (fun c => ?_)
        · have h := (if_neg c).symm.trans h
          refine J_seg ok_X5_owesDuty 27 1 (pc' := 55) (ls' := [(2, .inl q3.1), (0, .inr (.inr (.inl x0))), (1, .inl x1)]) (st' := [.inl 0]) rfl ?_
          have h := Option.some.inj h
          subst h
          exact hR _ _ (jat ok_X5_owesDuty 28 (pc := 55) (i := .ireturn) (n := 1) rfl rfl) (Or.inl rfl)
        · have h := (if_pos c).symm.trans h
          refine J_seg ok_X5_owesDuty 25 2 (pc' := 55) (ls' := [(2, .inl q3.1), (0, .inr (.inr (.inl x0))), (1, .inl x1)]) (st' := [.inl 1]) rfl ?_
          have h := Option.some.inj h
          subst h
          exact hR _ _ (jat ok_X5_owesDuty 28 (pc := 55) (i := .ireturn) (n := 1) rfl rfl) (Or.inr rfl)
theorem c_X5_owesDuty (l : Launch) (g : GX) (d : Nat) {x0 : Option Nat} {x1 : Int32} {ah : AH} {q : Int32 × AH} (h : f_X5_owesDuty x0 x1 ah = some q) : jM l g (d + 3) md_X5_owesDuty [.inr (.inr (.inl x0)), .inl x1] ah (some (.inl q.1)) q.2 :=
  jM_of (by decide) (Nat.le_of_ble_eq_true rfl) (k_X5_owesDuty d ah q h (fun pc ls hd c => J_reti hd rfl (jPV_z c) rfl (Nat.le_refl _) rfl rfl))
def f_X5_weeksForNine_j28 (y0 : Int32) (ah : AH) : Option (Int32 × AH) :=
  if 0 < y0 then (if y0 = 0 then none else (some (((9 + y0) - 1) / y0, ah))) else (some ((-9), ah))
set_option maxRecDepth 100000 in
set_option maxHeartbeats 4000000 in
theorem k_X5_weeksForNine_j28 {l : Launch} {g : GX} (d : Nat) {Q : jQ} {y0 : Int32} (ah : AH) (out : Int32 × AH) (h : f_X5_weeksForNine_j28 y0 ah = some out) (hR : jRetI l g md_X5_weeksForNine (jRm (d + 5) md_X5_weeksForNine) Q (0, 0) out.1 out.2) : J l g md_X5_weeksForNine (jRm (d + 5) md_X5_weeksForNine) Q 28 [] [.inl y0] ah (0, 0) := by
  unfold f_X5_weeksForNine_j28 at h
  refine J_seg ok_X5_weeksForNine 15 2 (pc' := 30) (ls' := [(3, .inl y0)]) (st' := [.inl y0]) rfl ?_
  refine J_gt0 (jat ok_X5_weeksForNine 17 (pc := 30) (i := .ifCond .gt 8) (n := 3) rfl rfl) (tgt := 38) (by decide) (fun c => ?_) (fun c => ?_)
  · have h := (if_pos c).symm.trans h
    refine J_seg ok_X5_weeksForNine 20 6 (pc' := 45) (ls' := [(3, .inl y0)]) (st' := [.inl y0, .inl ((9 + y0) - 1)]) rfl ?_
    by_cases e11 : y0 = 0
    · exact absurd ((if_pos e11).symm.trans h) (by simp)
    have h := (if_neg e11).symm.trans h
    refine J_idiv (jat ok_X5_weeksForNine 26 (pc := 45) (i := .idiv) (n := 1) rfl rfl) e11 ?_
    have h := Option.some.inj h
    subst h
    exact hR _ _ (jat ok_X5_weeksForNine 27 (pc := 46) (i := .ireturn) (n := 1) rfl rfl)
  · have h := (if_neg c).symm.trans h
    refine J_seg ok_X5_weeksForNine 18 2 (pc' := 46) (ls' := [(3, .inl y0)]) (st' := [.inl (-9)]) rfl ?_
    have h := Option.some.inj h
    subst h
    exact hR _ _ (jat ok_X5_weeksForNine 27 (pc := 46) (i := .ireturn) (n := 1) rfl rfl)
def f_X5_weeksForNine (x0 : Option Nat) (x1 : Int32) (ah : AH) : Option (Int32 × AH) :=
  (gR ah x0 5 3).bind fun v1 => if qO ah v1 4 = true then ((f_X4_victimOf v1 x1 ah).bind fun q3 => if q3.1 = (-9) then (f_X5_weeksForNine_j28 0 q3.2) else ((gR q3.2 x0 5 8).bind fun v6 => if qO q3.2 v6 1 = true then ((f_X1_against v6 x1 q3.1 q3.2).bind fun q8 => f_X5_weeksForNine_j28 q8.1 q8.2) else none)) else none
set_option maxRecDepth 100000 in
set_option maxHeartbeats 4000000 in
theorem k_X5_weeksForNine {l : Launch} {g : GX} (d : Nat) {Q : jQ} {x0 : Option Nat} {x1 : Int32} (ah : AH) (out : Int32 × AH) (h : f_X5_weeksForNine x0 x1 ah = some out) (hR : jRetI l g md_X5_weeksForNine (jRm (d + 5) md_X5_weeksForNine) Q (0, 0) out.1 out.2) : J l g md_X5_weeksForNine (jRm (d + 5) md_X5_weeksForNine) Q 0 [(0, .inr (.inr (.inl x0))), (1, .inl x1)] [] ah (0, 0) := by
  unfold f_X5_weeksForNine at h
  refine J_seg ok_X5_weeksForNine 0 1 (pc' := 1) (ls' := [(0, .inr (.inr (.inl x0))), (1, .inl x1)]) (st' := [.inr (.inr (.inl x0))]) rfl ?_
  obtain ⟨v1, h2, h⟩ := Option.bind_eq_some_iff.mp h
  refine J_getR (jat ok_X5_weeksForNine 1 (pc := 1) (i := .getfield 28) (n := 3) rfl rfl) fl_RX5_28 h2 ?_
  refine J_seg ok_X5_weeksForNine 2 1 (pc' := 5) (ls' := [(0, .inr (.inr (.inl x0))), (1, .inl x1)]) (st' := [.inl x1, .inr (.inr (.inl v1))]) rfl ?_
  by_cases c5 : qO ah v1 4 = true
  case neg => exact absurd ((if_neg c5).symm.trans h) (by simp)
  have h := (if_pos c5).symm.trans h
  obtain ⟨q3, h4, h⟩ := Option.bind_eq_some_iff.mp h
  refine J_callV (md' := md_X4_victimOf) (As := [.inl x1]) (st := []) (cs' := (0, 0)) (st' := [.inl q3.1]) (jat ok_X5_weeksForNine 3 (pc := 5) (i := .invokevirtual 178) (n := 3) rfl rfl) ml_RX5_178 yv_X4_victimOf c5 (c_X4_victimOf l g (d + 3) h4) (jRo_of (by decide)) (Nat.le_of_ble_eq_true rfl) ⟨Nat.le_of_ble_eq_true rfl, Nat.le_of_ble_eq_true rfl⟩ rfl rfl rfl ?_
  refine J_seg ok_X5_weeksForNine 4 3 (pc' := 12) (ls' := [(2, .inl q3.1), (0, .inr (.inr (.inl x0))), (1, .inl x1)]) (st' := [.inl (-9), .inl q3.1]) rfl ?_
  refine J_ne (jat ok_X5_weeksForNine 7 (pc := 12) (i := .if_icmp .ne 7) (n := 3) rfl rfl) (tgt := 19) (by decide) (fun c => ?_) (fun c => ?_)
  · have h := (if_neg c).symm.trans h
    refine J_seg ok_X5_weeksForNine 10 1 (pc' := 20) (ls' := [(2, .inl q3.1), (0, .inr (.inr (.inl x0))), (1, .inl x1)]) (st' := [.inr (.inr (.inl x0))]) rfl ?_
    obtain ⟨v6, h7, h⟩ := Option.bind_eq_some_iff.mp h
    refine J_getR (jat ok_X5_weeksForNine 11 (pc := 20) (i := .getfield 53) (n := 3) rfl rfl) fl_RX5_53 h7 ?_
    refine J_seg ok_X5_weeksForNine 12 2 (pc' := 25) (ls' := [(2, .inl q3.1), (0, .inr (.inr (.inl x0))), (1, .inl x1)]) (st' := [.inl q3.1, .inl x1, .inr (.inr (.inl v6))]) rfl ?_
    by_cases c10 : qO q3.2 v6 1 = true
    case neg => exact absurd ((if_neg c10).symm.trans h) (by simp)
    have h := (if_pos c10).symm.trans h
    obtain ⟨q8, h9, h⟩ := Option.bind_eq_some_iff.mp h
    refine J_callV (md' := md_X1_against) (As := [.inl x1, .inl q3.1]) (st := []) (cs' := (0, 0)) (st' := [.inl q8.1]) (jat ok_X5_weeksForNine 14 (pc := 25) (i := .invokevirtual 162) (n := 3) rfl rfl) ml_RX5_162 yv_X1_against c10 (c_X1_against l g (d + 0) h9) (jRo_of (by decide)) (Nat.le_of_ble_eq_true rfl) ⟨Nat.le_of_ble_eq_true rfl, Nat.le_of_ble_eq_true rfl⟩ rfl rfl rfl ?_
    refine J_sub (ls' := []) [] rfl ?_
    exact k_X5_weeksForNine_j28 d _ _ h hR
  · have h := (if_pos c).symm.trans h
    refine J_seg ok_X5_weeksForNine 8 2 (pc' := 28) (ls' := [(2, .inl q3.1), (0, .inr (.inr (.inl x0))), (1, .inl x1)]) (st' := [.inl 0]) rfl ?_
    refine J_sub (ls' := []) [] rfl ?_
    exact k_X5_weeksForNine_j28 d _ _ h hR
theorem c_X5_weeksForNine (l : Launch) (g : GX) (d : Nat) {x0 : Option Nat} {x1 : Int32} {ah : AH} {q : Int32 × AH} (h : f_X5_weeksForNine x0 x1 ah = some q) : jM l g (d + 5) md_X5_weeksForNine [.inr (.inr (.inl x0)), .inl x1] ah (some (.inl q.1)) q.2 :=
  jM_of (by decide) (Nat.le_of_ble_eq_true rfl) (k_X5_weeksForNine d ah q h (fun pc ls hd => J_reti hd rfl (jPV_int _) rfl (Nat.le_refl _) rfl rfl))
def f_X5_mark (x0 : Option Nat) (x1 : Int32) (x2 : Int32) (ah : AH) : Option (Int32 × AH) :=
  (gR ah x0 5 8).bind fun v1 => if qO ah v1 1 = true then ((f_X1_has v1 x1 ah).bind fun q3 => if q3.1 = 0 then (some ((-1), q3.2)) else (if x2 < 1 then (some ((-1), q3.2)) else (if x2 ≤ 5 then ((gR q3.2 x0 5 8).bind fun v6 => if qO q3.2 v6 1 = true then ((f_X1_isOf v6 x1 x2 q3.2).bind fun q8 => if q8.1 = 0 then (if qO q8.2 x0 5 = true then ((f_X5_find x0 3 q8.2).bind fun q32 => some (q32.1, q32.2)) else none) else (if x2 = 1 then ((gR q8.2 x0 5 8).bind fun v11 => if qO q8.2 v11 1 = true then ((f_X1_power v11 x1 q8.2).bind fun q13 => some (q13.1, q13.2)) else none) else (if x2 = 2 then (if qO q8.2 x0 5 = true then ((f_X5_calmedBy x0 x1 q8.2).bind fun q16 => some (q16.1, q16.2)) else none) else (if x2 = 3 then ((gR q8.2 x0 5 8).bind fun v19 => if qO q8.2 v19 1 = true then ((f_X1_lovedBy v19 x1 q8.2).bind fun q21 => (f_J6_bitCount_0f7a4 q21.1 q21.2).bind fun q24 => some (q24.1, q24.2)) else none) else (if x2 = 4 then (if qO q8.2 x0 5 = true then ((f_X5_weeksForNine x0 x1 q8.2).bind fun q26 => some (q26.1, q26.2)) else none) else (if qO q8.2 x0 5 = true then ((f_X5_owesDuty x0 x1 q8.2).bind fun q29 => if q29.1 = 0 then (some (0, q29.2)) else (some (1, q29.2))) else none)))))) else none) else (some ((-1), q3.2))))) else none
set_option maxRecDepth 100000 in
set_option maxHeartbeats 4000000 in
theorem k_X5_mark {l : Launch} {g : GX} (d : Nat) {Q : jQ} {x0 : Option Nat} {x1 : Int32} {x2 : Int32} (ah : AH) (out : Int32 × AH) (h : f_X5_mark x0 x1 x2 ah = some out) (hR : jRetI l g md_X5_mark (jRm (d + 6) md_X5_mark) Q (0, 0) out.1 out.2) : J l g md_X5_mark (jRm (d + 6) md_X5_mark) Q 0 [(0, .inr (.inr (.inl x0))), (1, .inl x1), (2, .inl x2)] [] ah (0, 0) := by
  unfold f_X5_mark at h
  refine J_seg ok_X5_mark 0 1 (pc' := 1) (ls' := [(0, .inr (.inr (.inl x0))), (1, .inl x1), (2, .inl x2)]) (st' := [.inr (.inr (.inl x0))]) rfl ?_
  obtain ⟨v1, h2, h⟩ := Option.bind_eq_some_iff.mp h
  refine J_getR (jat ok_X5_mark 1 (pc := 1) (i := .getfield 53) (n := 3) rfl rfl) fl_RX5_53 h2 ?_
  refine J_seg ok_X5_mark 2 1 (pc' := 5) (ls' := [(0, .inr (.inr (.inl x0))), (1, .inl x1), (2, .inl x2)]) (st' := [.inl x1, .inr (.inr (.inl v1))]) rfl ?_
  by_cases c5 : qO ah v1 1 = true
  case neg => exact absurd ((if_neg c5).symm.trans h) (by simp)
  have h := (if_pos c5).symm.trans h
  obtain ⟨q3, h4, h⟩ := Option.bind_eq_some_iff.mp h
  refine J_callV (md' := md_X1_has) (As := [.inl x1]) (st := []) (cs' := (0, 0)) (st' := [.inl q3.1]) (jat ok_X5_mark 3 (pc := 5) (i := .invokevirtual 128) (n := 3) rfl rfl) ml_RX5_128 yv_X1_has c5 (c_X1_has l g (d + 5) h4) (jRo_of (by decide)) (Nat.le_of_ble_eq_true rfl) ⟨Nat.le_of_ble_eq_true rfl, Nat.le_of_ble_eq_true rfl⟩ rfl rfl rfl ?_
  refine J_eq0 (jat ok_X5_mark 4 (pc := 8) (i := .ifCond .eq 13) (n := 3) rfl rfl) (tgt := 21) (by decide) (fun c => ?_) (fun c => ?_)
  · have h := (if_pos c).symm.trans h
    refine J_seg ok_X5_mark 11 1 (pc' := 22) (ls' := [(0, .inr (.inr (.inl x0))), (1, .inl x1), (2, .inl x2)]) (st' := [.inl (-1)]) rfl ?_
    have h := Option.some.inj h
    subst h
    exact hR _ _ (jat ok_X5_mark 12 (pc := 22) (i := .ireturn) (n := 1) rfl rfl)
  · have h := (if_neg c).symm.trans h
    refine J_seg ok_X5_mark 5 2 (pc' := 13) (ls' := [(0, .inr (.inr (.inl x0))), (1, .inl x1), (2, .inl x2)]) (st' := [.inl 1, .inl x2]) rfl ?_
    refine J_lt (jat ok_X5_mark 7 (pc := 13) (i := .if_icmp .lt 8) (n := 3) rfl rfl) (tgt := 21) (by decide) (fun c => ?_) (fun c => ?_)
    · have h := (if_pos c).symm.trans h
      refine J_seg ok_X5_mark 11 1 (pc' := 22) (ls' := [(0, .inr (.inr (.inl x0))), (1, .inl x1), (2, .inl x2)]) (st' := [.inl (-1)]) rfl ?_
      have h := Option.some.inj h
      subst h
      exact hR _ _ (jat ok_X5_mark 12 (pc := 22) (i := .ireturn) (n := 1) rfl rfl)
    · have h := (if_neg c).symm.trans h
      refine J_seg ok_X5_mark 8 2 (pc' := 18) (ls' := [(0, .inr (.inr (.inl x0))), (1, .inl x1), (2, .inl x2)]) (st' := [.inl 5, .inl x2]) rfl ?_
      refine J_le (jat ok_X5_mark 10 (pc := 18) (i := .if_icmp .le 5) (n := 3) rfl rfl) (tgt := 23) (by decide) (fun c => ?_) (fun c => ?_)
      · have h := (if_pos c).symm.trans h
        refine J_seg ok_X5_mark 13 1 (pc' := 24) (ls' := [(0, .inr (.inr (.inl x0))), (1, .inl x1), (2, .inl x2)]) (st' := [.inr (.inr (.inl x0))]) rfl ?_
        obtain ⟨v6, h7, h⟩ := Option.bind_eq_some_iff.mp h
        refine J_getR (jat ok_X5_mark 14 (pc := 24) (i := .getfield 53) (n := 3) rfl rfl) fl_RX5_53 h7 ?_
        refine J_seg ok_X5_mark 15 2 (pc' := 29) (ls' := [(0, .inr (.inr (.inl x0))), (1, .inl x1), (2, .inl x2)]) (st' := [.inl x2, .inl x1, .inr (.inr (.inl v6))]) rfl ?_
        by_cases c10 : qO q3.2 v6 1 = true
        case neg => exact absurd ((if_neg c10).symm.trans h) (by simp)
        have h := (if_pos c10).symm.trans h
        obtain ⟨q8, h9, h⟩ := Option.bind_eq_some_iff.mp h
        refine J_callV (md' := md_X1_isOf) (As := [.inl x1, .inl x2]) (st := []) (cs' := (0, 0)) (st' := [.inl q8.1]) (jat ok_X5_mark 17 (pc := 29) (i := .invokevirtual 136) (n := 3) rfl rfl) ml_RX5_136 yv_X1_isOf c10 (c_X1_isOf l g (d + 3) h9) (jRo_of (by decide)) (Nat.le_of_ble_eq_true rfl) ⟨Nat.le_of_ble_eq_true rfl, Nat.le_of_ble_eq_true rfl⟩ rfl rfl rfl ?_
        refine J_ne0 (jat ok_X5_mark 18 (pc := 32) (i := .ifCond .ne 9) (n := 3) rfl rfl) (tgt := 41) (by decide) (fun c => ?_) (fun c => ?_)
        · have h := (if_neg c).symm.trans h
          refine J_seg ok_X5_mark 23 1 (pc' := 42) (ls' := [(0, .inr (.inr (.inl x0))), (1, .inl x1), (2, .inl x2)]) (st' := [.inl x2]) rfl ?_
          by_cases c0 : x2 = 1
          · have h := (if_pos c0).symm.trans h
            refine J_tabIn sw_X5_mark_42 (off := 30) (tgt := 72) (by rw [c0]; decide) (by rw [c0]; decide) (by rw [c0]; decide) (by decide) ?_
            refine J_seg ok_X5_mark 24 1 (pc' := 73) (ls' := [(0, .inr (.inr (.inl x0))), (1, .inl x1), (2, .inl x2)]) (st' := [.inr (.inr (.inl x0))]) rfl ?_
            obtain ⟨v11, h12, h⟩ := Option.bind_eq_some_iff.mp h
            refine J_getR (jat ok_X5_mark 25 (pc := 73) (i := .getfield 53) (n := 3) rfl rfl) fl_RX5_53 h12 ?_
            refine J_seg ok_X5_mark 26 1 (pc' := 77) (ls' := [(0, .inr (.inr (.inl x0))), (1, .inl x1), (2, .inl x2)]) (st' := [.inl x1, .inr (.inr (.inl v11))]) rfl ?_
            by_cases c15 : qO q8.2 v11 1 = true
            case neg => exact absurd ((if_neg c15).symm.trans h) (by simp)
            have h := (if_pos c15).symm.trans h
            obtain ⟨q13, h14, h⟩ := Option.bind_eq_some_iff.mp h
            refine J_callV (md' := md_X1_power) (As := [.inl x1]) (st := []) (cs' := (0, 0)) (st' := [.inl q13.1]) (jat ok_X5_mark 27 (pc := 77) (i := .invokevirtual 139) (n := 3) rfl rfl) ml_RX5_139 yv_X1_power c15 (c_X1_power l g (d + 2) h14) (jRo_of (by decide)) (Nat.le_of_ble_eq_true rfl) ⟨Nat.le_of_ble_eq_true rfl, Nat.le_of_ble_eq_true rfl⟩ rfl rfl rfl ?_
            have h := Option.some.inj h
            subst h
            exact hR _ _ (jat ok_X5_mark 28 (pc := 80) (i := .ireturn) (n := 1) rfl rfl)
          · have h := (if_neg c0).symm.trans h
            by_cases c1 : x2 = 2
            · have h := (if_pos c1).symm.trans h
              refine J_tabIn sw_X5_mark_42 (off := 39) (tgt := 81) (by rw [c1]; decide) (by rw [c1]; decide) (by rw [c1]; decide) (by decide) ?_
              refine J_seg ok_X5_mark 29 2 (pc' := 83) (ls' := [(0, .inr (.inr (.inl x0))), (1, .inl x1), (2, .inl x2)]) (st' := [.inl x1, .inr (.inr (.inl x0))]) rfl ?_
              by_cases c18 : qO q8.2 x0 5 = true
              case neg => exact absurd ((if_neg c18).symm.trans h) (by simp)
              have h := (if_pos c18).symm.trans h
              obtain ⟨q16, h17, h⟩ := Option.bind_eq_some_iff.mp h
              refine J_callV (md' := md_X5_calmedBy) (As := [.inl x1]) (st := []) (cs' := (0, 0)) (st' := [.inl q16.1]) (jat ok_X5_mark 31 (pc := 83) (i := .invokevirtual 142) (n := 3) rfl rfl) ml_RX5_142 yv_X5_calmedBy c18 (c_X5_calmedBy l g (d + 0) h17) (jRo_of (by decide)) (Nat.le_of_ble_eq_true rfl) ⟨Nat.le_of_ble_eq_true rfl, Nat.le_of_ble_eq_true rfl⟩ rfl rfl rfl ?_
              have h := Option.some.inj h
              subst h
              exact hR _ _ (jat ok_X5_mark 32 (pc := 86) (i := .ireturn) (n := 1) rfl rfl)
            · have h := (if_neg c1).symm.trans h
              by_cases c2 : x2 = 3
              · have h := (if_pos c2).symm.trans h
                refine J_tabIn sw_X5_mark_42 (off := 45) (tgt := 87) (by rw [c2]; decide) (by rw [c2]; decide) (by rw [c2]; decide) (by decide) ?_
                refine J_seg ok_X5_mark 33 1 (pc' := 88) (ls' := [(0, .inr (.inr (.inl x0))), (1, .inl x1), (2, .inl x2)]) (st' := [.inr (.inr (.inl x0))]) rfl ?_
                obtain ⟨v19, h20, h⟩ := Option.bind_eq_some_iff.mp h
                refine J_getR (jat ok_X5_mark 34 (pc := 88) (i := .getfield 53) (n := 3) rfl rfl) fl_RX5_53 h20 ?_
                refine J_seg ok_X5_mark 35 1 (pc' := 92) (ls' := [(0, .inr (.inr (.inl x0))), (1, .inl x1), (2, .inl x2)]) (st' := [.inl x1, .inr (.inr (.inl v19))]) rfl ?_
                by_cases c23 : qO q8.2 v19 1 = true
                case neg => exact absurd ((if_neg c23).symm.trans h) (by simp)
                have h := (if_pos c23).symm.trans h
                obtain ⟨q21, h22, h⟩ := Option.bind_eq_some_iff.mp h
                refine J_callV (md' := md_X1_lovedBy) (As := [.inl x1]) (st := []) (cs' := (0, 0)) (st' := [.inl q21.1]) (jat ok_X5_mark 36 (pc := 92) (i := .invokevirtual 145) (n := 3) rfl rfl) ml_RX5_145 yv_X1_lovedBy c23 (c_X1_lovedBy l g (d + 4) h22) (jRo_of (by decide)) (Nat.le_of_ble_eq_true rfl) ⟨Nat.le_of_ble_eq_true rfl, Nat.le_of_ble_eq_true rfl⟩ rfl rfl rfl ?_
                obtain ⟨q24, h25, h⟩ := Option.bind_eq_some_iff.mp h
                refine J_callS (md' := md_J6_bitCount_0f7a4) (As := [.inl q21.1]) (st := []) (cs' := (0, 0)) (st' := [.inl q24.1]) (jat ok_X5_mark 37 (pc := 95) (i := .invokestatic 148) (n := 3) rfl rfl) (Or.inl ml_RX5_148) ys_J6_bitCount_0f7a4 (c_J6_bitCount_0f7a4 l g (d + 5) h25) (jRo_of (by decide)) (Nat.le_of_ble_eq_true rfl) ⟨Nat.le_of_ble_eq_true rfl, Nat.le_of_ble_eq_true rfl⟩ rfl rfl rfl ?_
                have h := Option.some.inj h
                subst h
                exact hR _ _ (jat ok_X5_mark 38 (pc := 98) (i := .ireturn) (n := 1) rfl rfl)
              · have h := (if_neg c2).symm.trans h
                by_cases c3 : x2 = 4
                · have h := (if_pos c3).symm.trans h
                  refine J_tabIn sw_X5_mark_42 (off := 57) (tgt := 99) (by rw [c3]; decide) (by rw [c3]; decide) (by rw [c3]; decide) (by decide) ?_
                  refine J_seg ok_X5_mark 39 2 (pc' := 101) (ls' := [(0, .inr (.inr (.inl x0))), (1, .inl x1), (2, .inl x2)]) (st' := [.inl x1, .inr (.inr (.inl x0))]) rfl ?_
                  by_cases c28 : qO q8.2 x0 5 = true
                  case neg => exact absurd ((if_neg c28).symm.trans h) (by simp)
                  have h := (if_pos c28).symm.trans h
                  obtain ⟨q26, h27, h⟩ := Option.bind_eq_some_iff.mp h
                  refine J_callV (md' := md_X5_weeksForNine) (As := [.inl x1]) (st := []) (cs' := (0, 0)) (st' := [.inl q26.1]) (jat ok_X5_mark 41 (pc := 101) (i := .invokevirtual 153) (n := 3) rfl rfl) ml_RX5_153 yv_X5_weeksForNine c28 (c_X5_weeksForNine l g (d + 0) h27) (jRo_of (by decide)) (Nat.le_of_ble_eq_true rfl) ⟨Nat.le_of_ble_eq_true rfl, Nat.le_of_ble_eq_true rfl⟩ rfl rfl rfl ?_
                  have h := Option.some.inj h
                  subst h
                  exact hR _ _ (jat ok_X5_mark 42 (pc := 104) (i := .ireturn) (n := 1) rfl rfl)
                · have h := (if_neg c3).symm.trans h
                  have c0 := jtoInt_ne (n := 1) (by decide) c0
                  have c1 := jtoInt_ne (n := 2) (by decide) c1
                  have c2 := jtoInt_ne (n := 3) (by decide) c2
                  have c3 := jtoInt_ne (n := 4) (by decide) c3
                  refine J_tabOut sw_X5_mark_42 (tgt := 105) (by omega) (by decide) ?_
                  refine J_seg ok_X5_mark 43 2 (pc' := 107) (ls' := [(0, .inr (.inr (.inl x0))), (1, .inl x1), (2, .inl x2)]) (st' := [.inl x1, .inr (.inr (.inl x0))]) rfl ?_
                  by_cases c31 : qO q8.2 x0 5 = true
                  case neg => exact absurd ((if_neg c31).symm.trans h) (by simp)
                  have h := (if_pos c31).symm.trans h
                  obtain ⟨q29, h30, h⟩ := Option.bind_eq_some_iff.mp h
                  refine J_callV (md' := md_X5_owesDuty) (As := [.inl x1]) (st := []) (cs' := (0, 0)) (st' := [.inl q29.1]) (jat ok_X5_mark 45 (pc := 107) (i := .invokevirtual 156) (n := 3) rfl rfl) ml_RX5_156 yv_X5_owesDuty c31 (c_X5_owesDuty l g (d + 2) h30) (jRo_of (by decide)) (Nat.le_of_ble_eq_true rfl) ⟨Nat.le_of_ble_eq_true rfl, Nat.le_of_ble_eq_true rfl⟩ rfl rfl rfl ?_
                  refine J_eq0 (jat ok_X5_mark 46 (pc := 110) (i := .ifCond .eq 7) (n := 3) rfl rfl) (tgt := 117) (by decide) (fun c => ?_) (fun c => ?_)
                  · have h := (if_pos c).symm.trans h
                    refine J_seg ok_X5_mark 49 1 (pc' := 118) (ls' := [(0, .inr (.inr (.inl x0))), (1, .inl x1), (2, .inl x2)]) (st' := [.inl 0]) rfl ?_
                    have h := Option.some.inj h
                    subst h
                    exact hR _ _ (jat ok_X5_mark 50 (pc := 118) (i := .ireturn) (n := 1) rfl rfl)
                  · have h := (if_neg c).symm.trans h
                    refine J_seg ok_X5_mark 47 2 (pc' := 118) (ls' := [(0, .inr (.inr (.inl x0))), (1, .inl x1), (2, .inl x2)]) (st' := [.inl 1]) rfl ?_
                    have h := Option.some.inj h
                    subst h
                    exact hR _ _ (jat ok_X5_mark 50 (pc := 118) (i := .ireturn) (n := 1) rfl rfl)
        · have h := (if_pos c).symm.trans h
          refine J_seg ok_X5_mark 19 2 (pc' := 37) (ls' := [(0, .inr (.inr (.inl x0))), (1, .inl x1), (2, .inl x2)]) (st' := [.inl 3, .inr (.inr (.inl x0))]) rfl ?_
          by_cases c34 : qO q8.2 x0 5 = true
          case neg => exact absurd ((if_neg c34).symm.trans h) (by simp)
          have h := (if_pos c34).symm.trans h
          obtain ⟨q32, h33, h⟩ := Option.bind_eq_some_iff.mp h
          refine J_callV (md' := md_X5_find) (As := [.inl 3]) (st := []) (cs' := (0, 0)) (st' := [.inl q32.1]) (jat ok_X5_mark 21 (pc := 37) (i := .invokevirtual 75) (n := 3) rfl rfl) ml_RX5_75 yv_X5_find c34 (c_X5_find l g (d + 5) h33) (jRo_of (by decide)) (Nat.le_of_ble_eq_true rfl) ⟨Nat.le_of_ble_eq_true rfl, Nat.le_of_ble_eq_true rfl⟩ rfl rfl rfl ?_
          have h := Option.some.inj h
          subst h
          exact hR _ _ (jat ok_X5_mark 22 (pc := 40) (i := .ireturn) (n := 1) rfl rfl)
      · have h := (if_neg c).symm.trans h
        refine J_seg ok_X5_mark 11 1 (pc' := 22) (ls' := [(0, .inr (.inr (.inl x0))), (1, .inl x1), (2, .inl x2)]) (st' := [.inl (-1)]) rfl ?_
        have h := Option.some.inj h
        subst h
        exact hR _ _ (jat ok_X5_mark 12 (pc := 22) (i := .ireturn) (n := 1) rfl rfl)
theorem c_X5_mark (l : Launch) (g : GX) (d : Nat) {x0 : Option Nat} {x1 : Int32} {x2 : Int32} {ah : AH} {q : Int32 × AH} (h : f_X5_mark x0 x1 x2 ah = some q) : jM l g (d + 6) md_X5_mark [.inr (.inr (.inl x0)), .inl x1, .inl x2] ah (some (.inl q.1)) q.2 :=
  jM_of (by decide) (Nat.le_of_ble_eq_true rfl) (k_X5_mark d ah q h (fun pc ls hd => J_reti hd rfl (jPV_int _) rfl (Nat.le_refl _) rfl rfl))
def f_X5_isPair (x0 : Option Nat) (x1 : Int32) (x2 : Int32) (ah : AH) : Option (Int32 × AH) :=
  (gR ah x0 5 8).bind fun v1 => if qO ah v1 1 = true then ((f_X1_has v1 x1 ah).bind fun q3 => if q3.1 = 0 then (some (0, q3.2)) else ((gR q3.2 x0 5 8).bind fun v6 => if qO q3.2 v6 1 = true then ((f_X1_has v6 x2 q3.2).bind fun q8 => if q8.1 = 0 then (some (0, q8.2)) else (if x1 = x2 then (some (0, q8.2)) else (some (1, q8.2)))) else none)) else none
set_option maxRecDepth 100000 in
set_option maxHeartbeats 4000000 in
theorem k_X5_isPair {l : Launch} {g : GX} (d : Nat) {Q : jQ} {x0 : Option Nat} {x1 : Int32} {x2 : Int32} (ah : AH) (out : Int32 × AH) (h : f_X5_isPair x0 x1 x2 ah = some out) (hR : jRetZ l g md_X5_isPair (jRm (d + 1) md_X5_isPair) Q (0, 0) out.1 out.2) : J l g md_X5_isPair (jRm (d + 1) md_X5_isPair) Q 0 [(0, .inr (.inr (.inl x0))), (1, .inl x1), (2, .inl x2)] [] ah (0, 0) := by
  unfold f_X5_isPair at h
  refine J_seg ok_X5_isPair 0 1 (pc' := 1) (ls' := [(0, .inr (.inr (.inl x0))), (1, .inl x1), (2, .inl x2)]) (st' := [.inr (.inr (.inl x0))]) rfl ?_
  obtain ⟨v1, h2, h⟩ := Option.bind_eq_some_iff.mp h
  refine J_getR (jat ok_X5_isPair 1 (pc := 1) (i := .getfield 53) (n := 3) rfl rfl) fl_RX5_53 h2 ?_
  refine J_seg ok_X5_isPair 2 1 (pc' := 5) (ls' := [(0, .inr (.inr (.inl x0))), (1, .inl x1), (2, .inl x2)]) (st' := [.inl x1, .inr (.inr (.inl v1))]) rfl ?_
  by_cases c5 : qO ah v1 1 = true
  case neg => exact absurd ((if_neg c5).symm.trans h) (by simp)
  have h := (if_pos c5).symm.trans h
  obtain ⟨q3, h4, h⟩ := Option.bind_eq_some_iff.mp h
  refine J_callV (md' := md_X1_has) (As := [.inl x1]) (st := []) (cs' := (0, 0)) (st' := [.inl q3.1]) (jat ok_X5_isPair 3 (pc := 5) (i := .invokevirtual 128) (n := 3) rfl rfl) ml_RX5_128 yv_X1_has c5 (c_X1_has l g (d + 0) h4) (jRo_of (by decide)) (Nat.le_of_ble_eq_true rfl) ⟨Nat.le_of_ble_eq_true rfl, Nat.le_of_ble_eq_true rfl⟩ rfl rfl rfl ?_
  refine J_eq0 (jat ok_X5_isPair 4 (pc := 8) (i := .ifCond .eq 23) (n := 3) rfl rfl) (tgt := 31) (by decide) (fun c => ?_) (fun c => ?_)
  · have h := (if_pos c).symm.trans h
    refine J_seg ok_X5_isPair 15 1 (pc' := 32) (ls' := [(0, .inr (.inr (.inl x0))), (1, .inl x1), (2, .inl x2)]) (st' := [.inl 0]) rfl ?_
    have h := Option.some.inj h
    subst h
    exact hR _ _ (jat ok_X5_isPair 16 (pc := 32) (i := .ireturn) (n := 1) rfl rfl) (Or.inl rfl)
  · have h := (if_neg c).symm.trans h
    refine J_seg ok_X5_isPair 5 1 (pc' := 12) (ls' := [(0, .inr (.inr (.inl x0))), (1, .inl x1), (2, .inl x2)]) (st' := [.inr (.inr (.inl x0))]) rfl ?_
    obtain ⟨v6, h7, h⟩ := Option.bind_eq_some_iff.mp h
    refine J_getR (jat ok_X5_isPair 6 (pc := 12) (i := .getfield 53) (n := 3) rfl rfl) fl_RX5_53 h7 ?_
    refine J_seg ok_X5_isPair 7 1 (pc' := 16) (ls' := [(0, .inr (.inr (.inl x0))), (1, .inl x1), (2, .inl x2)]) (st' := [.inl x2, .inr (.inr (.inl v6))]) rfl ?_
    by_cases c10 : qO q3.2 v6 1 = true
    case neg => exact absurd ((if_neg c10).symm.trans h) (by simp)
    have h := (if_pos c10).symm.trans h
    obtain ⟨q8, h9, h⟩ := Option.bind_eq_some_iff.mp h
    refine J_callV (md' := md_X1_has) (As := [.inl x2]) (st := []) (cs' := (0, 0)) (st' := [.inl q8.1]) (jat ok_X5_isPair 8 (pc := 16) (i := .invokevirtual 128) (n := 3) rfl rfl) ml_RX5_128 yv_X1_has c10 (c_X1_has l g (d + 0) h9) (jRo_of (by decide)) (Nat.le_of_ble_eq_true rfl) ⟨Nat.le_of_ble_eq_true rfl, Nat.le_of_ble_eq_true rfl⟩ rfl rfl rfl ?_
    refine J_eq0 (jat ok_X5_isPair 9 (pc := 19) (i := .ifCond .eq 12) (n := 3) rfl rfl) (tgt := 31) (by decide) (fun c => ?_) (fun c => ?_)
    · have h := (if_pos c).symm.trans h
      refine J_seg ok_X5_isPair 15 1 (pc' := 32) (ls' := [(0, .inr (.inr (.inl x0))), (1, .inl x1), (2, .inl x2)]) (st' := [.inl 0]) rfl ?_
      have h := Option.some.inj h
      subst h
      exact hR _ _ (jat ok_X5_isPair 16 (pc := 32) (i := .ireturn) (n := 1) rfl rfl) (Or.inl rfl)
    · have h := (if_neg c).symm.trans h
      refine J_seg ok_X5_isPair 10 2 (pc' := 24) (ls' := [(0, .inr (.inr (.inl x0))), (1, .inl x1), (2, .inl x2)]) (st' := [.inl x2, .inl x1]) rfl ?_
      refine J_eq (jat ok_X5_isPair 12 (pc := 24) (i := .if_icmp .eq 7) (n := 3) rfl rfl) (tgt := 31) (by decide) (fun c => ?_) (fun c => ?_)
      · have h := (if_pos c).symm.trans h
        refine J_seg ok_X5_isPair 15 1 (pc' := 32) (ls' := [(0, .inr (.inr (.inl x0))), (1, .inl x1), (2, .inl x2)]) (st' := [.inl 0]) rfl ?_
        have h := Option.some.inj h
        subst h
        exact hR _ _ (jat ok_X5_isPair 16 (pc := 32) (i := .ireturn) (n := 1) rfl rfl) (Or.inl rfl)
      · have h := (if_neg c).symm.trans h
        refine J_seg ok_X5_isPair 13 2 (pc' := 32) (ls' := [(0, .inr (.inr (.inl x0))), (1, .inl x1), (2, .inl x2)]) (st' := [.inl 1]) rfl ?_
        have h := Option.some.inj h
        subst h
        exact hR _ _ (jat ok_X5_isPair 16 (pc := 32) (i := .ireturn) (n := 1) rfl rfl) (Or.inr rfl)
theorem c_X5_isPair (l : Launch) (g : GX) (d : Nat) {x0 : Option Nat} {x1 : Int32} {x2 : Int32} {ah : AH} {q : Int32 × AH} (h : f_X5_isPair x0 x1 x2 ah = some q) : jM l g (d + 1) md_X5_isPair [.inr (.inr (.inl x0)), .inl x1, .inl x2] ah (some (.inl q.1)) q.2 :=
  jM_of (by decide) (Nat.le_of_ble_eq_true rfl) (k_X5_isPair d ah q h (fun pc ls hd c => J_reti hd rfl (jPV_z c) rfl (Nat.le_refl _) rfl rfl))
def f_X5_strength (x0 : Option Nat) (x1 : Int32) (x2 : Int32) (ah : AH) : Option (Int32 × AH) :=
  if qO ah x0 5 = true then ((f_X5_isPair x0 x1 x2 ah).bind fun q1 => if q1.1 = 0 then (some ((-1), q1.2)) else ((gR q1.2 x0 5 8).bind fun v4 => if qO q1.2 v4 1 = true then ((f_X1_against v4 x1 x2 q1.2).bind fun q6 => some (q6.1, q6.2)) else none)) else none
set_option maxRecDepth 100000 in
set_option maxHeartbeats 4000000 in
theorem k_X5_strength {l : Launch} {g : GX} (d : Nat) {Q : jQ} {x0 : Option Nat} {x1 : Int32} {x2 : Int32} (ah : AH) (out : Int32 × AH) (h : f_X5_strength x0 x1 x2 ah = some out) (hR : jRetI l g md_X5_strength (jRm (d + 5) md_X5_strength) Q (0, 0) out.1 out.2) : J l g md_X5_strength (jRm (d + 5) md_X5_strength) Q 0 [(0, .inr (.inr (.inl x0))), (1, .inl x1), (2, .inl x2)] [] ah (0, 0) := by
  unfold f_X5_strength at h
  refine J_seg ok_X5_strength 0 3 (pc' := 3) (ls' := [(0, .inr (.inr (.inl x0))), (1, .inl x1), (2, .inl x2)]) (st' := [.inl x2, .inl x1, .inr (.inr (.inl x0))]) rfl ?_
  by_cases c3 : qO ah x0 5 = true
  case neg => exact absurd ((if_neg c3).symm.trans h) (by simp)
  have h := (if_pos c3).symm.trans h
  obtain ⟨q1, h2, h⟩ := Option.bind_eq_some_iff.mp h
  refine J_callV (md' := md_X5_isPair) (As := [.inl x1, .inl x2]) (st := []) (cs' := (0, 0)) (st' := [.inl q1.1]) (jat ok_X5_strength 3 (pc := 3) (i := .invokevirtual 159) (n := 3) rfl rfl) ml_RX5_159 yv_X5_isPair c3 (c_X5_isPair l g (d + 3) h2) (jRo_of (by decide)) (Nat.le_of_ble_eq_true rfl) ⟨Nat.le_of_ble_eq_true rfl, Nat.le_of_ble_eq_true rfl⟩ rfl rfl rfl ?_
  refine J_eq0 (jat ok_X5_strength 4 (pc := 6) (i := .ifCond .eq 15) (n := 3) rfl rfl) (tgt := 21) (by decide) (fun c => ?_) (fun c => ?_)
  · have h := (if_pos c).symm.trans h
    refine J_seg ok_X5_strength 11 1 (pc' := 22) (ls' := [(0, .inr (.inr (.inl x0))), (1, .inl x1), (2, .inl x2)]) (st' := [.inl (-1)]) rfl ?_
    have h := Option.some.inj h
    subst h
    exact hR _ _ (jat ok_X5_strength 12 (pc := 22) (i := .ireturn) (n := 1) rfl rfl)
  · have h := (if_neg c).symm.trans h
    refine J_seg ok_X5_strength 5 1 (pc' := 10) (ls' := [(0, .inr (.inr (.inl x0))), (1, .inl x1), (2, .inl x2)]) (st' := [.inr (.inr (.inl x0))]) rfl ?_
    obtain ⟨v4, h5, h⟩ := Option.bind_eq_some_iff.mp h
    refine J_getR (jat ok_X5_strength 6 (pc := 10) (i := .getfield 53) (n := 3) rfl rfl) fl_RX5_53 h5 ?_
    refine J_seg ok_X5_strength 7 2 (pc' := 15) (ls' := [(0, .inr (.inr (.inl x0))), (1, .inl x1), (2, .inl x2)]) (st' := [.inl x2, .inl x1, .inr (.inr (.inl v4))]) rfl ?_
    by_cases c8 : qO q1.2 v4 1 = true
    case neg => exact absurd ((if_neg c8).symm.trans h) (by simp)
    have h := (if_pos c8).symm.trans h
    obtain ⟨q6, h7, h⟩ := Option.bind_eq_some_iff.mp h
    refine J_callV (md' := md_X1_against) (As := [.inl x1, .inl x2]) (st := []) (cs' := (0, 0)) (st' := [.inl q6.1]) (jat ok_X5_strength 9 (pc := 15) (i := .invokevirtual 162) (n := 3) rfl rfl) ml_RX5_162 yv_X1_against c8 (c_X1_against l g (d + 0) h7) (jRo_of (by decide)) (Nat.le_of_ble_eq_true rfl) ⟨Nat.le_of_ble_eq_true rfl, Nat.le_of_ble_eq_true rfl⟩ rfl rfl rfl ?_
    refine J_seg ok_X5_strength 10 1 (pc' := 22) (ls' := [(0, .inr (.inr (.inl x0))), (1, .inl x1), (2, .inl x2)]) (st' := [.inl q6.1]) rfl ?_
    have h := Option.some.inj h
    subst h
    exact hR _ _ (jat ok_X5_strength 12 (pc := 22) (i := .ireturn) (n := 1) rfl rfl)
theorem c_X5_strength (l : Launch) (g : GX) (d : Nat) {x0 : Option Nat} {x1 : Int32} {x2 : Int32} {ah : AH} {q : Int32 × AH} (h : f_X5_strength x0 x1 x2 ah = some q) : jM l g (d + 5) md_X5_strength [.inr (.inr (.inl x0)), .inl x1, .inl x2] ah (some (.inl q.1)) q.2 :=
  jM_of (by decide) (Nat.le_of_ble_eq_true rfl) (k_X5_strength d ah q h (fun pc ls hd => J_reti hd rfl (jPV_int _) rfl (Nat.le_refl _) rfl rfl))
def f_X5_isAct (x0 : Option Nat) (x1 : Int32) (x2 : Int32) (ah : AH) : Option (Int32 × AH) :=
  if x2 = 2 then ((gR ah x0 5 3).bind fun v1 => if qO ah v1 4 = true then ((f_X4_victimOf v1 x1 ah).bind fun q3 => if q3.1 = (-9) then (some (0, q3.2)) else (some (1, q3.2))) else none) else (if x2 = 0 then (some (1, ah)) else (if x2 = 1 then (some (1, ah)) else (some (0, ah))))
set_option maxRecDepth 100000 in
set_option maxHeartbeats 4000000 in
theorem k_X5_isAct {l : Launch} {g : GX} (d : Nat) {Q : jQ} {x0 : Option Nat} {x1 : Int32} {x2 : Int32} (ah : AH) (out : Int32 × AH) (h : f_X5_isAct x0 x1 x2 ah = some out) (hR : jRetZ l g md_X5_isAct (jRm (d + 2) md_X5_isAct) Q (0, 0) out.1 out.2) : J l g md_X5_isAct (jRm (d + 2) md_X5_isAct) Q 0 [(0, .inr (.inr (.inl x0))), (1, .inl x1), (2, .inl x2)] [] ah (0, 0) := by
  unfold f_X5_isAct at h
  refine J_seg ok_X5_isAct 0 2 (pc' := 2) (ls' := [(0, .inr (.inr (.inl x0))), (1, .inl x1), (2, .inl x2)]) (st' := [.inl 2, .inl x2]) rfl ?_
  refine J_ne (jat ok_X5_isAct 2 (pc := 2) (i := .if_icmp .ne 22) (n := 3) rfl rfl) (tgt := 24) (by decide) (fun c => ?_) (fun c => ?_)
  · have h := (if_neg c).symm.trans h
    refine J_seg ok_X5_isAct 13 1 (pc' := 25) (ls' := [(0, .inr (.inr (.inl x0))), (1, .inl x1), (2, .inl x2)]) (st' := [.inl x2]) rfl ?_
    refine J_eq0 (jat ok_X5_isAct 14 (pc := 25) (i := .ifCond .eq 8) (n := 3) rfl rfl) (tgt := 33) (by decide) (fun c => ?_) (fun c => ?_)
    · have h := (if_pos c).symm.trans h
      refine J_seg ok_X5_isAct 18 2 (pc' := 38) (ls' := [(0, .inr (.inr (.inl x0))), (1, .inl x1), (2, .inl x2)]) (st' := [.inl 1]) rfl ?_
      have h := Option.some.inj h
      subst h
      exact hR _ _ (jat ok_X5_isAct 21 (pc := 38) (i := .ireturn) (n := 1) rfl rfl) (Or.inr rfl)
    · have h := (if_neg c).symm.trans h
      refine J_seg ok_X5_isAct 15 2 (pc' := 30) (ls' := [(0, .inr (.inr (.inl x0))), (1, .inl x1), (2, .inl x2)]) (st' := [.inl 1, .inl x2]) rfl ?_
      refine J_ne (jat ok_X5_isAct 17 (pc := 30) (i := .if_icmp .ne 7) (n := 3) rfl rfl) (tgt := 37) (by decide) (fun c => ?_) (fun c => ?_)
      · have h := (if_neg c).symm.trans h
        refine J_seg ok_X5_isAct 20 1 (pc' := 38) (ls' := [(0, .inr (.inr (.inl x0))), (1, .inl x1), (2, .inl x2)]) (st' := [.inl 0]) rfl ?_
        have h := Option.some.inj h
        subst h
        exact hR _ _ (jat ok_X5_isAct 21 (pc := 38) (i := .ireturn) (n := 1) rfl rfl) (Or.inl rfl)
      · have h := (if_pos c).symm.trans h
        refine J_seg ok_X5_isAct 18 2 (pc' := 38) (ls' := [(0, .inr (.inr (.inl x0))), (1, .inl x1), (2, .inl x2)]) (st' := [.inl 1]) rfl ?_
        have h := Option.some.inj h
        subst h
        exact hR _ _ (jat ok_X5_isAct 21 (pc := 38) (i := .ireturn) (n := 1) rfl rfl) (Or.inr rfl)
  · have h := (if_pos c).symm.trans h
    refine J_seg ok_X5_isAct 3 1 (pc' := 6) (ls' := [(0, .inr (.inr (.inl x0))), (1, .inl x1), (2, .inl x2)]) (st' := [.inr (.inr (.inl x0))]) rfl ?_
    obtain ⟨v1, h2, h⟩ := Option.bind_eq_some_iff.mp h
    refine J_getR (jat ok_X5_isAct 4 (pc := 6) (i := .getfield 28) (n := 3) rfl rfl) fl_RX5_28 h2 ?_
    refine J_seg ok_X5_isAct 5 1 (pc' := 10) (ls' := [(0, .inr (.inr (.inl x0))), (1, .inl x1), (2, .inl x2)]) (st' := [.inl x1, .inr (.inr (.inl v1))]) rfl ?_
    by_cases c5 : qO ah v1 4 = true
    case neg => exact absurd ((if_neg c5).symm.trans h) (by simp)
    have h := (if_pos c5).symm.trans h
    obtain ⟨q3, h4, h⟩ := Option.bind_eq_some_iff.mp h
    refine J_callV (md' := md_X4_victimOf) (As := [.inl x1]) (st := []) (cs' := (0, 0)) (st' := [.inl q3.1]) (jat ok_X5_isAct 6 (pc := 10) (i := .invokevirtual 178) (n := 3) rfl rfl) ml_RX5_178 yv_X4_victimOf c5 (c_X4_victimOf l g (d + 0) h4) (jRo_of (by decide)) (Nat.le_of_ble_eq_true rfl) ⟨Nat.le_of_ble_eq_true rfl, Nat.le_of_ble_eq_true rfl⟩ rfl rfl rfl ?_
    refine J_seg ok_X5_isAct 7 1 (pc' := 15) (ls' := [(0, .inr (.inr (.inl x0))), (1, .inl x1), (2, .inl x2)]) (st' := [.inl (-9), .inl q3.1]) rfl ?_
    refine J_eq (jat ok_X5_isAct 8 (pc := 15) (i := .if_icmp .eq 7) (n := 3) rfl rfl) (tgt := 22) (by decide) (fun c => ?_) (fun c => ?_)
    · have h := (if_pos c).symm.trans h
      refine J_seg ok_X5_isAct 11 1 (pc' := 23) (ls' := [(0, .inr (.inr (.inl x0))), (1, .inl x1), (2, .inl x2)]) (st' := [.inl 0]) rfl ?_
      have h := Option.some.inj h
      subst h
      exact hR _ _ (jat ok_X5_isAct 12 (pc := 23) (i := .ireturn) (n := 1) rfl rfl) (Or.inl rfl)
    · have h := (if_neg c).symm.trans h
      refine J_seg ok_X5_isAct 9 2 (pc' := 23) (ls' := [(0, .inr (.inr (.inl x0))), (1, .inl x1), (2, .inl x2)]) (st' := [.inl 1]) rfl ?_
      have h := Option.some.inj h
      subst h
      exact hR _ _ (jat ok_X5_isAct 12 (pc := 23) (i := .ireturn) (n := 1) rfl rfl) (Or.inr rfl)
theorem c_X5_isAct (l : Launch) (g : GX) (d : Nat) {x0 : Option Nat} {x1 : Int32} {x2 : Int32} {ah : AH} {q : Int32 × AH} (h : f_X5_isAct x0 x1 x2 ah = some q) : jM l g (d + 2) md_X5_isAct [.inr (.inr (.inl x0)), .inl x1, .inl x2] ah (some (.inl q.1)) q.2 :=
  jM_of (by decide) (Nat.le_of_ble_eq_true rfl) (k_X5_isAct d ah q h (fun pc ls hd c => J_reti hd rfl (jPV_z c) rfl (Nat.le_refl _) rfl rfl))
def f_X5_fineIdle_b2 (k0 : Option Nat) (s2 : Int32) (ah : AH) : Option ((Unit × AH) ⊕ (((Unit) × AH) ⊕ ((Int32) × AH))) :=
  (gR ah k0 5 8).bind fun v1 => (gI ah v1 1 5).bind fun v3 => if v3 ≤ s2 then (some (.inr (.inl ((), ah)))) else (if 6 ≤ s2 then (some (.inr (.inl ((), ah)))) else ((gR ah k0 5 6).bind fun v5 => (gA ah v5 s2).bind fun v7 => if v7 = 2 then (some (.inr (.inr (s2 + 1, ah)))) else (if qO ah k0 5 = true then ((f_X5_owesDuty k0 s2 ah).bind fun q9 => if q9.1 = 0 then (some (.inr (.inr (s2 + 1, q9.2)))) else ((gR q9.2 k0 5 3).bind fun v12 => if qO q9.2 v12 4 = true then ((f_X4_fine v12 s2 q9.2).bind fun q14 => some (.inr (.inr (s2 + 1, q14.2)))) else none)) else none)))
set_option maxRecDepth 100000 in
set_option maxHeartbeats 4000000 in
theorem k_X5_fineIdle_b2 {l : Launch} {g : GX} (d : Nat) {Q : jQ} {k0 : Option Nat} (s2 : Int32) (ah : AH) (out : (Unit × AH) ⊕ (((Unit) × AH) ⊕ ((Int32) × AH))) (h : f_X5_fineIdle_b2 k0 s2 ah = some out) (hR : ∀ q, out = .inl q → jRetN q.1 q.2) (hX : ∀ q, out = .inr (.inl q) → J l g md_X5_fineIdle (jRm (d + 4) md_X5_fineIdle) Q 51 [] [] q.2 (0, 0)) (hN : ∀ q, out = .inr (.inr q) → J l g md_X5_fineIdle (jRm (d + 4) md_X5_fineIdle) Q 2 [(0, .inr (.inr (.inl k0))), (1, .inl q.1)] [] q.2 (0, 0)) : J l g md_X5_fineIdle (jRm (d + 4) md_X5_fineIdle) Q 2 [(0, .inr (.inr (.inl k0))), (1, .inl s2)] [] ah (0, 0) := by
  unfold f_X5_fineIdle_b2 at h
  refine J_seg ok_X5_fineIdle 2 2 (pc' := 4) (ls' := [(0, .inr (.inr (.inl k0))), (1, .inl s2)]) (st' := [.inr (.inr (.inl k0)), .inl s2]) rfl ?_
  obtain ⟨v1, h2, h⟩ := Option.bind_eq_some_iff.mp h
  refine J_getR (jat ok_X5_fineIdle 4 (pc := 4) (i := .getfield 53) (n := 3) rfl rfl) fl_RX5_53 h2 ?_
  obtain ⟨v3, h4, h⟩ := Option.bind_eq_some_iff.mp h
  refine J_getI (jat ok_X5_fineIdle 5 (pc := 7) (i := .getfield 127) (n := 3) rfl rfl) fl_RX5_127 h4 ?_
  refine J_ge (jat ok_X5_fineIdle 6 (pc := 10) (i := .if_icmp .ge 41) (n := 3) rfl rfl) (tgt := 51) (by decide) (fun c => ?_) (fun c => ?_)
  · have h := (if_pos c).symm.trans h
    exact J_sub (ls' := []) [] rfl (hX ((), ah) (Option.some.inj h).symm)
  · have h := (if_neg c).symm.trans h
    refine J_seg ok_X5_fineIdle 7 2 (pc' := 16) (ls' := [(0, .inr (.inr (.inl k0))), (1, .inl s2)]) (st' := [.inl 6, .inl s2]) rfl ?_
    refine J_ge (jat ok_X5_fineIdle 9 (pc := 16) (i := .if_icmp .ge 35) (n := 3) rfl rfl) (tgt := 51) (by decide) (fun c => ?_) (fun c => ?_)
    · have h := (if_pos c).symm.trans h
      exact J_sub (ls' := []) [] rfl (hX ((), ah) (Option.some.inj h).symm)
    · have h := (if_neg c).symm.trans h
      refine J_seg ok_X5_fineIdle 10 1 (pc' := 20) (ls' := [(0, .inr (.inr (.inl k0))), (1, .inl s2)]) (st' := [.inr (.inr (.inl k0))]) rfl ?_
      obtain ⟨v5, h6, h⟩ := Option.bind_eq_some_iff.mp h
      refine J_getR (jat ok_X5_fineIdle 11 (pc := 20) (i := .getfield 43) (n := 3) rfl rfl) fl_RX5_43 h6 ?_
      refine J_seg ok_X5_fineIdle 12 1 (pc' := 24) (ls' := [(0, .inr (.inr (.inl k0))), (1, .inl s2)]) (st' := [.inl s2, .inr (.inr (.inl v5))]) rfl ?_
      obtain ⟨v7, h8, h⟩ := Option.bind_eq_some_iff.mp h
      refine J_iald (jat ok_X5_fineIdle 13 (pc := 24) (i := .iaload) (n := 1) rfl rfl) h8 ?_
      refine J_seg ok_X5_fineIdle 14 1 (pc' := 26) (ls' := [(0, .inr (.inr (.inl k0))), (1, .inl s2)]) (st' := [.inl 2, .inl v7]) rfl ?_
      refine J_eq (jat ok_X5_fineIdle 15 (pc := 26) (i := .if_icmp .eq 19) (n := 3) rfl rfl) (tgt := 45) (by decide) (fun c => ?_) (fun c => ?_)
      · have h := (if_pos c).symm.trans h
        refine J_seg ok_X5_fineIdle 24 2 (pc' := 2) (ls' := [(1, .inl (s2 + 1)), (0, .inr (.inr (.inl k0)))]) (st' := []) rfl ?_
        exact J_sub (ls' := [(0, .inr (.inr (.inl k0))), (1, .inl (s2 + 1))]) [1, 0] rfl (hN (s2 + 1, ah) (Option.some.inj h).symm)
      · have h := (if_neg c).symm.trans h
        refine J_seg ok_X5_fineIdle 16 2 (pc' := 31) (ls' := [(0, .inr (.inr (.inl k0))), (1, .inl s2)]) (st' := [.inl s2, .inr (.inr (.inl k0))]) rfl ?_
        by_cases c11 : qO ah k0 5 = true
        case neg => exact absurd ((if_neg c11).symm.trans h) (by simp)
        have h := (if_pos c11).symm.trans h
        obtain ⟨q9, h10, h⟩ := Option.bind_eq_some_iff.mp h
        refine J_callV (md' := md_X5_owesDuty) (As := [.inl s2]) (st := []) (cs' := (0, 0)) (st' := [.inl q9.1]) (jat ok_X5_fineIdle 18 (pc := 31) (i := .invokevirtual 156) (n := 3) rfl rfl) ml_RX5_156 yv_X5_owesDuty c11 (c_X5_owesDuty l g (d + 0) h10) (jRo_of (by decide)) (Nat.le_of_ble_eq_true rfl) ⟨Nat.le_of_ble_eq_true rfl, Nat.le_of_ble_eq_true rfl⟩ rfl rfl rfl ?_
        refine J_eq0 (jat ok_X5_fineIdle 19 (pc := 34) (i := .ifCond .eq 11) (n := 3) rfl rfl) (tgt := 45) (by decide) (fun c => ?_) (fun c => ?_)
        · have h := (if_pos c).symm.trans h
          refine J_seg ok_X5_fineIdle 24 2 (pc' := 2) (ls' := [(1, .inl (s2 + 1)), (0, .inr (.inr (.inl k0)))]) (st' := []) rfl ?_
          exact J_sub (ls' := [(0, .inr (.inr (.inl k0))), (1, .inl (s2 + 1))]) [1, 0] rfl (hN (s2 + 1, q9.2) (Option.some.inj h).symm)
        · have h := (if_neg c).symm.trans h
          refine J_seg ok_X5_fineIdle 20 1 (pc' := 38) (ls' := [(0, .inr (.inr (.inl k0))), (1, .inl s2)]) (st' := [.inr (.inr (.inl k0))]) rfl ?_
          obtain ⟨v12, h13, h⟩ := Option.bind_eq_some_iff.mp h
          refine J_getR (jat ok_X5_fineIdle 21 (pc := 38) (i := .getfield 28) (n := 3) rfl rfl) fl_RX5_28 h13 ?_
          refine J_seg ok_X5_fineIdle 22 1 (pc' := 42) (ls' := [(0, .inr (.inr (.inl k0))), (1, .inl s2)]) (st' := [.inl s2, .inr (.inr (.inl v12))]) rfl ?_
          by_cases c16 : qO q9.2 v12 4 = true
          case neg => exact absurd ((if_neg c16).symm.trans h) (by simp)
          have h := (if_pos c16).symm.trans h
          obtain ⟨q14, h15, h⟩ := Option.bind_eq_some_iff.mp h
          refine J_callV (md' := md_X4_fine) (As := [.inl s2]) (st := []) (cs' := (0, 0)) (st' := []) (jat ok_X5_fineIdle 23 (pc := 42) (i := .invokevirtual 347) (n := 3) rfl rfl) ml_RX5_347 yv_X4_fine c16 (c_X4_fine l g (d + 2) h15) (jRo_of (by decide)) (Nat.le_of_ble_eq_true rfl) ⟨Nat.le_of_ble_eq_true rfl, Nat.le_of_ble_eq_true rfl⟩ rfl rfl rfl ?_
          refine J_seg ok_X5_fineIdle 24 2 (pc' := 2) (ls' := [(1, .inl (s2 + 1)), (0, .inr (.inr (.inl k0)))]) (st' := []) rfl ?_
          exact J_sub (ls' := [(0, .inr (.inr (.inl k0))), (1, .inl (s2 + 1))]) [1, 0] rfl (hN (s2 + 1, q14.2) (Option.some.inj h).symm)
def f_X5_fineIdle (x0 : Option Nat) (ah : AH) : Option (Unit × AH) :=
  (jloop (f_X5_fineIdle_b2 x0) jfuel 0 ah).bind fun q17 => match q17 with | .inl r => none | .inr z19 => some ((), z19.2)
set_option maxRecDepth 100000 in
set_option maxHeartbeats 4000000 in
theorem k_X5_fineIdle {l : Launch} {g : GX} (d : Nat) {Q : jQ} {x0 : Option Nat} (ah : AH) (out : Unit × AH) (h : f_X5_fineIdle x0 ah = some out) (hR : jRetV l g md_X5_fineIdle (jRm (d + 4) md_X5_fineIdle) Q (0, 0) out.1 out.2) : J l g md_X5_fineIdle (jRm (d + 4) md_X5_fineIdle) Q 0 [(0, .inr (.inr (.inl x0)))] [] ah (0, 0) := by
  unfold f_X5_fineIdle at h
  refine J_seg ok_X5_fineIdle 0 2 (pc' := 2) (ls' := [(1, .inl 0), (0, .inr (.inr (.inl x0)))]) (st' := []) rfl ?_
  obtain ⟨q17, h18, h⟩ := Option.bind_eq_some_iff.mp h
  refine J_sub (ls' := [(0, .inr (.inr (.inl x0))), (1, .inl 0)]) [1, 0] rfl ?_
  refine J_loop (pE := 51) (lh := fun t20 => [(0, .inr (.inr (.inl x0))), (1, .inl t20)]) (lx := fun z19 => []) (P := jRetN) (fun s ah out hb hR hX hN => k_X5_fineIdle_b2 d s ah out hb hR hX hN) jfuel 0 _ _ h18 (fun r e => ?_) (fun z19 e => ?_)
  · subst e
    dsimp only at h
    cases h
  · subst e
    dsimp only at h
    have h := Option.some.inj h
    subst h
    exact hR _ _ (jat ok_X5_fineIdle 26 (pc := 51) (i := .return_) (n := 1) rfl rfl)
theorem c_X5_fineIdle (l : Launch) (g : GX) (d : Nat) {x0 : Option Nat} {ah : AH} {q : Unit × AH} (h : f_X5_fineIdle x0 ah = some q) : jM l g (d + 4) md_X5_fineIdle [.inr (.inr (.inl x0))] ah none q.2 :=
  jM_of (by decide) (Nat.le_of_ble_eq_true rfl) (k_X5_fineIdle d ah q h (fun pc ls hd => J_retv hd rfl rfl (Nat.le_refl _) rfl rfl))
def f_X5_reachedSet_b4 (k0 : Option Nat) (s4 : Int32 × Int32) (ah : AH) : Option ((Unit × AH) ⊕ (((Int32) × AH) ⊕ ((Int32 × Int32) × AH))) :=
  (gR ah k0 5 8).bind fun v1 => (gI ah v1 1 5).bind fun v3 => if v3 ≤ s4.2 then (some (.inr (.inl (s4.1, ah)))) else (if qO ah k0 5 = true then ((f_X5_hasReached k0 s4.2 ah).bind fun q5 => if q5.1 = 0 then (some (.inr (.inr ((s4.1, s4.2 + 1), q5.2)))) else (some (.inr (.inr ((s4.1 ||| (1 <<< (s4.2 &&& 31)), s4.2 + 1), q5.2))))) else none)
set_option maxRecDepth 100000 in
set_option maxHeartbeats 4000000 in
theorem k_X5_reachedSet_b4 {l : Launch} {g : GX} (d : Nat) {Q : jQ} {k0 : Option Nat} (s4 : Int32 × Int32) (ah : AH) (out : (Unit × AH) ⊕ (((Int32) × AH) ⊕ ((Int32 × Int32) × AH))) (h : f_X5_reachedSet_b4 k0 s4 ah = some out) (hR : ∀ q, out = .inl q → jRetN q.1 q.2) (hX : ∀ q, out = .inr (.inl q) → J l g md_X5_reachedSet (jRm (d + 3) md_X5_reachedSet) Q 35 [(1, .inl q.1)] [] q.2 (0, 0)) (hN : ∀ q, out = .inr (.inr q) → J l g md_X5_reachedSet (jRm (d + 3) md_X5_reachedSet) Q 4 [(0, .inr (.inr (.inl k0))), (1, .inl q.1.1), (2, .inl q.1.2)] [] q.2 (0, 0)) : J l g md_X5_reachedSet (jRm (d + 3) md_X5_reachedSet) Q 4 [(0, .inr (.inr (.inl k0))), (1, .inl s4.1), (2, .inl s4.2)] [] ah (0, 0) := by
  unfold f_X5_reachedSet_b4 at h
  refine J_seg ok_X5_reachedSet 4 2 (pc' := 6) (ls' := [(0, .inr (.inr (.inl k0))), (1, .inl s4.1), (2, .inl s4.2)]) (st' := [.inr (.inr (.inl k0)), .inl s4.2]) rfl ?_
  obtain ⟨v1, h2, h⟩ := Option.bind_eq_some_iff.mp h
  refine J_getR (jat ok_X5_reachedSet 6 (pc := 6) (i := .getfield 53) (n := 3) rfl rfl) fl_RX5_53 h2 ?_
  obtain ⟨v3, h4, h⟩ := Option.bind_eq_some_iff.mp h
  refine J_getI (jat ok_X5_reachedSet 7 (pc := 9) (i := .getfield 127) (n := 3) rfl rfl) fl_RX5_127 h4 ?_
  refine J_ge (jat ok_X5_reachedSet 8 (pc := 12) (i := .if_icmp .ge 23) (n := 3) rfl rfl) (tgt := 35) (by decide) (fun c => ?_) (fun c => ?_)
  · have h := (if_pos c).symm.trans h
    exact J_sub (ls' := [(1, .inl s4.1)]) [1] rfl (hX (s4.1, ah) (Option.some.inj h).symm)
  · have h := (if_neg c).symm.trans h
    refine J_seg ok_X5_reachedSet 9 2 (pc' := 17) (ls' := [(0, .inr (.inr (.inl k0))), (1, .inl s4.1), (2, .inl s4.2)]) (st' := [.inl s4.2, .inr (.inr (.inl k0))]) rfl ?_
    by_cases c7 : qO ah k0 5 = true
    case neg => exact absurd ((if_neg c7).symm.trans h) (by simp)
    have h := (if_pos c7).symm.trans h
    obtain ⟨q5, h6, h⟩ := Option.bind_eq_some_iff.mp h
    refine J_callV (md' := md_X5_hasReached) (As := [.inl s4.2]) (st := []) (cs' := (0, 0)) (st' := [.inl q5.1]) (jat ok_X5_reachedSet 11 (pc := 17) (i := .invokevirtual 206) (n := 3) rfl rfl) ml_RX5_206 yv_X5_hasReached c7 (c_X5_hasReached l g (d + 0) h6) (jRo_of (by decide)) (Nat.le_of_ble_eq_true rfl) ⟨Nat.le_of_ble_eq_true rfl, Nat.le_of_ble_eq_true rfl⟩ rfl rfl rfl ?_
    refine J_eq0 (jat ok_X5_reachedSet 12 (pc := 20) (i := .ifCond .eq 9) (n := 3) rfl rfl) (tgt := 29) (by decide) (fun c => ?_) (fun c => ?_)
    · have h := (if_pos c).symm.trans h
      refine J_seg ok_X5_reachedSet 19 2 (pc' := 4) (ls' := [(2, .inl (s4.2 + 1)), (0, .inr (.inr (.inl k0))), (1, .inl s4.1)]) (st' := []) rfl ?_
      exact J_sub (ls' := [(0, .inr (.inr (.inl k0))), (1, .inl s4.1), (2, .inl (s4.2 + 1))]) [1, 2, 0] rfl (hN ((s4.1, s4.2 + 1), q5.2) (Option.some.inj h).symm)
    · have h := (if_neg c).symm.trans h
      refine J_seg ok_X5_reachedSet 13 8 (pc' := 4) (ls' := [(2, .inl (s4.2 + 1)), (1, .inl (s4.1 ||| (1 <<< (s4.2 &&& 31)))), (0, .inr (.inr (.inl k0)))]) (st' := []) rfl ?_
      exact J_sub (ls' := [(0, .inr (.inr (.inl k0))), (1, .inl (s4.1 ||| (1 <<< (s4.2 &&& 31)))), (2, .inl (s4.2 + 1))]) [2, 1, 0] rfl (hN ((s4.1 ||| (1 <<< (s4.2 &&& 31)), s4.2 + 1), q5.2) (Option.some.inj h).symm)
def f_X5_reachedSet (x0 : Option Nat) (ah : AH) : Option (Int32 × AH) :=
  (jloop (f_X5_reachedSet_b4 x0) jfuel (0, 0) ah).bind fun q8 => match q8 with | .inl r => none | .inr z10 => some (z10.1, z10.2)
set_option maxRecDepth 100000 in
set_option maxHeartbeats 4000000 in
theorem k_X5_reachedSet {l : Launch} {g : GX} (d : Nat) {Q : jQ} {x0 : Option Nat} (ah : AH) (out : Int32 × AH) (h : f_X5_reachedSet x0 ah = some out) (hR : jRetI l g md_X5_reachedSet (jRm (d + 3) md_X5_reachedSet) Q (0, 0) out.1 out.2) : J l g md_X5_reachedSet (jRm (d + 3) md_X5_reachedSet) Q 0 [(0, .inr (.inr (.inl x0)))] [] ah (0, 0) := by
  unfold f_X5_reachedSet at h
  refine J_seg ok_X5_reachedSet 0 4 (pc' := 4) (ls' := [(2, .inl 0), (1, .inl 0), (0, .inr (.inr (.inl x0)))]) (st' := []) rfl ?_
  obtain ⟨q8, h9, h⟩ := Option.bind_eq_some_iff.mp h
  refine J_sub (ls' := [(0, .inr (.inr (.inl x0))), (1, .inl 0), (2, .inl 0)]) [2, 1, 0] rfl ?_
  refine J_loop (pE := 35) (lh := fun t11 => [(0, .inr (.inr (.inl x0))), (1, .inl t11.1), (2, .inl t11.2)]) (lx := fun z10 => [(1, .inl z10)]) (P := jRetN) (fun s ah out hb hR hX hN => k_X5_reachedSet_b4 d s ah out hb hR hX hN) jfuel (0, 0) _ _ h9 (fun r e => ?_) (fun z10 e => ?_)
  · subst e
    dsimp only at h
    cases h
  · subst e
    dsimp only at h
    refine J_seg ok_X5_reachedSet 21 1 (pc' := 36) (ls' := [(1, .inl z10.1)]) (st' := [.inl z10.1]) rfl ?_
    have h := Option.some.inj h
    subst h
    exact hR _ _ (jat ok_X5_reachedSet 22 (pc := 36) (i := .ireturn) (n := 1) rfl rfl)
theorem c_X5_reachedSet (l : Launch) (g : GX) (d : Nat) {x0 : Option Nat} {ah : AH} {q : Int32 × AH} (h : f_X5_reachedSet x0 ah = some q) : jM l g (d + 3) md_X5_reachedSet [.inr (.inr (.inl x0))] ah (some (.inl q.1)) q.2 :=
  jM_of (by decide) (Nat.le_of_ble_eq_true rfl) (k_X5_reachedSet d ah q h (fun pc ls hd => J_reti hd rfl (jPV_int _) rfl (Nat.le_refl _) rfl rfl))
