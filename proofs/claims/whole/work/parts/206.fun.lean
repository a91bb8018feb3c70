def f_X5_passWeek_b23 (k0 : Option Nat) (k1 : Int32) (s23 : Int32) (ah : AH) : Option ((Unit × AH) ⊕ (((Unit) × AH) ⊕ ((Int32) × AH))) :=
  (gR ah k0 5 8).bind fun v12 => (gI ah v12 1 5).bind fun v14 => if v14 ≤ s23 then (some (.inr (.inl ((), ah)))) else (if 6 ≤ s23 then (some (.inr (.inl ((), ah)))) else ((gR ah k0 5 6).bind fun v16 => (gA ah v16 s23).bind fun v18 => if v18 = 1 then ((f_X5_isIn k1 s23 ah).bind fun q20 => if q20.1 = 0 then ((gR q20.2 k0 5 3).bind fun v22 => (gR q20.2 k0 5 3).bind fun v24 => if qO q20.2 v24 4 = true then ((f_X4_deedsOf v24 s23 q20.2).bind fun q26 => if qO q26.2 v22 4 = true then ((f_X4_setDeeds v22 s23 (q26.1 + 1) q26.2).bind fun q29 => some (.inr (.inr (s23 + 1, q29.2)))) else none) else none) else (some (.inr (.inr (s23 + 1, q20.2))))) else (some (.inr (.inr (s23 + 1, ah))))))
set_option maxRecDepth 100000 in
set_option maxHeartbeats 4000000 in
theorem k_X5_passWeek_b23 {l : Launch} {g : GX} (d : Nat) {Q : jQ} {k0 : Option Nat} {k1 : Int32} (s23 : Int32) (ah : AH) (out : (Unit × AH) ⊕ (((Unit) × AH) ⊕ ((Int32) × AH))) (h : f_X5_passWeek_b23 k0 k1 s23 ah = some out) (hR : ∀ q, out = .inl q → jRetN q.1 q.2) (hX : ∀ q, out = .inr (.inl q) → J l g md_X5_passWeek (jRm (d + 5) md_X5_passWeek) Q 82 [(0, .inr (.inr (.inl k0))), (1, .inl k1)] [] q.2 (0, 0)) (hN : ∀ q, out = .inr (.inr q) → J l g md_X5_passWeek (jRm (d + 5) md_X5_passWeek) Q 23 [(0, .inr (.inr (.inl k0))), (1, .inl k1), (2, .inl q.1)] [] q.2 (0, 0)) : J l g md_X5_passWeek (jRm (d + 5) md_X5_passWeek) Q 23 [(0, .inr (.inr (.inl k0))), (1, .inl k1), (2, .inl s23)] [] ah (0, 0) := by
  unfold f_X5_passWeek_b23 at h
  refine J_seg ok_X5_passWeek 13 2 (pc' := 25) (ls' := [(0, .inr (.inr (.inl k0))), (1, .inl k1), (2, .inl s23)]) (st' := [.inr (.inr (.inl k0)), .inl s23]) rfl ?_
  obtain ⟨v12, h13, h⟩ := Option.bind_eq_some_iff.mp h
  refine J_getR (jat ok_X5_passWeek 15 (pc := 25) (i := .getfield 53) (n := 3) rfl rfl) fl_RX5_53 h13 ?_
  obtain ⟨v14, h15, h⟩ := Option.bind_eq_some_iff.mp h
  refine J_getI (jat ok_X5_passWeek 16 (pc := 28) (i := .getfield 127) (n := 3) rfl rfl) fl_RX5_127 h15 ?_
  refine J_ge (jat ok_X5_passWeek 17 (pc := 31) (i := .if_icmp .ge 51) (n := 3) rfl rfl) (tgt := 82) (by decide) (fun c => ?_) (fun c => ?_)
  · have h := (if_pos c).symm.trans h
    exact J_sub (ls' := [(0, .inr (.inr (.inl k0))), (1, .inl k1)]) [0, 1] rfl (hX ((), ah) (Option.some.inj h).symm)
  · have h := (if_neg c).symm.trans h
    refine J_seg ok_X5_passWeek 18 2 (pc' := 37) (ls' := [(0, .inr (.inr (.inl k0))), (1, .inl k1), (2, .inl s23)]) (st' := [.inl 6, .inl s23]) rfl ?_
    refine J_ge (jat ok_X5_passWeek 20 (pc := 37) (i := .if_icmp .ge 45) (n := 3) rfl rfl) (tgt := 82) (by decide) (fun c => ?_) (fun c => ?_)
    · have h := (if_pos c).symm.trans h
      exact J_sub (ls' := [(0, .inr (.inr (.inl k0))), (1, .inl k1)]) [0, 1] rfl (hX ((), ah) (Option.some.inj h).symm)
    · have h := (if_neg c).symm.trans h
      refine J_seg ok_X5_passWeek 21 1 (pc' := 41) (ls' := [(0, .inr (.inr (.inl k0))), (1, .inl k1), (2, .inl s23)]) (st' := [.inr (.inr (.inl k0))]) rfl ?_
      obtain ⟨v16, h17, h⟩ := Option.bind_eq_some_iff.mp h
      refine J_getR (jat ok_X5_passWeek 22 (pc := 41) (i := .getfield 43) (n := 3) rfl rfl) fl_RX5_43 h17 ?_
      refine J_seg ok_X5_passWeek 23 1 (pc' := 45) (ls' := [(0, .inr (.inr (.inl k0))), (1, .inl k1), (2, .inl s23)]) (st' := [.inl s23, .inr (.inr (.inl v16))]) rfl ?_
      obtain ⟨v18, h19, h⟩ := Option.bind_eq_some_iff.mp h
      refine J_iald (jat ok_X5_passWeek 24 (pc := 45) (i := .iaload) (n := 1) rfl rfl) h19 ?_
      refine J_seg ok_X5_passWeek 25 1 (pc' := 47) (ls' := [(0, .inr (.inr (.inl k0))), (1, .inl k1), (2, .inl s23)]) (st' := [.inl 1, .inl v18]) rfl ?_
      refine J_ne (jat ok_X5_passWeek 26 (pc := 47) (i := .if_icmp .ne 29) (n := 3) rfl rfl) (tgt := 76) (by decide) (fun c => ?_) (fun c => ?_)
      · have h := (if_neg c).symm.trans h
        refine J_seg ok_X5_passWeek 41 2 (pc' := 23) (ls' := [(2, .inl (s23 + 1)), (0, .inr (.inr (.inl k0))), (1, .inl k1)]) (st' := []) rfl ?_
        exact J_sub (ls' := [(0, .inr (.inr (.inl k0))), (1, .inl k1), (2, .inl (s23 + 1))]) [1, 2, 0] rfl (hN (s23 + 1, ah) (Option.some.inj h).symm)
      · have h := (if_pos c).symm.trans h
        refine J_seg ok_X5_passWeek 27 2 (pc' := 52) (ls' := [(0, .inr (.inr (.inl k0))), (1, .inl k1), (2, .inl s23)]) (st' := [.inl s23, .inl k1]) rfl ?_
        obtain ⟨q20, h21, h⟩ := Option.bind_eq_some_iff.mp h
        refine J_callS (md' := md_X5_isIn) (As := [.inl k1, .inl s23]) (st := []) (cs' := (0, 0)) (st' := [.inl q20.1]) (jat ok_X5_passWeek 29 (pc := 52) (i := .invokestatic 197) (n := 3) rfl rfl) (Or.inl ml_RX5_197) ys_X5_isIn (c_X5_isIn l g (d + 4) h21) (jRo_of (by decide)) (Nat.le_of_ble_eq_true rfl) ⟨Nat.le_of_ble_eq_true rfl, Nat.le_of_ble_eq_true rfl⟩ rfl rfl rfl ?_
        refine J_ne0 (jat ok_X5_passWeek 30 (pc := 55) (i := .ifCond .ne 21) (n := 3) rfl rfl) (tgt := 76) (by decide) (fun c => ?_) (fun c => ?_)
        · have h := (if_neg c).symm.trans h
          refine J_seg ok_X5_passWeek 41 2 (pc' := 23) (ls' := [(2, .inl (s23 + 1)), (0, .inr (.inr (.inl k0))), (1, .inl k1)]) (st' := []) rfl ?_
          exact J_sub (ls' := [(0, .inr (.inr (.inl k0))), (1, .inl k1), (2, .inl (s23 + 1))]) [1, 2, 0] rfl (hN (s23 + 1, q20.2) (Option.some.inj h).symm)
        · have h := (if_pos c).symm.trans h
          refine J_seg ok_X5_passWeek 31 1 (pc' := 59) (ls' := [(0, .inr (.inr (.inl k0))), (1, .inl k1), (2, .inl s23)]) (st' := [.inr (.inr (.inl k0))]) rfl ?_
          obtain ⟨v22, h23, h⟩ := Option.bind_eq_some_iff.mp h
          refine J_getR (jat ok_X5_passWeek 32 (pc := 59) (i := .getfield 28) (n := 3) rfl rfl) fl_RX5_28 h23 ?_
          refine J_seg ok_X5_passWeek 33 2 (pc' := 64) (ls' := [(0, .inr (.inr (.inl k0))), (1, .inl k1), (2, .inl s23)]) (st' := [.inr (.inr (.inl k0)), .inl s23, .inr (.inr (.inl v22))]) rfl ?_
          obtain ⟨v24, h25, h⟩ := Option.bind_eq_some_iff.mp h
          refine J_getR (jat ok_X5_passWeek 35 (pc := 64) (i := .getfield 28) (n := 3) rfl rfl) fl_RX5_28 h25 ?_
          refine J_seg ok_X5_passWeek 36 1 (pc' := 68) (ls' := [(0, .inr (.inr (.inl k0))), (1, .inl k1), (2, .inl s23)]) (st' := [.inl s23, .inr (.inr (.inl v24)), .inl s23, .inr (.inr (.inl v22))]) rfl ?_
          by_cases c28 : qO q20.2 v24 4 = true
          case neg => exact absurd ((if_neg c28).symm.trans h) (by simp)
          have h := (if_pos c28).symm.trans h
          obtain ⟨q26, h27, h⟩ := Option.bind_eq_some_iff.mp h
          refine J_callV (md' := md_X4_deedsOf) (As := [.inl s23]) (st := [.inl s23, .inr (.inr (.inl v22))]) (cs' := (0, 0)) (st' := [.inl q26.1, .inl s23, .inr (.inr (.inl v22))]) (jat ok_X5_passWeek 37 (pc := 68) (i := .invokevirtual 330) (n := 3) rfl rfl) ml_RX5_330 yv_X4_deedsOf c28 (c_X4_deedsOf l g (d + 3) h27) (jRo_of (by decide)) (Nat.le_of_ble_eq_true rfl) ⟨Nat.le_of_ble_eq_true rfl, Nat.le_of_ble_eq_true rfl⟩ rfl rfl rfl ?_
          refine J_seg ok_X5_passWeek 38 2 (pc' := 73) (ls' := [(0, .inr (.inr (.inl k0))), (1, .inl k1), (2, .inl s23)]) (st' := [.inl (q26.1 + 1), .inl s23, .inr (.inr (.inl v22))]) rfl ?_
          by_cases c31 : qO q26.2 v22 4 = true
          case neg => exact absurd ((if_neg c31).symm.trans h) (by simp)
          have h := (if_pos c31).symm.trans h
          obtain ⟨q29, h30, h⟩ := Option.bind_eq_some_iff.mp h
          refine J_callV (md' := md_X4_setDeeds) (As := [.inl s23, .inl (q26.1 + 1)]) (st := []) (cs' := (0, 0)) (st' := []) (jat ok_X5_passWeek 40 (pc := 73) (i := .invokevirtual 339) (n := 3) rfl rfl) ml_RX5_339 yv_X4_setDeeds c31 (c_X4_setDeeds l g (d + 3) h30) (jRo_of (by decide)) (Nat.le_of_ble_eq_true rfl) ⟨Nat.le_of_ble_eq_true rfl, Nat.le_of_ble_eq_true rfl⟩ rfl rfl rfl ?_
          refine J_seg ok_X5_passWeek 41 2 (pc' := 23) (ls' := [(2, .inl (s23 + 1)), (0, .inr (.inr (.inl k0))), (1, .inl k1)]) (st' := []) rfl ?_
          exact J_sub (ls' := [(0, .inr (.inr (.inl k0))), (1, .inl k1), (2, .inl (s23 + 1))]) [1, 2, 0] rfl (hN (s23 + 1, q29.2) (Option.some.inj h).symm)
def f_X5_passWeek_b84 (k0 : Option Nat) (k1 : Int32) (s84 : Int32) (ah : AH) : Option ((Unit × AH) ⊕ (((Unit) × AH) ⊕ ((Int32) × AH))) :=
  (gR ah k0 5 8).bind fun v36 => (gI ah v36 1 5).bind fun v38 => if v38 ≤ s84 then (some (.inr (.inl ((), ah)))) else (if 6 ≤ s84 then (some (.inr (.inl ((), ah)))) else ((gR ah k0 5 3).bind fun v40 => if qO ah v40 4 = true then ((f_X4_victimOf v40 s84 ah).bind fun q42 => (gR q42.2 k0 5 6).bind fun v45 => (gA q42.2 v45 s84).bind fun v47 => if v47 = 2 then (if q42.1 = (-9) then (some (.inr (.inr (s84 + 1, q42.2)))) else ((f_X5_isIn k1 q42.1 q42.2).bind fun q49 => if q49.1 = 0 then ((gR q49.2 k0 5 3).bind fun v51 => if qO q49.2 v51 4 = true then ((f_X4_deedsOf v51 q42.1 q49.2).bind fun q53 => (gR q53.2 k0 5 8).bind fun v56 => if qO q53.2 v56 1 = true then ((f_X1_against v56 s84 q42.1 q53.2).bind fun q58 => (gR q58.2 k0 5 3).bind fun v61 => if qO q58.2 v61 4 = true then ((f_X4_setDeeds v61 q42.1 (if 0 < (q53.1 - q58.1) then (q53.1 - q58.1) else 0) q58.2).bind fun q63 => some (.inr (.inr (s84 + 1, q63.2)))) else none) else none) else none) else (some (.inr (.inr (s84 + 1, q49.2)))))) else (some (.inr (.inr (s84 + 1, q42.2))))) else none))
set_option maxRecDepth 100000 in
set_option maxHeartbeats 4000000 in
theorem k_X5_passWeek_b84 {l : Launch} {g : GX} (d : Nat) {Q : jQ} {k0 : Option Nat} {k1 : Int32} (s84 : Int32) (ah : AH) (out : (Unit × AH) ⊕ (((Unit) × AH) ⊕ ((Int32) × AH))) (h : f_X5_passWeek_b84 k0 k1 s84 ah = some out) (hR : ∀ q, out = .inl q → jRetN q.1 q.2) (hX : ∀ q, out = .inr (.inl q) → J l g md_X5_passWeek (jRm (d + 5) md_X5_passWeek) Q 174 [(0, .inr (.inr (.inl k0))), (1, .inl k1)] [] q.2 (0, 0)) (hN : ∀ q, out = .inr (.inr q) → J l g md_X5_passWeek (jRm (d + 5) md_X5_passWeek) Q 84 [(0, .inr (.inr (.inl k0))), (1, .inl k1), (2, .inl q.1)] [] q.2 (0, 0)) : J l g md_X5_passWeek (jRm (d + 5) md_X5_passWeek) Q 84 [(0, .inr (.inr (.inl k0))), (1, .inl k1), (2, .inl s84)] [] ah (0, 0) := by
  unfold f_X5_passWeek_b84 at h
  refine J_seg ok_X5_passWeek 45 2 (pc' := 86) (ls' := [(0, .inr (.inr (.inl k0))), (1, .inl k1), (2, .inl s84)]) (st' := [.inr (.inr (.inl k0)), .inl s84]) rfl ?_
  obtain ⟨v36, h37, h⟩ := Option.bind_eq_some_iff.mp h
  refine J_getR (jat ok_X5_passWeek 47 (pc := 86) (i := .getfield 53) (n := 3) rfl rfl) fl_RX5_53 h37 ?_
  obtain ⟨v38, h39, h⟩ := Option.bind_eq_some_iff.mp h
  refine J_getI (jat ok_X5_passWeek 48 (pc := 89) (i := .getfield 127) (n := 3) rfl rfl) fl_RX5_127 h39 ?_
  refine J_ge (jat ok_X5_passWeek 49 (pc := 92) (i := .if_icmp .ge 82) (n := 3) rfl rfl) (tgt := 174) (by decide) (fun c => ?_) (fun c => ?_)
  · have h := (if_pos c).symm.trans h
    exact J_sub (ls' := [(0, .inr (.inr (.inl k0))), (1, .inl k1)]) [0, 1] rfl (hX ((), ah) (Option.some.inj h).symm)
  · have h := (if_neg c).symm.trans h
    refine J_seg ok_X5_passWeek 50 2 (pc' := 98) (ls' := [(0, .inr (.inr (.inl k0))), (1, .inl k1), (2, .inl s84)]) (st' := [.inl 6, .inl s84]) rfl ?_
    refine J_ge (jat ok_X5_passWeek 52 (pc := 98) (i := .if_icmp .ge 76) (n := 3) rfl rfl) (tgt := 174) (by decide) (fun c => ?_) (fun c => ?_)
    · have h := (if_pos c).symm.trans h
      exact J_sub (ls' := [(0, .inr (.inr (.inl k0))), (1, .inl k1)]) [0, 1] rfl (hX ((), ah) (Option.some.inj h).symm)
    · have h := (if_neg c).symm.trans h
      refine J_seg ok_X5_passWeek 53 1 (pc' := 102) (ls' := [(0, .inr (.inr (.inl k0))), (1, .inl k1), (2, .inl s84)]) (st' := [.inr (.inr (.inl k0))]) rfl ?_
      obtain ⟨v40, h41, h⟩ := Option.bind_eq_some_iff.mp h
      refine J_getR (jat ok_X5_passWeek 54 (pc := 102) (i := .getfield 28) (n := 3) rfl rfl) fl_RX5_28 h41 ?_
      refine J_seg ok_X5_passWeek 55 1 (pc' := 106) (ls' := [(0, .inr (.inr (.inl k0))), (1, .inl k1), (2, .inl s84)]) (st' := [.inl s84, .inr (.inr (.inl v40))]) rfl ?_
      by_cases c44 : qO ah v40 4 = true
      case neg => exact absurd ((if_neg c44).symm.trans h) (by simp)
      have h := (if_pos c44).symm.trans h
      obtain ⟨q42, h43, h⟩ := Option.bind_eq_some_iff.mp h
      refine J_callV (md' := md_X4_victimOf) (As := [.inl s84]) (st := []) (cs' := (0, 0)) (st' := [.inl q42.1]) (jat ok_X5_passWeek 56 (pc := 106) (i := .invokevirtual 178) (n := 3) rfl rfl) ml_RX5_178 yv_X4_victimOf c44 (c_X4_victimOf l g (d + 3) h43) (jRo_of (by decide)) (Nat.le_of_ble_eq_true rfl) ⟨Nat.le_of_ble_eq_true rfl, Nat.le_of_ble_eq_true rfl⟩ rfl rfl rfl ?_
      refine J_seg ok_X5_passWeek 57 2 (pc' := 111) (ls' := [(3, .inl q42.1), (0, .inr (.inr (.inl k0))), (1, .inl k1), (2, .inl s84)]) (st' := [.inr (.inr (.inl k0))]) rfl ?_
      obtain ⟨v45, h46, h⟩ := Option.bind_eq_some_iff.mp h
      refine J_getR (jat ok_X5_passWeek 59 (pc := 111) (i := .getfield 43) (n := 3) rfl rfl) fl_RX5_43 h46 ?_
      refine J_seg ok_X5_passWeek 60 1 (pc' := 115) (ls' := [(3, .inl q42.1), (0, .inr (.inr (.inl k0))), (1, .inl k1), (2, .inl s84)]) (st' := [.inl s84, .inr (.inr (.inl v45))]) rfl ?_
      obtain ⟨v47, h48, h⟩ := Option.bind_eq_some_iff.mp h
      refine J_iald (jat ok_X5_passWeek 61 (pc := 115) (i := .iaload) (n := 1) rfl rfl) h48 ?_
      refine J_seg ok_X5_passWeek 62 1 (pc' := 117) (ls' := [(3, .inl q42.1), (0, .inr (.inr (.inl k0))), (1, .inl k1), (2, .inl s84)]) (st' := [.inl 2, .inl v47]) rfl ?_
      refine J_ne (jat ok_X5_passWeek 63 (pc := 117) (i := .if_icmp .ne 51) (n := 3) rfl rfl) (tgt := 168) (by decide) (fun c => ?_) (fun c => ?_)
      · have h := (if_neg c).symm.trans h
        refine J_seg ok_X5_passWeek 89 2 (pc' := 84) (ls' := [(2, .inl (s84 + 1)), (3, .inl q42.1), (0, .inr (.inr (.inl k0))), (1, .inl k1)]) (st' := []) rfl ?_
        exact J_sub (ls' := [(0, .inr (.inr (.inl k0))), (1, .inl k1), (2, .inl (s84 + 1))]) [2, 3, 0] rfl (hN (s84 + 1, q42.2) (Option.some.inj h).symm)
      · have h := (if_pos c).symm.trans h
        refine J_seg ok_X5_passWeek 64 2 (pc' := 123) (ls' := [(3, .inl q42.1), (0, .inr (.inr (.inl k0))), (1, .inl k1), (2, .inl s84)]) (st' := [.inl (-9), .inl q42.1]) rfl ?_
        refine J_eq (jat ok_X5_passWeek 66 (pc := 123) (i := .if_icmp .eq 45) (n := 3) rfl rfl) (tgt := 168) (by decide) (fun c => ?_) (fun c => ?_)
        · have h := (if_pos c).symm.trans h
          refine J_seg ok_X5_passWeek 89 2 (pc' := 84) (ls' := [(2, .inl (s84 + 1)), (3, .inl q42.1), (0, .inr (.inr (.inl k0))), (1, .inl k1)]) (st' := []) rfl ?_
          exact J_sub (ls' := [(0, .inr (.inr (.inl k0))), (1, .inl k1), (2, .inl (s84 + 1))]) [2, 3, 0] rfl (hN (s84 + 1, q42.2) (Option.some.inj h).symm)
        · have h := (if_neg c).symm.trans h
          refine J_seg ok_X5_passWeek 67 2 (pc' := 128) (ls' := [(3, .inl q42.1), (0, .inr (.inr (.inl k0))), (1, .inl k1), (2, .inl s84)]) (st' := [.inl q42.1, .inl k1]) rfl ?_
          obtain ⟨q49, h50, h⟩ := Option.bind_eq_some_iff.mp h
          refine J_callS (md' := md_X5_isIn) (As := [.inl k1, .inl q42.1]) (st := []) (cs' := (0, 0)) (st' := [.inl q49.1]) (jat ok_X5_passWeek 69 (pc := 128) (i := .invokestatic 197) (n := 3) rfl rfl) (Or.inl ml_RX5_197) ys_X5_isIn (c_X5_isIn l g (d + 4) h50) (jRo_of (by decide)) (Nat.le_of_ble_eq_true rfl) ⟨Nat.le_of_ble_eq_true rfl, Nat.le_of_ble_eq_true rfl⟩ rfl rfl rfl ?_
          refine J_ne0 (jat ok_X5_passWeek 70 (pc := 131) (i := .ifCond .ne 37) (n := 3) rfl rfl) (tgt := 168) (by decide) (fun c => ?_) (fun c => ?_)
          · have h := (if_neg c).symm.trans h
            refine J_seg ok_X5_passWeek 89 2 (pc' := 84) (ls' := [(2, .inl (s84 + 1)), (3, .inl q42.1), (0, .inr (.inr (.inl k0))), (1, .inl k1)]) (st' := []) rfl ?_
            exact J_sub (ls' := [(0, .inr (.inr (.inl k0))), (1, .inl k1), (2, .inl (s84 + 1))]) [2, 3, 0] rfl (hN (s84 + 1, q49.2) (Option.some.inj h).symm)
          · have h := (if_pos c).symm.trans h
            refine J_seg ok_X5_passWeek 71 1 (pc' := 135) (ls' := [(3, .inl q42.1), (0, .inr (.inr (.inl k0))), (1, .inl k1), (2, .inl s84)]) (st' := [.inr (.inr (.inl k0))]) rfl ?_
            obtain ⟨v51, h52, h⟩ := Option.bind_eq_some_iff.mp h
            refine J_getR (jat ok_X5_passWeek 72 (pc := 135) (i := .getfield 28) (n := 3) rfl rfl) fl_RX5_28 h52 ?_
            refine J_seg ok_X5_passWeek 73 1 (pc' := 139) (ls' := [(3, .inl q42.1), (0, .inr (.inr (.inl k0))), (1, .inl k1), (2, .inl s84)]) (st' := [.inl q42.1, .inr (.inr (.inl v51))]) rfl ?_
            by_cases c55 : qO q49.2 v51 4 = true
            case neg => exact absurd ((if_neg c55).symm.trans h) (by simp)
            have h := (if_pos c55).symm.trans h
            obtain ⟨q53, h54, h⟩ := Option.bind_eq_some_iff.mp h
            refine J_callV (md' := md_X4_deedsOf) (As := [.inl q42.1]) (st := []) (cs' := (0, 0)) (st' := [.inl q53.1]) (jat ok_X5_passWeek 74 (pc := 139) (i := .invokevirtual 330) (n := 3) rfl rfl) ml_RX5_330 yv_X4_deedsOf c55 (c_X4_deedsOf l g (d + 3) h54) (jRo_of (by decide)) (Nat.le_of_ble_eq_true rfl) ⟨Nat.le_of_ble_eq_true rfl, Nat.le_of_ble_eq_true rfl⟩ rfl rfl rfl ?_
            refine J_seg ok_X5_passWeek 75 1 (pc' := 143) (ls' := [(3, .inl q42.1), (0, .inr (.inr (.inl k0))), (1, .inl k1), (2, .inl s84)]) (st' := [.inr (.inr (.inl k0)), .inl q53.1]) rfl ?_
            obtain ⟨v56, h57, h⟩ := Option.bind_eq_some_iff.mp h
            refine J_getR (jat ok_X5_passWeek 76 (pc := 143) (i := .getfield 53) (n := 3) rfl rfl) fl_RX5_53 h57 ?_
            refine J_seg ok_X5_passWeek 77 2 (pc' := 148) (ls' := [(3, .inl q42.1), (0, .inr (.inr (.inl k0))), (1, .inl k1), (2, .inl s84)]) (st' := [.inl q42.1, .inl s84, .inr (.inr (.inl v56)), .inl q53.1]) rfl ?_
            by_cases c60 : qO q53.2 v56 1 = true
            case neg => exact absurd ((if_neg c60).symm.trans h) (by simp)
            have h := (if_pos c60).symm.trans h
            obtain ⟨q58, h59, h⟩ := Option.bind_eq_some_iff.mp h
            refine J_callV (md' := md_X1_against) (As := [.inl s84, .inl q42.1]) (st := [.inl q53.1]) (cs' := (0, 0)) (st' := [.inl q58.1, .inl q53.1]) (jat ok_X5_passWeek 79 (pc := 148) (i := .invokevirtual 162) (n := 3) rfl rfl) ml_RX5_162 yv_X1_against c60 (c_X1_against l g (d + 0) h59) (jRo_of (by decide)) (Nat.le_of_ble_eq_true rfl) ⟨Nat.le_of_ble_eq_true rfl, Nat.le_of_ble_eq_true rfl⟩ rfl rfl rfl ?_
            refine J_seg ok_X5_passWeek 80 3 (pc' := 155) (ls' := [(4, .inl (q53.1 - q58.1)), (3, .inl q42.1), (0, .inr (.inr (.inl k0))), (1, .inl k1), (2, .inl s84)]) (st' := [.inr (.inr (.inl k0))]) rfl ?_
            obtain ⟨v61, h62, h⟩ := Option.bind_eq_some_iff.mp h
            refine J_getR (jat ok_X5_passWeek 83 (pc := 155) (i := .getfield 28) (n := 3) rfl rfl) fl_RX5_28 h62 ?_
            refine J_seg ok_X5_passWeek 84 3 (pc' := 162) (ls' := [(4, .inl (q53.1 - q58.1)), (3, .inl q42.1), (0, .inr (.inr (.inl k0))), (1, .inl k1), (2, .inl s84)]) (st' := [.inl (q53.1 - q58.1), .inl 0, .inl q42.1, .inr (.inr (.inl v61))]) rfl ?_
            refine J_max (jat ok_X5_passWeek 87 (pc := 162) (i := .invokestatic 342) (n := 3) rfl rfl) mm_RX5_342 mw_max ⟨by show 1 ≤ d + 5; omega, by show 21 ≤ 64 * (d + 5); omega⟩ (Nat.le_of_ble_eq_true rfl) ⟨Nat.le_of_ble_eq_true rfl, Nat.le_of_ble_eq_true rfl⟩ ?_
            by_cases c65 : qO q58.2 v61 4 = true
            case neg => exact absurd ((if_neg c65).symm.trans h) (by simp)
            have h := (if_pos c65).symm.trans h
            obtain ⟨q63, h64, h⟩ := Option.bind_eq_some_iff.mp h
            refine J_callV (md' := md_X4_setDeeds) (As := [.inl q42.1, .inl (if 0 < (q53.1 - q58.1) then (q53.1 - q58.1) else 0)]) (st := []) (cs' := (0, 0)) (st' := []) (jat ok_X5_passWeek 88 (pc := 165) (i := .invokevirtual 339) (n := 3) rfl rfl) ml_RX5_339 yv_X4_setDeeds c65 (c_X4_setDeeds l g (d + 3) h64) (jRo_of (by decide)) (Nat.le_of_ble_eq_true rfl) ⟨Nat.le_of_ble_eq_true rfl, Nat.le_of_ble_eq_true rfl⟩ rfl rfl rfl ?_
            refine J_seg ok_X5_passWeek 89 2 (pc' := 84) (ls' := [(2, .inl (s84 + 1)), (4, .inl (q53.1 - q58.1)), (3, .inl q42.1), (0, .inr (.inr (.inl k0))), (1, .inl k1)]) (st' := []) rfl ?_
            exact J_sub (ls' := [(0, .inr (.inr (.inl k0))), (1, .inl k1), (2, .inl (s84 + 1))]) [3, 4, 0] rfl (hN (s84 + 1, q63.2) (Option.some.inj h).symm)
def f_X5_passWeek_j174 (x0 : Option Nat) (x1 : Int32) (ah : AH) : Option (Int32 × AH) :=
  if qO ah x0 5 = true then ((f_X5_reachedSet x0 ah).bind fun q70 => (f_J6_bitCount_0f7a4 (q70.1 &&& (x1 ^^^ (-1))) q70.2).bind fun q73 => some (q73.1, q73.2)) else none
set_option maxRecDepth 100000 in
set_option maxHeartbeats 4000000 in
theorem k_X5_passWeek_j174 {l : Launch} {g : GX} (d : Nat) {Q : jQ} {x0 : Option Nat} {x1 : Int32} (ah : AH) (out : Int32 × AH) (h : f_X5_passWeek_j174 x0 x1 ah = some out) (hR : jRetI l g md_X5_passWeek (jRm (d + 5) md_X5_passWeek) Q (0, 0) out.1 out.2) : J l g md_X5_passWeek (jRm (d + 5) md_X5_passWeek) Q 174 [(0, .inr (.inr (.inl x0))), (1, .inl x1)] [] ah (0, 0) := by
  unfold f_X5_passWeek_j174 at h
  refine J_seg ok_X5_passWeek 91 1 (pc' := 175) (ls' := [(0, .inr (.inr (.inl x0))), (1, .inl x1)]) (st' := [.inr (.inr (.inl x0))]) rfl ?_
  by_cases c72 : qO ah x0 5 = true
  case neg => exact absurd ((if_neg c72).symm.trans h) (by simp)
  have h := (if_pos c72).symm.trans h
  obtain ⟨q70, h71, h⟩ := Option.bind_eq_some_iff.mp h
  refine J_callV (md' := md_X5_reachedSet) (As := []) (st := []) (cs' := (0, 0)) (st' := [.inl q70.1]) (jat ok_X5_passWeek 92 (pc := 175) (i := .invokevirtual 285) (n := 3) rfl rfl) ml_RX5_285 yv_X5_reachedSet c72 (c_X5_reachedSet l g (d + 1) h71) (jRo_of (by decide)) (Nat.le_of_ble_eq_true rfl) ⟨Nat.le_of_ble_eq_true rfl, Nat.le_of_ble_eq_true rfl⟩ rfl rfl rfl ?_
  refine J_seg ok_X5_passWeek 93 4 (pc' := 182) (ls' := [(0, .inr (.inr (.inl x0))), (1, .inl x1)]) (st' := [.inl (q70.1 &&& (x1 ^^^ (-1)))]) rfl ?_
  obtain ⟨q73, h74, h⟩ := Option.bind_eq_some_iff.mp h
  refine J_callS (md' := md_J6_bitCount_0f7a4) (As := [.inl (q70.1 &&& (x1 ^^^ (-1)))]) (st := []) (cs' := (0, 0)) (st' := [.inl q73.1]) (jat ok_X5_passWeek 97 (pc := 182) (i := .invokestatic 148) (n := 3) rfl rfl) (Or.inl ml_RX5_148) ys_J6_bitCount_0f7a4 (c_J6_bitCount_0f7a4 l g (d + 4) h74) (jRo_of (by decide)) (Nat.le_of_ble_eq_true rfl) ⟨Nat.le_of_ble_eq_true rfl, Nat.le_of_ble_eq_true rfl⟩ rfl rfl rfl ?_
  have h := Option.some.inj h
  subst h
  exact hR _ _ (jat ok_X5_passWeek 98 (pc := 185) (i := .ireturn) (n := 1) rfl rfl)
def f_X5_passWeek (x0 : Option Nat) (ah : AH) : Option (Int32 × AH) :=
  (gR ah x0 5 3).bind fun v1 => if qO ah v1 4 = true then ((f_X4_beginTurn v1 ah).bind fun q3 => if q3.1 = 0 then (some (0, q3.2)) else (if qO q3.2 x0 5 = true then ((f_X5_reachedSet x0 q3.2).bind fun q6 => if qO q6.2 x0 5 = true then ((f_X5_fineIdle x0 q6.2).bind fun q9 => (jloop (f_X5_passWeek_b23 x0 q6.1) jfuel 0 q9.2).bind fun q32 => match q32 with | .inl r => none | .inr z34 => (jloop (f_X5_passWeek_b84 x0 q6.1) jfuel 0 z34.2).bind fun q66 => match q66 with | .inl r => none | .inr z68 => f_X5_passWeek_j174 x0 q6.1 z68.2) else none) else none)) else none
set_option maxRecDepth 100000 in
set_option maxHeartbeats 4000000 in
theorem k_X5_passWeek {l : Launch} {g : GX} (d : Nat) {Q : jQ} {x0 : Option Nat} (ah : AH) (out : Int32 × AH) (h : f_X5_passWeek x0 ah = some out) (hR : jRetI l g md_X5_passWeek (jRm (d + 5) md_X5_passWeek) Q (0, 0) out.1 out.2) : J l g md_X5_passWeek (jRm (d + 5) md_X5_passWeek) Q 0 [(0, .inr (.inr (.inl x0)))] [] ah (0, 0) := by
  unfold f_X5_passWeek at h
  refine J_seg ok_X5_passWeek 0 1 (pc' := 1) (ls' := [(0, .inr (.inr (.inl x0)))]) (st' := [.inr (.inr (.inl x0))]) rfl ?_
  obtain ⟨v1, h2, h⟩ := Option.bind_eq_some_iff.mp h
  refine J_getR (jat ok_X5_passWeek 1 (pc := 1) (i := .getfield 28) (n := 3) rfl rfl) fl_RX5_28 h2 ?_
  by_cases c5 : qO ah v1 4 = true
  case neg => exact absurd ((if_neg c5).symm.trans h) (by simp)
  have h := (if_pos c5).symm.trans h
  obtain ⟨q3, h4, h⟩ := Option.bind_eq_some_iff.mp h
  refine J_callV (md' := md_X4_beginTurn) (As := []) (st := []) (cs' := (0, 0)) (st' := [.inl q3.1]) (jat ok_X5_passWeek 2 (pc := 4) (i := .invokevirtual 181) (n := 3) rfl rfl) ml_RX5_181 yv_X4_beginTurn c5 (c_X4_beginTurn l g (d + 3) h4) (jRo_of (by decide)) (Nat.le_of_ble_eq_true rfl) ⟨Nat.le_of_ble_eq_true rfl, Nat.le_of_ble_eq_true rfl⟩ rfl rfl rfl ?_
  refine J_ne0 (jat ok_X5_passWeek 3 (pc := 7) (i := .ifCond .ne 5) (n := 3) rfl rfl) (tgt := 12) (by decide) (fun c => ?_) (fun c => ?_)
  · have h := (if_neg c).symm.trans h
    refine J_seg ok_X5_passWeek 6 1 (pc' := 13) (ls' := [(0, .inr (.inr (.inl x0)))]) (st' := [.inr (.inr (.inl x0))]) rfl ?_
    by_cases c8 : qO q3.2 x0 5 = true
    case neg => exact absurd ((if_neg c8).symm.trans h) (by simp)
    have h := (if_pos c8).symm.trans h
    obtain ⟨q6, h7, h⟩ := Option.bind_eq_some_iff.mp h
    refine J_callV (md' := md_X5_reachedSet) (As := []) (st := []) (cs' := (0, 0)) (st' := [.inl q6.1]) (jat ok_X5_passWeek 7 (pc := 13) (i := .invokevirtual 285) (n := 3) rfl rfl) ml_RX5_285 yv_X5_reachedSet c8 (c_X5_reachedSet l g (d + 1) h7) (jRo_of (by decide)) (Nat.le_of_ble_eq_true rfl) ⟨Nat.le_of_ble_eq_true rfl, Nat.le_of_ble_eq_true rfl⟩ rfl rfl rfl ?_
    refine J_seg ok_X5_passWeek 8 2 (pc' := 18) (ls' := [(1, .inl q6.1), (0, .inr (.inr (.inl x0)))]) (st' := [.inr (.inr (.inl x0))]) rfl ?_
    by_cases c11 : qO q6.2 x0 5 = true
    case neg => exact absurd ((if_neg c11).symm.trans h) (by simp)
    have h := (if_pos c11).symm.trans h
    obtain ⟨q9, h10, h⟩ := Option.bind_eq_some_iff.mp h
    refine J_callV (md' := md_X5_fineIdle) (As := []) (st := []) (cs' := (0, 0)) (st' := []) (jat ok_X5_passWeek 10 (pc := 18) (i := .invokevirtual 336) (n := 3) rfl rfl) ml_RX5_336 yv_X5_fineIdle c11 (c_X5_fineIdle l g (d + 0) h10) (jRo_of (by decide)) (Nat.le_of_ble_eq_true rfl) ⟨Nat.le_of_ble_eq_true rfl, Nat.le_of_ble_eq_true rfl⟩ rfl rfl rfl ?_
    refine J_seg ok_X5_passWeek 11 2 (pc' := 23) (ls' := [(2, .inl 0), (1, .inl q6.1), (0, .inr (.inr (.inl x0)))]) (st' := []) rfl ?_
    obtain ⟨q32, h33, h⟩ := Option.bind_eq_some_iff.mp h
    refine J_sub (ls' := [(0, .inr (.inr (.inl x0))), (1, .inl q6.1), (2, .inl 0)]) [2, 1, 0] rfl ?_
    refine J_loop (pE := 82) (lh := fun t35 => [(0, .inr (.inr (.inl x0))), (1, .inl q6.1), (2, .inl t35)]) (lx := fun z34 => [(0, .inr (.inr (.inl x0))), (1, .inl q6.1)]) (P := jRetN) (fun s ah out hb hR hX hN => k_X5_passWeek_b23 d s ah out hb hR hX hN) jfuel 0 _ _ h33 (fun r e => ?_) (fun z34 e => ?_)
    · subst e
      dsimp only at h
      cases h
    · subst e
      dsimp only at h
      refine J_seg ok_X5_passWeek 43 2 (pc' := 84) (ls' := [(2, .inl 0), (0, .inr (.inr (.inl x0))), (1, .inl q6.1)]) (st' := []) rfl ?_
      obtain ⟨q66, h67, h⟩ := Option.bind_eq_some_iff.mp h
      refine J_sub (ls' := [(0, .inr (.inr (.inl x0))), (1, .inl q6.1), (2, .inl 0)]) [1, 2, 0] rfl ?_
      refine J_loop (pE := 174) (lh := fun t69 => [(0, .inr (.inr (.inl x0))), (1, .inl q6.1), (2, .inl t69)]) (lx := fun z68 => [(0, .inr (.inr (.inl x0))), (1, .inl q6.1)]) (P := jRetN) (fun s ah out hb hR hX hN => k_X5_passWeek_b84 d s ah out hb hR hX hN) jfuel 0 _ _ h67 (fun r e => ?_) (fun z68 e => ?_)
      · subst e
        dsimp only at h
        cases h
      · subst e
        dsimp only at h
        refine J_sub (ls' := [(0, .inr (.inr (.inl x0))), (1, .inl q6.1)]) [0, 1] rfl ?_
        exact k_X5_passWeek_j174 d _ _ h hR
  · have h := (if_pos c).symm.trans h
    refine J_seg ok_X5_passWeek 4 1 (pc' := 11) (ls' := [(0, .inr (.inr (.inl x0)))]) (st' := [.inl 0]) rfl ?_
    have h := Option.some.inj h
    subst h
    exact hR _ _ (jat ok_X5_passWeek 5 (pc := 11) (i := .ireturn) (n := 1) rfl rfl)
theorem c_X5_passWeek (l : Launch) (g : GX) (d : Nat) {x0 : Option Nat} {ah : AH} {q : Int32 × AH} (h : f_X5_passWeek x0 ah = some q) : jM l g (d + 5) md_X5_passWeek [.inr (.inr (.inl x0))] ah (some (.inl q.1)) q.2 :=
  jM_of (by decide) (Nat.le_of_ble_eq_true rfl) (k_X5_passWeek d ah q h (fun pc ls hd => J_reti hd rfl (jPV_int _) rfl (Nat.le_refl _) rfl rfl))
def f_X5_refuseRow (x0 : Option Nat) (x1 : Option Nat) (ah : AH) : Option (Int32 × AH) :=
  (gR ah x0 5 8).bind fun v1 => (gI ah v1 1 5).bind fun v3 => if v3 = 0 then (some ((-4), ah)) else (if qO ah x1 2 = true then ((f_X2_isMissing x1 ah).bind fun q5 => if q5.1 = 0 then (some (0, q5.2)) else (if qO q5.2 x0 5 = true then ((f_X5_find x0 1 q5.2).bind fun q8 => some (q8.1, q8.2)) else none)) else none)
set_option maxRecDepth 100000 in
set_option maxHeartbeats 4000000 in
theorem k_X5_refuseRow {l : Launch} {g : GX} (d : Nat) {Q : jQ} {x0 : Option Nat} {x1 : Option Nat} (ah : AH) (out : Int32 × AH) (h : f_X5_refuseRow x0 x1 ah = some out) (hR : jRetI l g md_X5_refuseRow (jRm (d + 1) md_X5_refuseRow) Q (0, 0) out.1 out.2) : J l g md_X5_refuseRow (jRm (d + 1) md_X5_refuseRow) Q 0 [(0, .inr (.inr (.inl x0))), (1, .inr (.inr (.inl x1)))] [] ah (0, 0) := by
  unfold f_X5_refuseRow at h
  refine J_seg ok_X5_refuseRow 0 1 (pc' := 1) (ls' := [(0, .inr (.inr (.inl x0))), (1, .inr (.inr (.inl x1)))]) (st' := [.inr (.inr (.inl x0))]) rfl ?_
  obtain ⟨v1, h2, h⟩ := Option.bind_eq_some_iff.mp h
  refine J_getR (jat ok_X5_refuseRow 1 (pc := 1) (i := .getfield 53) (n := 3) rfl rfl) fl_RX5_53 h2 ?_
  obtain ⟨v3, h4, h⟩ := Option.bind_eq_some_iff.mp h
  refine J_getI (jat ok_X5_refuseRow 2 (pc := 4) (i := .getfield 127) (n := 3) rfl rfl) fl_RX5_127 h4 ?_
  refine J_ne0 (jat ok_X5_refuseRow 3 (pc := 7) (i := .ifCond .ne 6) (n := 3) rfl rfl) (tgt := 13) (by decide) (fun c => ?_) (fun c => ?_)
  · have h := (if_neg c).symm.trans h
    refine J_seg ok_X5_refuseRow 6 1 (pc' := 14) (ls' := [(0, .inr (.inr (.inl x0))), (1, .inr (.inr (.inl x1)))]) (st' := [.inr (.inr (.inl x1))]) rfl ?_
    by_cases c7 : qO ah x1 2 = true
    case neg => exact absurd ((if_neg c7).symm.trans h) (by simp)
    have h := (if_pos c7).symm.trans h
    obtain ⟨q5, h6, h⟩ := Option.bind_eq_some_iff.mp h
    refine J_callV (md' := md_X2_isMissing) (As := []) (st := []) (cs' := (0, 0)) (st' := [.inl q5.1]) (jat ok_X5_refuseRow 7 (pc := 14) (i := .invokevirtual 97) (n := 3) rfl rfl) ml_RX5_97 yv_X2_isMissing c7 (c_X2_isMissing l g (d + 0) h6) (jRo_of (by decide)) (Nat.le_of_ble_eq_true rfl) ⟨Nat.le_of_ble_eq_true rfl, Nat.le_of_ble_eq_true rfl⟩ rfl rfl rfl ?_
    refine J_eq0 (jat ok_X5_refuseRow 8 (pc := 17) (i := .ifCond .eq 11) (n := 3) rfl rfl) (tgt := 28) (by decide) (fun c => ?_) (fun c => ?_)
    · have h := (if_pos c).symm.trans h
      refine J_seg ok_X5_refuseRow 13 1 (pc' := 29) (ls' := [(0, .inr (.inr (.inl x0))), (1, .inr (.inr (.inl x1)))]) (st' := [.inl 0]) rfl ?_
      have h := Option.some.inj h
      subst h
      exact hR _ _ (jat ok_X5_refuseRow 14 (pc := 29) (i := .ireturn) (n := 1) rfl rfl)
    · have h := (if_neg c).symm.trans h
      refine J_seg ok_X5_refuseRow 9 2 (pc' := 22) (ls' := [(0, .inr (.inr (.inl x0))), (1, .inr (.inr (.inl x1)))]) (st' := [.inl 1, .inr (.inr (.inl x0))]) rfl ?_
      by_cases c10 : qO q5.2 x0 5 = true
      case neg => exact absurd ((if_neg c10).symm.trans h) (by simp)
      have h := (if_pos c10).symm.trans h
      obtain ⟨q8, h9, h⟩ := Option.bind_eq_some_iff.mp h
      refine J_callV (md' := md_X5_find) (As := [.inl 1]) (st := []) (cs' := (0, 0)) (st' := [.inl q8.1]) (jat ok_X5_refuseRow 11 (pc := 22) (i := .invokevirtual 75) (n := 3) rfl rfl) ml_RX5_75 yv_X5_find c10 (c_X5_find l g (d + 0) h9) (jRo_of (by decide)) (Nat.le_of_ble_eq_true rfl) ⟨Nat.le_of_ble_eq_true rfl, Nat.le_of_ble_eq_true rfl⟩ rfl rfl rfl ?_
      refine J_seg ok_X5_refuseRow 12 1 (pc' := 29) (ls' := [(0, .inr (.inr (.inl x0))), (1, .inr (.inr (.inl x1)))]) (st' := [.inl q8.1]) rfl ?_
      have h := Option.some.inj h
      subst h
      exact hR _ _ (jat ok_X5_refuseRow 14 (pc := 29) (i := .ireturn) (n := 1) rfl rfl)
  · have h := (if_pos c).symm.trans h
    refine J_seg ok_X5_refuseRow 4 1 (pc' := 12) (ls' := [(0, .inr (.inr (.inl x0))), (1, .inr (.inr (.inl x1)))]) (st' := [.inl (-4)]) rfl ?_
    have h := Option.some.inj h
    subst h
    exact hR _ _ (jat ok_X5_refuseRow 5 (pc := 12) (i := .ireturn) (n := 1) rfl rfl)
theorem c_X5_refuseRow (l : Launch) (g : GX) (d : Nat) {x0 : Option Nat} {x1 : Option Nat} {ah : AH} {q : Int32 × AH} (h : f_X5_refuseRow x0 x1 ah = some q) : jM l g (d + 1) md_X5_refuseRow [.inr (.inr (.inl x0)), .inr (.inr (.inl x1))] ah (some (.inl q.1)) q.2 :=
  jM_of (by decide) (Nat.le_of_ble_eq_true rfl) (k_X5_refuseRow d ah q h (fun pc ls hd => J_reti hd rfl (jPV_int _) rfl (Nat.le_refl _) rfl rfl))
def f_X5_refuseFolkRow (x0 : Option Nat) (x1 : Option Nat) (ah : AH) : Option (Int32 × AH) :=
  if qO ah x0 5 = true then ((f_X5_refuseRow x0 x1 ah).bind fun q1 => if q1.1 = 0 then ((gI q1.2 x1 2 1).bind fun v4 => (gR q1.2 x0 5 8).bind fun v6 => (gI q1.2 v6 1 5).bind fun v8 => if v4 = v8 then (some (0, q1.2)) else (if qO q1.2 x0 5 = true then ((f_X5_find x0 5 q1.2).bind fun q10 => some (q10.1, q10.2)) else none)) else (some (q1.1, q1.2))) else none
set_option maxRecDepth 100000 in
set_option maxHeartbeats 4000000 in
theorem k_X5_refuseFolkRow {l : Launch} {g : GX} (d : Nat) {Q : jQ} {x0 : Option Nat} {x1 : Option Nat} (ah : AH) (out : Int32 × AH) (h : f_X5_refuseFolkRow x0 x1 ah = some out) (hR : jRetI l g md_X5_refuseFolkRow (jRm (d + 2) md_X5_refuseFolkRow) Q (0, 0) out.1 out.2) : J l g md_X5_refuseFolkRow (jRm (d + 2) md_X5_refuseFolkRow) Q 0 [(0, .inr (.inr (.inl x0))), (1, .inr (.inr (.inl x1)))] [] ah (0, 0) := by
  unfold f_X5_refuseFolkRow at h
  refine J_seg ok_X5_refuseFolkRow 0 2 (pc' := 2) (ls' := [(0, .inr (.inr (.inl x0))), (1, .inr (.inr (.inl x1)))]) (st' := [.inr (.inr (.inl x1)), .inr (.inr (.inl x0))]) rfl ?_
  by_cases c3 : qO ah x0 5 = true
  case neg => exact absurd ((if_neg c3).symm.trans h) (by simp)
  have h := (if_pos c3).symm.trans h
  obtain ⟨q1, h2, h⟩ := Option.bind_eq_some_iff.mp h
  refine J_callV (md' := md_X5_refuseRow) (As := [.inr (.inr (.inl x1))]) (st := []) (cs' := (0, 0)) (st' := [.inl q1.1]) (jat ok_X5_refuseFolkRow 2 (pc := 2) (i := .invokevirtual 318) (n := 3) rfl rfl) ml_RX5_318 yv_X5_refuseRow c3 (c_X5_refuseRow l g (d + 0) h2) (jRo_of (by decide)) (Nat.le_of_ble_eq_true rfl) ⟨Nat.le_of_ble_eq_true rfl, Nat.le_of_ble_eq_true rfl⟩ rfl rfl rfl ?_
  refine J_seg ok_X5_refuseFolkRow 3 2 (pc' := 7) (ls' := [(2, .inl q1.1), (0, .inr (.inr (.inl x0))), (1, .inr (.inr (.inl x1)))]) (st' := [.inl q1.1]) rfl ?_
  refine J_eq0 (jat ok_X5_refuseFolkRow 5 (pc := 7) (i := .ifCond .eq 5) (n := 3) rfl rfl) (tgt := 12) (by decide) (fun c => ?_) (fun c => ?_)
  · have h := (if_pos c).symm.trans h
    refine J_seg ok_X5_refuseFolkRow 8 1 (pc' := 13) (ls' := [(2, .inl q1.1), (0, .inr (.inr (.inl x0))), (1, .inr (.inr (.inl x1)))]) (st' := [.inr (.inr (.inl x1))]) rfl ?_
    obtain ⟨v4, h5, h⟩ := Option.bind_eq_some_iff.mp h
    refine J_getI (jat ok_X5_refuseFolkRow 9 (pc := 13) (i := .getfield 112) (n := 3) rfl rfl) fl_RX5_112 h5 ?_
    refine J_seg ok_X5_refuseFolkRow 10 1 (pc' := 17) (ls' := [(2, .inl q1.1), (0, .inr (.inr (.inl x0))), (1, .inr (.inr (.inl x1)))]) (st' := [.inr (.inr (.inl x0)), .inl v4]) rfl ?_
    obtain ⟨v6, h7, h⟩ := Option.bind_eq_some_iff.mp h
    refine J_getR (jat ok_X5_refuseFolkRow 11 (pc := 17) (i := .getfield 53) (n := 3) rfl rfl) fl_RX5_53 h7 ?_
    obtain ⟨v8, h9, h⟩ := Option.bind_eq_some_iff.mp h
    refine J_getI (jat ok_X5_refuseFolkRow 12 (pc := 20) (i := .getfield 127) (n := 3) rfl rfl) fl_RX5_127 h9 ?_
    refine J_ne (jat ok_X5_refuseFolkRow 13 (pc := 23) (i := .if_icmp .ne 7) (n := 3) rfl rfl) (tgt := 30) (by decide) (fun c => ?_) (fun c => ?_)
    · have h := (if_neg c).symm.trans h
      refine J_seg ok_X5_refuseFolkRow 16 2 (pc' := 32) (ls' := [(2, .inl q1.1), (0, .inr (.inr (.inl x0))), (1, .inr (.inr (.inl x1)))]) (st' := [.inl 5, .inr (.inr (.inl x0))]) rfl ?_
      by_cases c12 : qO q1.2 x0 5 = true
      case neg => exact absurd ((if_neg c12).symm.trans h) (by simp)
      have h := (if_pos c12).symm.trans h
      obtain ⟨q10, h11, h⟩ := Option.bind_eq_some_iff.mp h
      refine J_callV (md' := md_X5_find) (As := [.inl 5]) (st := []) (cs' := (0, 0)) (st' := [.inl q10.1]) (jat ok_X5_refuseFolkRow 18 (pc := 32) (i := .invokevirtual 75) (n := 3) rfl rfl) ml_RX5_75 yv_X5_find c12 (c_X5_find l g (d + 1) h11) (jRo_of (by decide)) (Nat.le_of_ble_eq_true rfl) ⟨Nat.le_of_ble_eq_true rfl, Nat.le_of_ble_eq_true rfl⟩ rfl rfl rfl ?_
      have h := Option.some.inj h
      subst h
      exact hR _ _ (jat ok_X5_refuseFolkRow 19 (pc := 35) (i := .ireturn) (n := 1) rfl rfl)
    · have h := (if_pos c).symm.trans h
      refine J_seg ok_X5_refuseFolkRow 14 2 (pc' := 35) (ls' := [(2, .inl q1.1), (0, .inr (.inr (.inl x0))), (1, .inr (.inr (.inl x1)))]) (st' := [.inl 0]) rfl ?_
      have h := Option.some.inj h
      subst h
      exact hR _ _ (jat ok_X5_refuseFolkRow 19 (pc := 35) (i := .ireturn) (n := 1) rfl rfl)
  · have h := (if_neg c).symm.trans h
    refine J_seg ok_X5_refuseFolkRow 6 1 (pc' := 11) (ls' := [(2, .inl q1.1), (0, .inr (.inr (.inl x0))), (1, .inr (.inr (.inl x1)))]) (st' := [.inl q1.1]) rfl ?_
    have h := Option.some.inj h
    subst h
    exact hR _ _ (jat ok_X5_refuseFolkRow 7 (pc := 11) (i := .ireturn) (n := 1) rfl rfl)
theorem c_X5_refuseFolkRow (l : Launch) (g : GX) (d : Nat) {x0 : Option Nat} {x1 : Option Nat} {ah : AH} {q : Int32 × AH} (h : f_X5_refuseFolkRow x0 x1 ah = some q) : jM l g (d + 2) md_X5_refuseFolkRow [.inr (.inr (.inl x0)), .inr (.inr (.inl x1))] ah (some (.inl q.1)) q.2 :=
  jM_of (by decide) (Nat.le_of_ble_eq_true rfl) (k_X5_refuseFolkRow d ah q h (fun pc ls hd => J_reti hd rfl (jPV_int _) rfl (Nat.le_refl _) rfl rfl))
def f_X5_week_b30 (k0 : Option Nat) (k2 : Option Nat) (s30 : Int32) (ah : AH) : Option ((Int32 × AH) ⊕ (((Unit) × AH) ⊕ ((Int32) × AH))) :=
  (gR ah k0 5 8).bind fun v8 => (gI ah v8 1 5).bind fun v10 => if v10 ≤ s30 then (some (.inr (.inl ((), ah)))) else (if qO ah k2 2 = true then ((f_X2_get k2 s30 ah).bind fun q12 => if qO q12.2 k0 5 = true then ((f_X5_isAct k0 s30 q12.1 q12.2).bind fun q15 => if q15.1 = 0 then (if qO q15.2 k0 5 = true then ((f_X5_find k0 3 q15.2).bind fun q18 => some (.inl (q18.1, q18.2))) else none) else (some (.inr (.inr (s30 + 1, q15.2))))) else none) else none)
set_option maxRecDepth 100000 in
set_option maxHeartbeats 4000000 in
theorem k_X5_week_b30 {l : Launch} {g : GX} (d : Nat) {Q : jQ} {k0 : Option Nat} {k2 : Option Nat} (s30 : Int32) (ah : AH) (out : (Int32 × AH) ⊕ (((Unit) × AH) ⊕ ((Int32) × AH))) (h : f_X5_week_b30 k0 k2 s30 ah = some out) (hR : ∀ q, out = .inl q → jRetI l g md_X5_week (jRm (d + 6) md_X5_week) Q (0, 0) q.1 q.2) (hX : ∀ q, out = .inr (.inl q) → J l g md_X5_week (jRm (d + 6) md_X5_week) Q 69 [(0, .inr (.inr (.inl k0))), (2, .inr (.inr (.inl k2)))] [] q.2 (0, 0)) (hN : ∀ q, out = .inr (.inr q) → J l g md_X5_week (jRm (d + 6) md_X5_week) Q 30 [(0, .inr (.inr (.inl k0))), (2, .inr (.inr (.inl k2))), (4, .inl q.1)] [] q.2 (0, 0)) : J l g md_X5_week (jRm (d + 6) md_X5_week) Q 30 [(0, .inr (.inr (.inl k0))), (2, .inr (.inr (.inl k2))), (4, .inl s30)] [] ah (0, 0) := by
  unfold f_X5_week_b30 at h
  refine J_seg ok_X5_week 19 2 (pc' := 33) (ls' := [(0, .inr (.inr (.inl k0))), (2, .inr (.inr (.inl k2))), (4, .inl s30)]) (st' := [.inr (.inr (.inl k0)), .inl s30]) rfl ?_
  obtain ⟨v8, h9, h⟩ := Option.bind_eq_some_iff.mp h
  refine J_getR (jat ok_X5_week 21 (pc := 33) (i := .getfield 53) (n := 3) rfl rfl) fl_RX5_53 h9 ?_
  obtain ⟨v10, h11, h⟩ := Option.bind_eq_some_iff.mp h
  refine J_getI (jat ok_X5_week 22 (pc := 36) (i := .getfield 127) (n := 3) rfl rfl) fl_RX5_127 h11 ?_
  refine J_ge (jat ok_X5_week 23 (pc := 39) (i := .if_icmp .ge 30) (n := 3) rfl rfl) (tgt := 69) (by decide) (fun c => ?_) (fun c => ?_)
  · have h := (if_pos c).symm.trans h
    exact J_sub (ls' := [(0, .inr (.inr (.inl k0))), (2, .inr (.inr (.inl k2)))]) [0, 1] rfl (hX ((), ah) (Option.some.inj h).symm)
  · have h := (if_neg c).symm.trans h
    refine J_seg ok_X5_week 24 4 (pc' := 48) (ls' := [(0, .inr (.inr (.inl k0))), (2, .inr (.inr (.inl k2))), (4, .inl s30)]) (st' := [.inl s30, .inr (.inr (.inl k2)), .inl s30, .inr (.inr (.inl k0))]) rfl ?_
    by_cases c14 : qO ah k2 2 = true
    case neg => exact absurd ((if_neg c14).symm.trans h) (by simp)
    have h := (if_pos c14).symm.trans h
    obtain ⟨q12, h13, h⟩ := Option.bind_eq_some_iff.mp h
    refine J_callV (md' := md_X2_get) (As := [.inl s30]) (st := [.inl s30, .inr (.inr (.inl k0))]) (cs' := (0, 0)) (st' := [.inl q12.1, .inl s30, .inr (.inr (.inl k0))]) (jat ok_X5_week 28 (pc := 48) (i := .invokevirtual 87) (n := 3) rfl rfl) ml_RX5_87 yv_X2_get c14 (c_X2_get l g (d + 4) h13) (jRo_of (by decide)) (Nat.le_of_ble_eq_true rfl) ⟨Nat.le_of_ble_eq_true rfl, Nat.le_of_ble_eq_true rfl⟩ rfl rfl rfl ?_
    by_cases c17 : qO q12.2 k0 5 = true
    case neg => exact absurd ((if_neg c17).symm.trans h) (by simp)
    have h := (if_pos c17).symm.trans h
    obtain ⟨q15, h16, h⟩ := Option.bind_eq_some_iff.mp h
    refine J_callV (md' := md_X5_isAct) (As := [.inl s30, .inl q12.1]) (st := []) (cs' := (0, 0)) (st' := [.inl q15.1]) (jat ok_X5_week 29 (pc := 51) (i := .invokevirtual 169) (n := 3) rfl rfl) ml_RX5_169 yv_X5_isAct c17 (c_X5_isAct l g (d + 3) h16) (jRo_of (by decide)) (Nat.le_of_ble_eq_true rfl) ⟨Nat.le_of_ble_eq_true rfl, Nat.le_of_ble_eq_true rfl⟩ rfl rfl rfl ?_
    refine J_ne0 (jat ok_X5_week 30 (pc := 54) (i := .ifCond .ne 9) (n := 3) rfl rfl) (tgt := 63) (by decide) (fun c => ?_) (fun c => ?_)
    · have h := (if_neg c).symm.trans h
      refine J_seg ok_X5_week 35 2 (pc' := 30) (ls' := [(4, .inl (s30 + 1)), (0, .inr (.inr (.inl k0))), (2, .inr (.inr (.inl k2)))]) (st' := []) rfl ?_
      exact J_sub (ls' := [(0, .inr (.inr (.inl k0))), (2, .inr (.inr (.inl k2))), (4, .inl (s30 + 1))]) [1, 2, 0] rfl (hN (s30 + 1, q15.2) (Option.some.inj h).symm)
    · have h := (if_pos c).symm.trans h
      refine J_seg ok_X5_week 31 2 (pc' := 59) (ls' := [(0, .inr (.inr (.inl k0))), (2, .inr (.inr (.inl k2))), (4, .inl s30)]) (st' := [.inl 3, .inr (.inr (.inl k0))]) rfl ?_
      by_cases c20 : qO q15.2 k0 5 = true
      case neg => exact absurd ((if_neg c20).symm.trans h) (by simp)
      have h := (if_pos c20).symm.trans h
      obtain ⟨q18, h19, h⟩ := Option.bind_eq_some_iff.mp h
      refine J_callV (md' := md_X5_find) (As := [.inl 3]) (st := []) (cs' := (0, 0)) (st' := [.inl q18.1]) (jat ok_X5_week 33 (pc := 59) (i := .invokevirtual 75) (n := 3) rfl rfl) ml_RX5_75 yv_X5_find c20 (c_X5_find l g (d + 5) h19) (jRo_of (by decide)) (Nat.le_of_ble_eq_true rfl) ⟨Nat.le_of_ble_eq_true rfl, Nat.le_of_ble_eq_true rfl⟩ rfl rfl rfl ?_
      exact hR _ (Option.some.inj h).symm _ _ (jat ok_X5_week 34 (pc := 62) (i := .ireturn) (n := 1) rfl rfl)
def f_X5_week_b87 (k0 : Option Nat) (k2 : Option Nat) (s87 : Int32) (ah : AH) : Option ((Unit × AH) ⊕ (((Unit) × AH) ⊕ ((Int32) × AH))) :=
  (gR ah k0 5 8).bind fun v29 => (gI ah v29 1 5).bind fun v31 => if v31 ≤ s87 then (some (.inr (.inl ((), ah)))) else (if 6 ≤ s87 then (some (.inr (.inl ((), ah)))) else ((gR ah k0 5 6).bind fun v33 => if qO ah k2 2 = true then ((f_X2_get k2 s87 ah).bind fun q35 => (sA q35.2 v33 s87 q35.1).bind fun a38 => some (.inr (.inr (s87 + 1, a38)))) else none))
set_option maxRecDepth 100000 in
set_option maxHeartbeats 4000000 in
theorem k_X5_week_b87 {l : Launch} {g : GX} (d : Nat) {Q : jQ} {k0 : Option Nat} {k2 : Option Nat} (s87 : Int32) (ah : AH) (out : (Unit × AH) ⊕ (((Unit) × AH) ⊕ ((Int32) × AH))) (h : f_X5_week_b87 k0 k2 s87 ah = some out) (hR : ∀ q, out = .inl q → jRetN q.1 q.2) (hX : ∀ q, out = .inr (.inl q) → J l g md_X5_week (jRm (d + 6) md_X5_week) Q 125 [(0, .inr (.inr (.inl k0)))] [] q.2 (0, 0)) (hN : ∀ q, out = .inr (.inr q) → J l g md_X5_week (jRm (d + 6) md_X5_week) Q 87 [(0, .inr (.inr (.inl k0))), (2, .inr (.inr (.inl k2))), (4, .inl q.1)] [] q.2 (0, 0)) : J l g md_X5_week (jRm (d + 6) md_X5_week) Q 87 [(0, .inr (.inr (.inl k0))), (2, .inr (.inr (.inl k2))), (4, .inl s87)] [] ah (0, 0) := by
  unfold f_X5_week_b87 at h
  refine J_seg ok_X5_week 46 2 (pc' := 90) (ls' := [(0, .inr (.inr (.inl k0))), (2, .inr (.inr (.inl k2))), (4, .inl s87)]) (st' := [.inr (.inr (.inl k0)), .inl s87]) rfl ?_
  obtain ⟨v29, h30, h⟩ := Option.bind_eq_some_iff.mp h
  refine J_getR (jat ok_X5_week 48 (pc := 90) (i := .getfield 53) (n := 3) rfl rfl) fl_RX5_53 h30 ?_
  obtain ⟨v31, h32, h⟩ := Option.bind_eq_some_iff.mp h
  refine J_getI (jat ok_X5_week 49 (pc := 93) (i := .getfield 127) (n := 3) rfl rfl) fl_RX5_127 h32 ?_
  refine J_ge (jat ok_X5_week 50 (pc := 96) (i := .if_icmp .ge 29) (n := 3) rfl rfl) (tgt := 125) (by decide) (fun c => ?_) (fun c => ?_)
  · have h := (if_pos c).symm.trans h
    exact J_sub (ls' := [(0, .inr (.inr (.inl k0)))]) [0] rfl (hX ((), ah) (Option.some.inj h).symm)
  · have h := (if_neg c).symm.trans h
    refine J_seg ok_X5_week 51 2 (pc' := 103) (ls' := [(0, .inr (.inr (.inl k0))), (2, .inr (.inr (.inl k2))), (4, .inl s87)]) (st' := [.inl 6, .inl s87]) rfl ?_
    refine J_ge (jat ok_X5_week 53 (pc := 103) (i := .if_icmp .ge 22) (n := 3) rfl rfl) (tgt := 125) (by decide) (fun c => ?_) (fun c => ?_)
    · have h := (if_pos c).symm.trans h
      exact J_sub (ls' := [(0, .inr (.inr (.inl k0)))]) [0] rfl (hX ((), ah) (Option.some.inj h).symm)
    · have h := (if_neg c).symm.trans h
      refine J_seg ok_X5_week 54 1 (pc' := 107) (ls' := [(0, .inr (.inr (.inl k0))), (2, .inr (.inr (.inl k2))), (4, .inl s87)]) (st' := [.inr (.inr (.inl k0))]) rfl ?_
      obtain ⟨v33, h34, h⟩ := Option.bind_eq_some_iff.mp h
      refine J_getR (jat ok_X5_week 55 (pc := 107) (i := .getfield 43) (n := 3) rfl rfl) fl_RX5_43 h34 ?_
      refine J_seg ok_X5_week 56 3 (pc' := 115) (ls' := [(0, .inr (.inr (.inl k0))), (2, .inr (.inr (.inl k2))), (4, .inl s87)]) (st' := [.inl s87, .inr (.inr (.inl k2)), .inl s87, .inr (.inr (.inl v33))]) rfl ?_
      by_cases c37 : qO ah k2 2 = true
      case neg => exact absurd ((if_neg c37).symm.trans h) (by simp)
      have h := (if_pos c37).symm.trans h
      obtain ⟨q35, h36, h⟩ := Option.bind_eq_some_iff.mp h
      refine J_callV (md' := md_X2_get) (As := [.inl s87]) (st := [.inl s87, .inr (.inr (.inl v33))]) (cs' := (0, 0)) (st' := [.inl q35.1, .inl s87, .inr (.inr (.inl v33))]) (jat ok_X5_week 59 (pc := 115) (i := .invokevirtual 87) (n := 3) rfl rfl) ml_RX5_87 yv_X2_get c37 (c_X2_get l g (d + 4) h36) (jRo_of (by decide)) (Nat.le_of_ble_eq_true rfl) ⟨Nat.le_of_ble_eq_true rfl, Nat.le_of_ble_eq_true rfl⟩ rfl rfl rfl ?_
      obtain ⟨a38, h39, h⟩ := Option.bind_eq_some_iff.mp h
      refine J_iast (jat ok_X5_week 60 (pc := 118) (i := .iastore) (n := 1) rfl rfl) h39 ?_
      refine J_seg ok_X5_week 61 2 (pc' := 87) (ls' := [(4, .inl (s87 + 1)), (0, .inr (.inr (.inl k0))), (2, .inr (.inr (.inl k2)))]) (st' := []) rfl ?_
      exact J_sub (ls' := [(0, .inr (.inr (.inl k0))), (2, .inr (.inr (.inl k2))), (4, .inl (s87 + 1))]) [1, 2, 0] rfl (hN (s87 + 1, a38) (Option.some.inj h).symm)
def f_X5_week_j125 (x0 : Option Nat) (ah : AH) : Option (Int32 × AH) :=
  if qO ah x0 5 = true then ((f_X5_passWeek x0 ah).bind fun q44 => some (q44.1, q44.2)) else none
set_option maxRecDepth 100000 in
set_option maxHeartbeats 4000000 in
theorem k_X5_week_j125 {l : Launch} {g : GX} (d : Nat) {Q : jQ} {x0 : Option Nat} (ah : AH) (out : Int32 × AH) (h : f_X5_week_j125 x0 ah = some out) (hR : jRetI l g md_X5_week (jRm (d + 6) md_X5_week) Q (0, 0) out.1 out.2) : J l g md_X5_week (jRm (d + 6) md_X5_week) Q 125 [(0, .inr (.inr (.inl x0)))] [] ah (0, 0) := by
  unfold f_X5_week_j125 at h
  refine J_seg ok_X5_week 63 1 (pc' := 126) (ls' := [(0, .inr (.inr (.inl x0)))]) (st' := [.inr (.inr (.inl x0))]) rfl ?_
  by_cases c46 : qO ah x0 5 = true
  case neg => exact absurd ((if_neg c46).symm.trans h) (by simp)
  have h := (if_pos c46).symm.trans h
  obtain ⟨q44, h45, h⟩ := Option.bind_eq_some_iff.mp h
  refine J_callV (md' := md_X5_passWeek) (As := []) (st := []) (cs' := (0, 0)) (st' := [.inl q44.1]) (jat ok_X5_week 64 (pc := 126) (i := .invokevirtual 175) (n := 3) rfl rfl) ml_RX5_175 yv_X5_passWeek c46 (c_X5_passWeek l g (d + 0) h45) (jRo_of (by decide)) (Nat.le_of_ble_eq_true rfl) ⟨Nat.le_of_ble_eq_true rfl, Nat.le_of_ble_eq_true rfl⟩ rfl rfl rfl ?_
  have h := Option.some.inj h
  subst h
  exact hR _ _ (jat ok_X5_week 65 (pc := 129) (i := .ireturn) (n := 1) rfl rfl)
def f_X5_week (x0 : Option Nat) (x1 : Int32) (ah : AH) : Option (Int32 × AH) :=
  (gR ah x0 5 0).bind fun v1 => (f_X5_lineAt v1 x1 ah).bind fun q3 => if q3.1 = none then (some ((-1), q3.2)) else (if qO q3.2 x0 5 = true then ((f_X5_refuseFolkRow x0 q3.1 q3.2).bind fun q5 => if q5.1 = 0 then ((jloop (f_X5_week_b30 x0 q3.1) jfuel 0 q5.2).bind fun q21 => match q21 with | .inl r => some r | .inr z23 => (gR z23.2 x0 5 3).bind fun v25 => (gI z23.2 v25 4 3).bind fun v27 => if v27 < 40 then ((jloop (f_X5_week_b87 x0 q3.1) jfuel 0 z23.2).bind fun q40 => match q40 with | .inl r => none | .inr z42 => f_X5_week_j125 x0 z42.2) else (some ((-2), z23.2))) else (some (q5.1, q5.2))) else none)
set_option maxRecDepth 100000 in
set_option maxHeartbeats 4000000 in
theorem k_X5_week {l : Launch} {g : GX} (d : Nat) {Q : jQ} {x0 : Option Nat} {x1 : Int32} (ah : AH) (out : Int32 × AH) (h : f_X5_week x0 x1 ah = some out) (hR : jRetI l g md_X5_week (jRm (d + 6) md_X5_week) Q (0, 0) out.1 out.2) : J l g md_X5_week (jRm (d + 6) md_X5_week) Q 0 [(0, .inr (.inr (.inl x0))), (1, .inl x1)] [] ah (0, 0) := by
  unfold f_X5_week at h
  refine J_seg ok_X5_week 0 1 (pc' := 1) (ls' := [(0, .inr (.inr (.inl x0))), (1, .inl x1)]) (st' := [.inr (.inr (.inl x0))]) rfl ?_
  obtain ⟨v1, h2, h⟩ := Option.bind_eq_some_iff.mp h
  refine J_getR (jat ok_X5_week 1 (pc := 1) (i := .getfield 11) (n := 3) rfl rfl) fl_RX5_11 h2 ?_
  refine J_seg ok_X5_week 2 1 (pc' := 5) (ls' := [(0, .inr (.inr (.inl x0))), (1, .inl x1)]) (st' := [.inl x1, .inr (.inr (.inl v1))]) rfl ?_
  obtain ⟨q3, h4, h⟩ := Option.bind_eq_some_iff.mp h
  refine J_callS (md' := md_X5_lineAt) (As := [.inr (.inr (.inl v1)), .inl x1]) (st := []) (cs' := (0, 0)) (st' := [.inr (.inr (.inl q3.1))]) (jat ok_X5_week 3 (pc := 5) (i := .invokestatic 71) (n := 3) rfl rfl) (Or.inl ml_RX5_71) ys_X5_lineAt (c_X5_lineAt l g (d + 5) h4) (jRo_of (by decide)) (Nat.le_of_ble_eq_true rfl) ⟨Nat.le_of_ble_eq_true rfl, Nat.le_of_ble_eq_true rfl⟩ rfl rfl rfl ?_
  refine J_seg ok_X5_week 4 2 (pc' := 10) (ls' := [(2, .inr (.inr (.inl q3.1))), (0, .inr (.inr (.inl x0))), (1, .inl x1)]) (st' := [.inr (.inr (.inl q3.1))]) rfl ?_
  refine J_nonnull (jat ok_X5_week 6 (pc := 10) (i := .ifnonnull 5) (n := 3) rfl rfl) (tgt := 15) (by decide) (fun c => ?_) (fun c => ?_)
  · have h := (if_neg c).symm.trans h
    refine J_seg ok_X5_week 9 2 (pc' := 17) (ls' := [(2, .inr (.inr (.inl q3.1))), (0, .inr (.inr (.inl x0))), (1, .inl x1)]) (st' := [.inr (.inr (.inl q3.1)), .inr (.inr (.inl x0))]) rfl ?_
    by_cases c7 : qO q3.2 x0 5 = true
    case neg => exact absurd ((if_neg c7).symm.trans h) (by simp)
    have h := (if_pos c7).symm.trans h
    obtain ⟨q5, h6, h⟩ := Option.bind_eq_some_iff.mp h
    refine J_callV (md' := md_X5_refuseFolkRow) (As := [.inr (.inr (.inl q3.1))]) (st := []) (cs' := (0, 0)) (st' := [.inl q5.1]) (jat ok_X5_week 11 (pc := 17) (i := .invokevirtual 165) (n := 3) rfl rfl) ml_RX5_165 yv_X5_refuseFolkRow c7 (c_X5_refuseFolkRow l g (d + 3) h6) (jRo_of (by decide)) (Nat.le_of_ble_eq_true rfl) ⟨Nat.le_of_ble_eq_true rfl, Nat.le_of_ble_eq_true rfl⟩ rfl rfl rfl ?_
    refine J_seg ok_X5_week 12 2 (pc' := 22) (ls' := [(3, .inl q5.1), (2, .inr (.inr (.inl q3.1))), (0, .inr (.inr (.inl x0))), (1, .inl x1)]) (st' := [.inl q5.1]) rfl ?_
    refine J_eq0 (jat ok_X5_week 14 (pc := 22) (i := .ifCond .eq 5) (n := 3) rfl rfl) (tgt := 27) (by decide) (fun c => ?_) (fun c => ?_)
    · have h := (if_pos c).symm.trans h
      refine J_seg ok_X5_week 17 2 (pc' := 30) (ls' := [(4, .inl 0), (3, .inl q5.1), (2, .inr (.inr (.inl q3.1))), (0, .inr (.inr (.inl x0))), (1, .inl x1)]) (st' := []) rfl ?_
      obtain ⟨q21, h22, h⟩ := Option.bind_eq_some_iff.mp h
      refine J_sub (ls' := [(0, .inr (.inr (.inl x0))), (2, .inr (.inr (.inl q3.1))), (4, .inl 0)]) [3, 2, 0] rfl ?_
      refine J_loop (pE := 69) (lh := fun t24 => [(0, .inr (.inr (.inl x0))), (2, .inr (.inr (.inl q3.1))), (4, .inl t24)]) (lx := fun z23 => [(0, .inr (.inr (.inl x0))), (2, .inr (.inr (.inl q3.1)))]) (P := jRetI l g md_X5_week (jRm (d + 6) md_X5_week) Q (0, 0)) (fun s ah out hb hR hX hN => k_X5_week_b30 d s ah out hb hR hX hN) jfuel 0 _ _ h22 (fun r e => ?_) (fun z23 e => ?_)
      · subst e
        dsimp only at h
        have h := Option.some.inj h
        subst h
        exact hR
      · subst e
        dsimp only at h
        refine J_seg ok_X5_week 37 1 (pc' := 70) (ls' := [(0, .inr (.inr (.inl x0))), (2, .inr (.inr (.inl q3.1)))]) (st' := [.inr (.inr (.inl x0))]) rfl ?_
        obtain ⟨v25, h26, h⟩ := Option.bind_eq_some_iff.mp h
        refine J_getR (jat ok_X5_week 38 (pc := 70) (i := .getfield 28) (n := 3) rfl rfl) fl_RX5_28 h26 ?_
        obtain ⟨v27, h28, h⟩ := Option.bind_eq_some_iff.mp h
        refine J_getI (jat ok_X5_week 39 (pc := 73) (i := .getfield 172) (n := 3) rfl rfl) fl_RX5_172 h28 ?_
        refine J_seg ok_X5_week 40 1 (pc' := 78) (ls' := [(0, .inr (.inr (.inl x0))), (2, .inr (.inr (.inl q3.1)))]) (st' := [.inl 40, .inl v27]) rfl ?_
        refine J_lt (jat ok_X5_week 41 (pc := 78) (i := .if_icmp .lt 6) (n := 3) rfl rfl) (tgt := 84) (by decide) (fun c => ?_) (fun c => ?_)
        · have h := (if_pos c).symm.trans h
          refine J_seg ok_X5_week 44 2 (pc' := 87) (ls' := [(4, .inl 0), (0, .inr (.inr (.inl x0))), (2, .inr (.inr (.inl q3.1)))]) (st' := []) rfl ?_
          obtain ⟨q40, h41, h⟩ := Option.bind_eq_some_iff.mp h
          refine J_sub (ls' := [(0, .inr (.inr (.inl x0))), (2, .inr (.inr (.inl q3.1))), (4, .inl 0)]) [1, 2, 0] rfl ?_
          refine J_loop (pE := 125) (lh := fun t43 => [(0, .inr (.inr (.inl x0))), (2, .inr (.inr (.inl q3.1))), (4, .inl t43)]) (lx := fun z42 => [(0, .inr (.inr (.inl x0)))]) (P := jRetN) (fun s ah out hb hR hX hN => k_X5_week_b87 d s ah out hb hR hX hN) jfuel 0 _ _ h41 (fun r e => ?_) (fun z42 e => ?_)
          · subst e
            dsimp only at h
            cases h
          · subst e
            dsimp only at h
            refine J_sub (ls' := [(0, .inr (.inr (.inl x0)))]) [0] rfl ?_
            exact k_X5_week_j125 d _ _ h hR
        · have h := (if_neg c).symm.trans h
          refine J_seg ok_X5_week 42 1 (pc' := 83) (ls' := [(0, .inr (.inr (.inl x0))), (2, .inr (.inr (.inl q3.1)))]) (st' := [.inl (-2)]) rfl ?_
          have h := Option.some.inj h
          subst h
          exact hR _ _ (jat ok_X5_week 43 (pc := 83) (i := .ireturn) (n := 1) rfl rfl)
    · have h := (if_neg c).symm.trans h
      refine J_seg ok_X5_week 15 1 (pc' := 26) (ls' := [(3, .inl q5.1), (2, .inr (.inr (.inl q3.1))), (0, .inr (.inr (.inl x0))), (1, .inl x1)]) (st' := [.inl q5.1]) rfl ?_
      have h := Option.some.inj h
      subst h
      exact hR _ _ (jat ok_X5_week 16 (pc := 26) (i := .ireturn) (n := 1) rfl rfl)
  · have h := (if_pos c).symm.trans h
    refine J_seg ok_X5_week 7 1 (pc' := 14) (ls' := [(2, .inr (.inr (.inl q3.1))), (0, .inr (.inr (.inl x0))), (1, .inl x1)]) (st' := [.inl (-1)]) rfl ?_
    have h := Option.some.inj h
    subst h
    exact hR _ _ (jat ok_X5_week 8 (pc := 14) (i := .ireturn) (n := 1) rfl rfl)
theorem c_X5_week (l : Launch) (g : GX) (d : Nat) {x0 : Option Nat} {x1 : Int32} {ah : AH} {q : Int32 × AH} (h : f_X5_week x0 x1 ah = some q) : jM l g (d + 6) md_X5_week [.inr (.inr (.inl x0)), .inl x1] ah (some (.inl q.1)) q.2 :=
  jM_of (by decide) (Nat.le_of_ble_eq_true rfl) (k_X5_week d ah q h (fun pc ls hd => J_reti hd rfl (jPV_int _) rfl (Nat.le_refl _) rfl rfl))
def f_X5_exchange (x0 : Option Nat) (x1 : Int32) (x2 : Int32) (ah : AH) : Option (Int32 × AH) :=
  if qO ah x0 5 = true then ((f_X5_isPair x0 x1 x2 ah).bind fun q1 => if q1.1 = 0 then (some ((-1), q1.2)) else ((gR q1.2 x0 5 3).bind fun v4 => if qO q1.2 v4 4 = true then ((f_X4_victimOf v4 x1 q1.2).bind fun q6 => (gR q6.2 x0 5 3).bind fun v9 => if qO q6.2 v9 4 = true then ((f_X4_victimOf v9 x2 q6.2).bind fun q11 => if q6.1 = x2 then (some ((-4), q11.2)) else (if q11.1 = x1 then (some ((-4), q11.2)) else ((gR q11.2 x0 5 3).bind fun v14 => if qO q11.2 v14 4 = true then ((f_X4_beginTurn v14 q11.2).bind fun q16 => if q16.1 = 0 then (some ((-2), q16.2)) else ((gR q16.2 x0 5 3).bind fun v19 => if qO q16.2 v19 4 = true then ((f_X4_setVictim v19 x1 q11.1 q16.2).bind fun q21 => (gR q21.2 x0 5 3).bind fun v24 => if qO q21.2 v24 4 = true then ((f_X4_setVictim v24 x2 q6.1 q21.2).bind fun q26 => some (1, q26.2)) else none) else none)) else none))) else none) else none)) else none
set_option maxRecDepth 100000 in
set_option maxHeartbeats 4000000 in
theorem k_X5_exchange {l : Launch} {g : GX} (d : Nat) {Q : jQ} {x0 : Option Nat} {x1 : Int32} {x2 : Int32} (ah : AH) (out : Int32 × AH) (h : f_X5_exchange x0 x1 x2 ah = some out) (hR : jRetI l g md_X5_exchange (jRm (d + 2) md_X5_exchange) Q (0, 0) out.1 out.2) : J l g md_X5_exchange (jRm (d + 2) md_X5_exchange) Q 0 [(0, .inr (.inr (.inl x0))), (1, .inl x1), (2, .inl x2)] [] ah (0, 0) := by
  unfold f_X5_exchange at h
  refine J_seg ok_X5_exchange 0 3 (pc' := 3) (ls' := [(0, .inr (.inr (.inl x0))), (1, .inl x1), (2, .inl x2)]) (st' := [.inl x2, .inl x1, .inr (.inr (.inl x0))]) rfl ?_
  by_cases c3 : qO ah x0 5 = true
  case neg => exact absurd ((if_neg c3).symm.trans h) (by simp)
  have h := (if_pos c3).symm.trans h
  obtain ⟨q1, h2, h⟩ := Option.bind_eq_some_iff.mp h
  refine J_callV (md' := md_X5_isPair) (As := [.inl x1, .inl x2]) (st := []) (cs' := (0, 0)) (st' := [.inl q1.1]) (jat ok_X5_exchange 3 (pc := 3) (i := .invokevirtual 159) (n := 3) rfl rfl) ml_RX5_159 yv_X5_isPair c3 (c_X5_isPair l g (d + 0) h2) (jRo_of (by decide)) (Nat.le_of_ble_eq_true rfl) ⟨Nat.le_of_ble_eq_true rfl, Nat.le_of_ble_eq_true rfl⟩ rfl rfl rfl ?_
  refine J_ne0 (jat ok_X5_exchange 4 (pc := 6) (i := .ifCond .ne 5) (n := 3) rfl rfl) (tgt := 11) (by decide) (fun c => ?_) (fun c => ?_)
  · have h := (if_neg c).symm.trans h
    refine J_seg ok_X5_exchange 7 1 (pc' := 12) (ls' := [(0, .inr (.inr (.inl x0))), (1, .inl x1), (2, .inl x2)]) (st' := [.inr (.inr (.inl x0))]) rfl ?_
    obtain ⟨v4, h5, h⟩ := Option.bind_eq_some_iff.mp h
    refine J_getR (jat ok_X5_exchange 8 (pc := 12) (i := .getfield 28) (n := 3) rfl rfl) fl_RX5_28 h5 ?_
    refine J_seg ok_X5_exchange 9 1 (pc' := 16) (ls' := [(0, .inr (.inr (.inl x0))), (1, .inl x1), (2, .inl x2)]) (st' := [.inl x1, .inr (.inr (.inl v4))]) rfl ?_
    by_cases c8 : qO q1.2 v4 4 = true
    case neg => exact absurd ((if_neg c8).symm.trans h) (by simp)
    have h := (if_pos c8).symm.trans h
    obtain ⟨q6, h7, h⟩ := Option.bind_eq_some_iff.mp h
    refine J_callV (md' := md_X4_victimOf) (As := [.inl x1]) (st := []) (cs' := (0, 0)) (st' := [.inl q6.1]) (jat ok_X5_exchange 10 (pc := 16) (i := .invokevirtual 178) (n := 3) rfl rfl) ml_RX5_178 yv_X4_victimOf c8 (c_X4_victimOf l g (d + 0) h7) (jRo_of (by decide)) (Nat.le_of_ble_eq_true rfl) ⟨Nat.le_of_ble_eq_true rfl, Nat.le_of_ble_eq_true rfl⟩ rfl rfl rfl ?_
    refine J_seg ok_X5_exchange 11 2 (pc' := 21) (ls' := [(3, .inl q6.1), (0, .inr (.inr (.inl x0))), (1, .inl x1), (2, .inl x2)]) (st' := [.inr (.inr (.inl x0))]) rfl ?_
    obtain ⟨v9, h10, h⟩ := Option.bind_eq_some_iff.mp h
    refine J_getR (jat ok_X5_exchange 13 (pc := 21) (i := .getfield 28) (n := 3) rfl rfl) fl_RX5_28 h10 ?_
    refine J_seg ok_X5_exchange 14 1 (pc' := 25) (ls' := [(3, .inl q6.1), (0, .inr (.inr (.inl x0))), (1, .inl x1), (2, .inl x2)]) (st' := [.inl x2, .inr (.inr (.inl v9))]) rfl ?_
    by_cases c13 : qO q6.2 v9 4 = true
    case neg => exact absurd ((if_neg c13).symm.trans h) (by simp)
    have h := (if_pos c13).symm.trans h
    obtain ⟨q11, h12, h⟩ := Option.bind_eq_some_iff.mp h
    refine J_callV (md' := md_X4_victimOf) (As := [.inl x2]) (st := []) (cs' := (0, 0)) (st' := [.inl q11.1]) (jat ok_X5_exchange 15 (pc := 25) (i := .invokevirtual 178) (n := 3) rfl rfl) ml_RX5_178 yv_X4_victimOf c13 (c_X4_victimOf l g (d + 0) h12) (jRo_of (by decide)) (Nat.le_of_ble_eq_true rfl) ⟨Nat.le_of_ble_eq_true rfl, Nat.le_of_ble_eq_true rfl⟩ rfl rfl rfl ?_
    refine J_seg ok_X5_exchange 16 3 (pc' := 32) (ls' := [(4, .inl q11.1), (3, .inl q6.1), (0, .inr (.inr (.inl x0))), (1, .inl x1), (2, .inl x2)]) (st' := [.inl x2, .inl q6.1]) rfl ?_
    refine J_eq (jat ok_X5_exchange 19 (pc := 32) (i := .if_icmp .eq 9) (n := 3) rfl rfl) (tgt := 41) (by decide) (fun c => ?_) (fun c => ?_)
    · have h := (if_pos c).symm.trans h
      refine J_seg ok_X5_exchange 23 1 (pc' := 43) (ls' := [(4, .inl q11.1), (3, .inl q6.1), (0, .inr (.inr (.inl x0))), (1, .inl x1), (2, .inl x2)]) (st' := [.inl (-4)]) rfl ?_
      have h := Option.some.inj h
      subst h
      exact hR _ _ (jat ok_X5_exchange 24 (pc := 43) (i := .ireturn) (n := 1) rfl rfl)
    · have h := (if_neg c).symm.trans h
      refine J_seg ok_X5_exchange 20 2 (pc' := 38) (ls' := [(4, .inl q11.1), (3, .inl q6.1), (0, .inr (.inr (.inl x0))), (1, .inl x1), (2, .inl x2)]) (st' := [.inl x1, .inl q11.1]) rfl ?_
      refine J_ne (jat ok_X5_exchange 22 (pc := 38) (i := .if_icmp .ne 6) (n := 3) rfl rfl) (tgt := 44) (by decide) (fun c => ?_) (fun c => ?_)
      · have h := (if_neg c).symm.trans h
        refine J_seg ok_X5_exchange 25 1 (pc' := 45) (ls' := [(4, .inl q11.1), (3, .inl q6.1), (0, .inr (.inr (.inl x0))), (1, .inl x1), (2, .inl x2)]) (st' := [.inr (.inr (.inl x0))]) rfl ?_
        obtain ⟨v14, h15, h⟩ := Option.bind_eq_some_iff.mp h
        refine J_getR (jat ok_X5_exchange 26 (pc := 45) (i := .getfield 28) (n := 3) rfl rfl) fl_RX5_28 h15 ?_
        by_cases c18 : qO q11.2 v14 4 = true
        case neg => exact absurd ((if_neg c18).symm.trans h) (by simp)
        have h := (if_pos c18).symm.trans h
        obtain ⟨q16, h17, h⟩ := Option.bind_eq_some_iff.mp h
        refine J_callV (md' := md_X4_beginTurn) (As := []) (st := []) (cs' := (0, 0)) (st' := [.inl q16.1]) (jat ok_X5_exchange 27 (pc := 48) (i := .invokevirtual 181) (n := 3) rfl rfl) ml_RX5_181 yv_X4_beginTurn c18 (c_X4_beginTurn l g (d + 0) h17) (jRo_of (by decide)) (Nat.le_of_ble_eq_true rfl) ⟨Nat.le_of_ble_eq_true rfl, Nat.le_of_ble_eq_true rfl⟩ rfl rfl rfl ?_
        refine J_ne0 (jat ok_X5_exchange 28 (pc := 51) (i := .ifCond .ne 6) (n := 3) rfl rfl) (tgt := 57) (by decide) (fun c => ?_) (fun c => ?_)
        · have h := (if_neg c).symm.trans h
          refine J_seg ok_X5_exchange 31 1 (pc' := 58) (ls' := [(4, .inl q11.1), (3, .inl q6.1), (0, .inr (.inr (.inl x0))), (1, .inl x1), (2, .inl x2)]) (st' := [.inr (.inr (.inl x0))]) rfl ?_
          obtain ⟨v19, h20, h⟩ := Option.bind_eq_some_iff.mp h
          refine J_getR (jat ok_X5_exchange 32 (pc := 58) (i := .getfield 28) (n := 3) rfl rfl) fl_RX5_28 h20 ?_
          refine J_seg ok_X5_exchange 33 2 (pc' := 64) (ls' := [(4, .inl q11.1), (3, .inl q6.1), (0, .inr (.inr (.inl x0))), (1, .inl x1), (2, .inl x2)]) (st' := [.inl q11.1, .inl x1, .inr (.inr (.inl v19))]) rfl ?_
          by_cases c23 : qO q16.2 v19 4 = true
          case neg => exact absurd ((if_neg c23).symm.trans h) (by simp)
          have h := (if_pos c23).symm.trans h
          obtain ⟨q21, h22, h⟩ := Option.bind_eq_some_iff.mp h
          refine J_callV (md' := md_X4_setVictim) (As := [.inl x1, .inl q11.1]) (st := []) (cs' := (0, 0)) (st' := []) (jat ok_X5_exchange 35 (pc := 64) (i := .invokevirtual 184) (n := 3) rfl rfl) ml_RX5_184 yv_X4_setVictim c23 (c_X4_setVictim l g (d + 0) h22) (jRo_of (by decide)) (Nat.le_of_ble_eq_true rfl) ⟨Nat.le_of_ble_eq_true rfl, Nat.le_of_ble_eq_true rfl⟩ rfl rfl rfl ?_
          refine J_seg ok_X5_exchange 36 1 (pc' := 68) (ls' := [(4, .inl q11.1), (3, .inl q6.1), (0, .inr (.inr (.inl x0))), (1, .inl x1), (2, .inl x2)]) (st' := [.inr (.inr (.inl x0))]) rfl ?_
          obtain ⟨v24, h25, h⟩ := Option.bind_eq_some_iff.mp h
          refine J_getR (jat ok_X5_exchange 37 (pc := 68) (i := .getfield 28) (n := 3) rfl rfl) fl_RX5_28 h25 ?_
          refine J_seg ok_X5_exchange 38 2 (pc' := 73) (ls' := [(4, .inl q11.1), (3, .inl q6.1), (0, .inr (.inr (.inl x0))), (1, .inl x1), (2, .inl x2)]) (st' := [.inl q6.1, .inl x2, .inr (.inr (.inl v24))]) rfl ?_
          by_cases c28 : qO q21.2 v24 4 = true
          case neg => exact absurd ((if_neg c28).symm.trans h) (by simp)
          have h := (if_pos c28).symm.trans h
          obtain ⟨q26, h27, h⟩ := Option.bind_eq_some_iff.mp h
          refine J_callV (md' := md_X4_setVictim) (As := [.inl x2, .inl q6.1]) (st := []) (cs' := (0, 0)) (st' := []) (jat ok_X5_exchange 40 (pc := 73) (i := .invokevirtual 184) (n := 3) rfl rfl) ml_RX5_184 yv_X4_setVictim c28 (c_X4_setVictim l g (d + 0) h27) (jRo_of (by decide)) (Nat.le_of_ble_eq_true rfl) ⟨Nat.le_of_ble_eq_true rfl, Nat.le_of_ble_eq_true rfl⟩ rfl rfl rfl ?_
          refine J_seg ok_X5_exchange 41 1 (pc' := 77) (ls' := [(4, .inl q11.1), (3, .inl q6.1), (0, .inr (.inr (.inl x0))), (1, .inl x1), (2, .inl x2)]) (st' := [.inl 1]) rfl ?_
          have h := Option.some.inj h
          subst h
          exact hR _ _ (jat ok_X5_exchange 42 (pc := 77) (i := .ireturn) (n := 1) rfl rfl)
        · have h := (if_pos c).symm.trans h
          refine J_seg ok_X5_exchange 29 1 (pc' := 56) (ls' := [(4, .inl q11.1), (3, .inl q6.1), (0, .inr (.inr (.inl x0))), (1, .inl x1), (2, .inl x2)]) (st' := [.inl (-2)]) rfl ?_
          have h := Option.some.inj h
          subst h
          exact hR _ _ (jat ok_X5_exchange 30 (pc := 56) (i := .ireturn) (n := 1) rfl rfl)
      · have h := (if_pos c).symm.trans h
        refine J_seg ok_X5_exchange 23 1 (pc' := 43) (ls' := [(4, .inl q11.1), (3, .inl q6.1), (0, .inr (.inr (.inl x0))), (1, .inl x1), (2, .inl x2)]) (st' := [.inl (-4)]) rfl ?_
        have h := Option.some.inj h
        subst h
        exact hR _ _ (jat ok_X5_exchange 24 (pc := 43) (i := .ireturn) (n := 1) rfl rfl)
  · have h := (if_pos c).symm.trans h
    refine J_seg ok_X5_exchange 5 1 (pc' := 10) (ls' := [(0, .inr (.inr (.inl x0))), (1, .inl x1), (2, .inl x2)]) (st' := [.inl (-1)]) rfl ?_
    have h := Option.some.inj h
    subst h
    exact hR _ _ (jat ok_X5_exchange 6 (pc := 10) (i := .ireturn) (n := 1) rfl rfl)
theorem c_X5_exchange (l : Launch) (g : GX) (d : Nat) {x0 : Option Nat} {x1 : Int32} {x2 : Int32} {ah : AH} {q : Int32 × AH} (h : f_X5_exchange x0 x1 x2 ah = some q) : jM l g (d + 2) md_X5_exchange [.inr (.inr (.inl x0)), .inl x1, .inl x2] ah (some (.inl q.1)) q.2 :=
  jM_of (by decide) (Nat.le_of_ble_eq_true rfl) (k_X5_exchange d ah q h (fun pc ls hd => J_reti hd rfl (jPV_int _) rfl (Nat.le_refl _) rfl rfl))
def f_X5_undo (x0 : Option Nat) (x1 : Int32) (ah : AH) : Option (Int32 × AH) :=
  if x1 < 0 then (some ((-1), ah)) else ((gR ah x0 5 3).bind fun v1 => (gI ah v1 4 3).bind fun v3 => if x1 ≤ v3 then ((gR ah x0 5 3).bind fun v5 => if qO ah v5 4 = true then ((f_X4_backTo v5 x1 ah).bind fun q7 => some (q7.1, q7.2)) else none) else (some ((-1), ah)))
set_option maxRecDepth 100000 in
set_option maxHeartbeats 4000000 in
theorem k_X5_undo {l : Launch} {g : GX} (d : Nat) {Q : jQ} {x0 : Option Nat} {x1 : Int32} (ah : AH) (out : Int32 × AH) (h : f_X5_undo x0 x1 ah = some out) (hR : jRetI l g md_X5_undo (jRm (d + 1) md_X5_undo) Q (0, 0) out.1 out.2) : J l g md_X5_undo (jRm (d + 1) md_X5_undo) Q 0 [(0, .inr (.inr (.inl x0))), (1, .inl x1)] [] ah (0, 0) := by
  unfold f_X5_undo at h
  refine J_seg ok_X5_undo 0 1 (pc' := 1) (ls' := [(0, .inr (.inr (.inl x0))), (1, .inl x1)]) (st' := [.inl x1]) rfl ?_
  refine J_lt0 (jat ok_X5_undo 1 (pc := 1) (i := .ifCond .lt 14) (n := 3) rfl rfl) (tgt := 15) (by decide) (fun c => ?_) (fun c => ?_)
  · have h := (if_pos c).symm.trans h
    refine J_seg ok_X5_undo 7 2 (pc' := 27) (ls' := [(0, .inr (.inr (.inl x0))), (1, .inl x1)]) (st' := [.inl (-1)]) rfl ?_
    have h := Option.some.inj h
    subst h
    exact hR _ _ (jat ok_X5_undo 13 (pc := 27) (i := .ireturn) (n := 1) rfl rfl)
  · have h := (if_neg c).symm.trans h
    refine J_seg ok_X5_undo 2 2 (pc' := 6) (ls' := [(0, .inr (.inr (.inl x0))), (1, .inl x1)]) (st' := [.inr (.inr (.inl x0)), .inl x1]) rfl ?_
    obtain ⟨v1, h2, h⟩ := Option.bind_eq_some_iff.mp h
    refine J_getR (jat ok_X5_undo 4 (pc := 6) (i := .getfield 28) (n := 3) rfl rfl) fl_RX5_28 h2 ?_
    obtain ⟨v3, h4, h⟩ := Option.bind_eq_some_iff.mp h
    refine J_getI (jat ok_X5_undo 5 (pc := 9) (i := .getfield 172) (n := 3) rfl rfl) fl_RX5_172 h4 ?_
    refine J_le (jat ok_X5_undo 6 (pc := 12) (i := .if_icmp .le 7) (n := 3) rfl rfl) (tgt := 19) (by decide) (fun c => ?_) (fun c => ?_)
    · have h := (if_pos c).symm.trans h
      refine J_seg ok_X5_undo 9 1 (pc' := 20) (ls' := [(0, .inr (.inr (.inl x0))), (1, .inl x1)]) (st' := [.inr (.inr (.inl x0))]) rfl ?_
      obtain ⟨v5, h6, h⟩ := Option.bind_eq_some_iff.mp h
      refine J_getR (jat ok_X5_undo 10 (pc := 20) (i := .getfield 28) (n := 3) rfl rfl) fl_RX5_28 h6 ?_
      refine J_seg ok_X5_undo 11 1 (pc' := 24) (ls' := [(0, .inr (.inr (.inl x0))), (1, .inl x1)]) (st' := [.inl x1, .inr (.inr (.inl v5))]) rfl ?_
      by_cases c9 : qO ah v5 4 = true
      case neg => exact absurd ((if_neg c9).symm.trans h) (by simp)
      have h := (if_pos c9).symm.trans h
      obtain ⟨q7, h8, h⟩ := Option.bind_eq_some_iff.mp h
      refine J_callV (md' := md_X4_backTo) (As := [.inl x1]) (st := []) (cs' := (0, 0)) (st' := [.inl q7.1]) (jat ok_X5_undo 12 (pc := 24) (i := .invokevirtual 187) (n := 3) rfl rfl) ml_RX5_187 yv_X4_backTo c9 (c_X4_backTo l g (d + 0) h8) (jRo_of (by decide)) (Nat.le_of_ble_eq_true rfl) ⟨Nat.le_of_ble_eq_true rfl, Nat.le_of_ble_eq_true rfl⟩ rfl rfl rfl ?_
      have h := Option.some.inj h
      subst h
      exact hR _ _ (jat ok_X5_undo 13 (pc := 27) (i := .ireturn) (n := 1) rfl rfl)
    · have h := (if_neg c).symm.trans h
      refine J_seg ok_X5_undo 7 2 (pc' := 27) (ls' := [(0, .inr (.inr (.inl x0))), (1, .inl x1)]) (st' := [.inl (-1)]) rfl ?_
      have h := Option.some.inj h
      subst h
      exact hR _ _ (jat ok_X5_undo 13 (pc := 27) (i := .ireturn) (n := 1) rfl rfl)
theorem c_X5_undo (l : Launch) (g : GX) (d : Nat) {x0 : Option Nat} {x1 : Int32} {ah : AH} {q : Int32 × AH} (h : f_X5_undo x0 x1 ah = some q) : jM l g (d + 1) md_X5_undo [.inr (.inr (.inl x0)), .inl x1] ah (some (.inl q.1)) q.2 :=
  jM_of (by decide) (Nat.le_of_ble_eq_true rfl) (k_X5_undo d ah q h (fun pc ls hd => J_reti hd rfl (jPV_int _) rfl (Nat.le_refl _) rfl rfl))
def f_X5_shelfAt (x0 : Option Nat) (x1 : Int32) (ah : AH) : Option (Option Nat × AH) :=
  if x1 < 0 then (some (none, ah)) else ((gR ah x0 5 4).bind fun v1 => (lA ah v1).bind fun v3 => if v3 ≤ x1 then (some (none, ah)) else ((gR ah x0 5 4).bind fun v5 => (gE ah v5 x1).bind fun v7 => some (v7, ah)))
set_option maxRecDepth 100000 in
set_option maxHeartbeats 4000000 in
theorem k_X5_shelfAt {l : Launch} {g : GX} (d : Nat) {Q : jQ} {x0 : Option Nat} {x1 : Int32} (ah : AH) (out : Option Nat × AH) (h : f_X5_shelfAt x0 x1 ah = some out) (hR : jRetA l g md_X5_shelfAt (jRm (d + 0) md_X5_shelfAt) Q (0, 0) out.1 out.2) : J l g md_X5_shelfAt (jRm (d + 0) md_X5_shelfAt) Q 0 [(0, .inr (.inr (.inl x0))), (1, .inl x1)] [] ah (0, 0) := by
  unfold f_X5_shelfAt at h
  refine J_seg ok_X5_shelfAt 0 1 (pc' := 1) (ls' := [(0, .inr (.inr (.inl x0))), (1, .inl x1)]) (st' := [.inl x1]) rfl ?_
  refine J_lt0 (jat ok_X5_shelfAt 1 (pc := 1) (i := .ifCond .lt 21) (n := 3) rfl rfl) (tgt := 22) (by decide) (fun c => ?_) (fun c => ?_)
  · have h := (if_pos c).symm.trans h
    refine J_seg ok_X5_shelfAt 12 1 (pc' := 23) (ls' := [(0, .inr (.inr (.inl x0))), (1, .inl x1)]) (st' := [.inr (.inr (.inl none))]) rfl ?_
    have h := Option.some.inj h
    subst h
    exact hR _ _ (jat ok_X5_shelfAt 13 (pc := 23) (i := .areturn) (n := 1) rfl rfl)
  · have h := (if_neg c).symm.trans h
    refine J_seg ok_X5_shelfAt 2 2 (pc' := 6) (ls' := [(0, .inr (.inr (.inl x0))), (1, .inl x1)]) (st' := [.inr (.inr (.inl x0)), .inl x1]) rfl ?_
    obtain ⟨v1, h2, h⟩ := Option.bind_eq_some_iff.mp h
    refine J_getR (jat ok_X5_shelfAt 4 (pc := 6) (i := .getfield 32) (n := 3) rfl rfl) fl_RX5_32 h2 ?_
    obtain ⟨v3, h4, h⟩ := Option.bind_eq_some_iff.mp h
    refine J_alen (jat ok_X5_shelfAt 5 (pc := 9) (i := .arraylength) (n := 1) rfl rfl) h4 ?_
    refine J_ge (jat ok_X5_shelfAt 6 (pc := 10) (i := .if_icmp .ge 12) (n := 3) rfl rfl) (tgt := 22) (by decide) (fun c => ?_) (fun c => ?_)
    · have h := (if_pos c).symm.trans h
      refine J_seg ok_X5_shelfAt 12 1 (pc' := 23) (ls' := [(0, .inr (.inr (.inl x0))), (1, .inl x1)]) (st' := [.inr (.inr (.inl none))]) rfl ?_
      have h := Option.some.inj h
      subst h
      exact hR _ _ (jat ok_X5_shelfAt 13 (pc := 23) (i := .areturn) (n := 1) rfl rfl)
    · have h := (if_neg c).symm.trans h
      refine J_seg ok_X5_shelfAt 7 1 (pc' := 14) (ls' := [(0, .inr (.inr (.inl x0))), (1, .inl x1)]) (st' := [.inr (.inr (.inl x0))]) rfl ?_
      obtain ⟨v5, h6, h⟩ := Option.bind_eq_some_iff.mp h
      refine J_getR (jat ok_X5_shelfAt 8 (pc := 14) (i := .getfield 32) (n := 3) rfl rfl) fl_RX5_32 h6 ?_
      refine J_seg ok_X5_shelfAt 9 1 (pc' := 18) (ls' := [(0, .inr (.inr (.inl x0))), (1, .inl x1)]) (st' := [.inl x1, .inr (.inr (.inl v5))]) rfl ?_
      obtain ⟨v7, h8, h⟩ := Option.bind_eq_some_iff.mp h
      refine J_aald (jat ok_X5_shelfAt 10 (pc := 18) (i := .aaload) (n := 1) rfl rfl) h8 ?_
      refine J_seg ok_X5_shelfAt 11 1 (pc' := 23) (ls' := [(0, .inr (.inr (.inl x0))), (1, .inl x1)]) (st' := [.inr (.inr (.inl v7))]) rfl ?_
      have h := Option.some.inj h
      subst h
      exact hR _ _ (jat ok_X5_shelfAt 13 (pc := 23) (i := .areturn) (n := 1) rfl rfl)
theorem c_X5_shelfAt (l : Launch) (g : GX) (d : Nat) {x0 : Option Nat} {x1 : Int32} {ah : AH} {q : Option Nat × AH} (h : f_X5_shelfAt x0 x1 ah = some q) : jM l g (d + 0) md_X5_shelfAt [.inr (.inr (.inl x0)), .inl x1] ah (some (.inr (.inr (.inl q.1)))) q.2 :=
  jM_of (by decide) (Nat.le_of_ble_eq_true rfl) (k_X5_shelfAt d ah q h (fun pc ls hd => J_reta hd rfl rfl (Nat.le_refl _) rfl rfl))
def f_X5_keep (x0 : Option Nat) (x1 : Int32) (ah : AH) : Option (Int32 × AH) :=
  if qO ah x0 5 = true then ((f_X5_shelfAt x0 x1 ah).bind fun q1 => if q1.1 = none then (some ((-1), q1.2)) else ((gR q1.2 x0 5 8).bind fun v4 => (gI q1.2 v4 1 5).bind fun v6 => if v6 = 0 then (some ((-4), q1.2)) else ((gR q1.2 x0 5 3).bind fun v8 => if qO q1.2 q1.1 4 = true then ((f_X4_take q1.1 v8 q1.2).bind fun q10 => (sF q10.2 q1.1 4 4 (.inl 1)).bind fun a13 => (gR a13 x0 5 3).bind fun v15 => (gI a13 v15 4 3).bind fun v17 => some (v17, a13)) else none))) else none
set_option maxRecDepth 100000 in
set_option maxHeartbeats 4000000 in
theorem k_X5_keep {l : Launch} {g : GX} (d : Nat) {Q : jQ} {x0 : Option Nat} {x1 : Int32} (ah : AH) (out : Int32 × AH) (h : f_X5_keep x0 x1 ah = some out) (hR : jRetI l g md_X5_keep (jRm (d + 2) md_X5_keep) Q (0, 0) out.1 out.2) : J l g md_X5_keep (jRm (d + 2) md_X5_keep) Q 0 [(0, .inr (.inr (.inl x0))), (1, .inl x1)] [] ah (0, 0) := by
  unfold f_X5_keep at h
  refine J_seg ok_X5_keep 0 2 (pc' := 2) (ls' := [(0, .inr (.inr (.inl x0))), (1, .inl x1)]) (st' := [.inl x1, .inr (.inr (.inl x0))]) rfl ?_
  by_cases c3 : qO ah x0 5 = true
  case neg => exact absurd ((if_neg c3).symm.trans h) (by simp)
  have h := (if_pos c3).symm.trans h
  obtain ⟨q1, h2, h⟩ := Option.bind_eq_some_iff.mp h
  refine J_callV (md' := md_X5_shelfAt) (As := [.inl x1]) (st := []) (cs' := (0, 0)) (st' := [.inr (.inr (.inl q1.1))]) (jat ok_X5_keep 2 (pc := 2) (i := .invokevirtual 190) (n := 3) rfl rfl) ml_RX5_190 yv_X5_shelfAt c3 (c_X5_shelfAt l g (d + 1) h2) (jRo_of (by decide)) (Nat.le_of_ble_eq_true rfl) ⟨Nat.le_of_ble_eq_true rfl, Nat.le_of_ble_eq_true rfl⟩ rfl rfl rfl ?_
  refine J_seg ok_X5_keep 3 2 (pc' := 7) (ls' := [(2, .inr (.inr (.inl q1.1))), (0, .inr (.inr (.inl x0))), (1, .inl x1)]) (st' := [.inr (.inr (.inl q1.1))]) rfl ?_
  refine J_nonnull (jat ok_X5_keep 5 (pc := 7) (i := .ifnonnull 5) (n := 3) rfl rfl) (tgt := 12) (by decide) (fun c => ?_) (fun c => ?_)
  · have h := (if_neg c).symm.trans h
    refine J_seg ok_X5_keep 8 1 (pc' := 13) (ls' := [(2, .inr (.inr (.inl q1.1))), (0, .inr (.inr (.inl x0))), (1, .inl x1)]) (st' := [.inr (.inr (.inl x0))]) rfl ?_
    obtain ⟨v4, h5, h⟩ := Option.bind_eq_some_iff.mp h
    refine J_getR (jat ok_X5_keep 9 (pc := 13) (i := .getfield 53) (n := 3) rfl rfl) fl_RX5_53 h5 ?_
    obtain ⟨v6, h7, h⟩ := Option.bind_eq_some_iff.mp h
    refine J_getI (jat ok_X5_keep 10 (pc := 16) (i := .getfield 127) (n := 3) rfl rfl) fl_RX5_127 h7 ?_
    refine J_ne0 (jat ok_X5_keep 11 (pc := 19) (i := .ifCond .ne 6) (n := 3) rfl rfl) (tgt := 25) (by decide) (fun c => ?_) (fun c => ?_)
    · have h := (if_neg c).symm.trans h
      refine J_seg ok_X5_keep 14 2 (pc' := 27) (ls' := [(2, .inr (.inr (.inl q1.1))), (0, .inr (.inr (.inl x0))), (1, .inl x1)]) (st' := [.inr (.inr (.inl x0)), .inr (.inr (.inl q1.1))]) rfl ?_
      obtain ⟨v8, h9, h⟩ := Option.bind_eq_some_iff.mp h
      refine J_getR (jat ok_X5_keep 16 (pc := 27) (i := .getfield 28) (n := 3) rfl rfl) fl_RX5_28 h9 ?_
      by_cases c12 : qO q1.2 q1.1 4 = true
      case neg => exact absurd ((if_neg c12).symm.trans h) (by simp)
      have h := (if_pos c12).symm.trans h
      obtain ⟨q10, h11, h⟩ := Option.bind_eq_some_iff.mp h
      refine J_callV (md' := md_X4_take) (As := [.inr (.inr (.inl v8))]) (st := []) (cs' := (0, 0)) (st' := []) (jat ok_X5_keep 17 (pc := 30) (i := .invokevirtual 194) (n := 3) rfl rfl) ml_RX5_194 yv_X4_take c12 (c_X4_take l g (d + 0) h11) (jRo_of (by decide)) (Nat.le_of_ble_eq_true rfl) ⟨Nat.le_of_ble_eq_true rfl, Nat.le_of_ble_eq_true rfl⟩ rfl rfl rfl ?_
      refine J_seg ok_X5_keep 18 2 (pc' := 35) (ls' := [(2, .inr (.inr (.inl q1.1))), (0, .inr (.inr (.inl x0))), (1, .inl x1)]) (st' := [.inl 1, .inr (.inr (.inl q1.1))]) rfl ?_
      obtain ⟨a13, h14, h⟩ := Option.bind_eq_some_iff.mp h
      refine J_put (jat ok_X5_keep 20 (pc := 35) (i := .putfield 123) (n := 3) rfl rfl) (fp_RX5_123 _) jPV_z1 h14 ?_
      refine J_seg ok_X5_keep 21 1 (pc' := 39) (ls' := [(2, .inr (.inr (.inl q1.1))), (0, .inr (.inr (.inl x0))), (1, .inl x1)]) (st' := [.inr (.inr (.inl x0))]) rfl ?_
      obtain ⟨v15, h16, h⟩ := Option.bind_eq_some_iff.mp h
      refine J_getR (jat ok_X5_keep 22 (pc := 39) (i := .getfield 28) (n := 3) rfl rfl) fl_RX5_28 h16 ?_
      obtain ⟨v17, h18, h⟩ := Option.bind_eq_some_iff.mp h
      refine J_getI (jat ok_X5_keep 23 (pc := 42) (i := .getfield 172) (n := 3) rfl rfl) fl_RX5_172 h18 ?_
      have h := Option.some.inj h
      subst h
      exact hR _ _ (jat ok_X5_keep 24 (pc := 45) (i := .ireturn) (n := 1) rfl rfl)
    · have h := (if_pos c).symm.trans h
      refine J_seg ok_X5_keep 12 1 (pc' := 24) (ls' := [(2, .inr (.inr (.inl q1.1))), (0, .inr (.inr (.inl x0))), (1, .inl x1)]) (st' := [.inl (-4)]) rfl ?_
      have h := Option.some.inj h
      subst h
      exact hR _ _ (jat ok_X5_keep 13 (pc := 24) (i := .ireturn) (n := 1) rfl rfl)
  · have h := (if_pos c).symm.trans h
    refine J_seg ok_X5_keep 6 1 (pc' := 11) (ls' := [(2, .inr (.inr (.inl q1.1))), (0, .inr (.inr (.inl x0))), (1, .inl x1)]) (st' := [.inl (-1)]) rfl ?_
    have h := Option.some.inj h
    subst h
    exact hR _ _ (jat ok_X5_keep 7 (pc := 11) (i := .ireturn) (n := 1) rfl rfl)
theorem c_X5_keep (l : Launch) (g : GX) (d : Nat) {x0 : Option Nat} {x1 : Int32} {ah : AH} {q : Int32 × AH} (h : f_X5_keep x0 x1 ah = some q) : jM l g (d + 2) md_X5_keep [.inr (.inr (.inl x0)), .inl x1] ah (some (.inl q.1)) q.2 :=
  jM_of (by decide) (Nat.le_of_ble_eq_true rfl) (k_X5_keep d ah q h (fun pc ls hd => J_reti hd rfl (jPV_int _) rfl (Nat.le_refl _) rfl rfl))
def f_X5_on (x0 : Option Nat) (x1 : Int32) (ah : AH) : Option (Int32 × AH) :=
  if qO ah x0 5 = true then ((f_X5_shelfAt x0 x1 ah).bind fun q1 => if q1.1 = none then (some ((-1), q1.2)) else ((gI q1.2 q1.1 4 4).bind fun v4 => if v4 = 0 then (if qO q1.2 x0 5 = true then ((f_X5_find x0 1 q1.2).bind fun q15 => some (q15.1, q15.2)) else none) else ((gR q1.2 x0 5 3).bind fun v6 => if qO q1.2 v6 4 = true then ((f_X4_take v6 q1.1 q1.2).bind fun q8 => (gR q8.2 x0 5 3).bind fun v11 => (gI q8.2 v11 4 3).bind fun v13 => some (v13, q8.2)) else none))) else none
set_option maxRecDepth 100000 in
set_option maxHeartbeats 4000000 in
theorem k_X5_on {l : Launch} {g : GX} (d : Nat) {Q : jQ} {x0 : Option Nat} {x1 : Int32} (ah : AH) (out : Int32 × AH) (h : f_X5_on x0 x1 ah = some out) (hR : jRetI l g md_X5_on (jRm (d + 2) md_X5_on) Q (0, 0) out.1 out.2) : J l g md_X5_on (jRm (d + 2) md_X5_on) Q 0 [(0, .inr (.inr (.inl x0))), (1, .inl x1)] [] ah (0, 0) := by
  unfold f_X5_on at h
  refine J_seg ok_X5_on 0 2 (pc' := 2) (ls' := [(0, .inr (.inr (.inl x0))), (1, .inl x1)]) (st' := [.inl x1, .inr (.inr (.inl x0))]) rfl ?_
  by_cases c3 : qO ah x0 5 = true
  case neg => exact absurd ((if_neg c3).symm.trans h) (by simp)
  have h := (if_pos c3).symm.trans h
  obtain ⟨q1, h2, h⟩ := Option.bind_eq_some_iff.mp h
  refine J_callV (md' := md_X5_shelfAt) (As := [.inl x1]) (st := []) (cs' := (0, 0)) (st' := [.inr (.inr (.inl q1.1))]) (jat ok_X5_on 2 (pc := 2) (i := .invokevirtual 190) (n := 3) rfl rfl) ml_RX5_190 yv_X5_shelfAt c3 (c_X5_shelfAt l g (d + 1) h2) (jRo_of (by decide)) (Nat.le_of_ble_eq_true rfl) ⟨Nat.le_of_ble_eq_true rfl, Nat.le_of_ble_eq_true rfl⟩ rfl rfl rfl ?_
  refine J_seg ok_X5_on 3 2 (pc' := 7) (ls' := [(2, .inr (.inr (.inl q1.1))), (0, .inr (.inr (.inl x0))), (1, .inl x1)]) (st' := [.inr (.inr (.inl q1.1))]) rfl ?_
  refine J_nonnull (jat ok_X5_on 5 (pc := 7) (i := .ifnonnull 5) (n := 3) rfl rfl) (tgt := 12) (by decide) (fun c => ?_) (fun c => ?_)
  · have h := (if_neg c).symm.trans h
    refine J_seg ok_X5_on 8 1 (pc' := 13) (ls' := [(2, .inr (.inr (.inl q1.1))), (0, .inr (.inr (.inl x0))), (1, .inl x1)]) (st' := [.inr (.inr (.inl q1.1))]) rfl ?_
    obtain ⟨v4, h5, h⟩ := Option.bind_eq_some_iff.mp h
    refine J_getI (jat ok_X5_on 9 (pc := 13) (i := .getfield 123) (n := 3) rfl rfl) fl_RX5_123 h5 ?_
    refine J_ne0 (jat ok_X5_on 10 (pc := 16) (i := .ifCond .ne 9) (n := 3) rfl rfl) (tgt := 25) (by decide) (fun c => ?_) (fun c => ?_)
    · have h := (if_neg c).symm.trans h
      refine J_seg ok_X5_on 15 1 (pc' := 26) (ls' := [(2, .inr (.inr (.inl q1.1))), (0, .inr (.inr (.inl x0))), (1, .inl x1)]) (st' := [.inr (.inr (.inl x0))]) rfl ?_
      obtain ⟨v6, h7, h⟩ := Option.bind_eq_some_iff.mp h
      refine J_getR (jat ok_X5_on 16 (pc := 26) (i := .getfield 28) (n := 3) rfl rfl) fl_RX5_28 h7 ?_
      refine J_seg ok_X5_on 17 1 (pc' := 30) (ls' := [(2, .inr (.inr (.inl q1.1))), (0, .inr (.inr (.inl x0))), (1, .inl x1)]) (st' := [.inr (.inr (.inl q1.1)), .inr (.inr (.inl v6))]) rfl ?_
      by_cases c10 : qO q1.2 v6 4 = true
      case neg => exact absurd ((if_neg c10).symm.trans h) (by simp)
      have h := (if_pos c10).symm.trans h
      obtain ⟨q8, h9, h⟩ := Option.bind_eq_some_iff.mp h
      refine J_callV (md' := md_X4_take) (As := [.inr (.inr (.inl q1.1))]) (st := []) (cs' := (0, 0)) (st' := []) (jat ok_X5_on 18 (pc := 30) (i := .invokevirtual 194) (n := 3) rfl rfl) ml_RX5_194 yv_X4_take c10 (c_X4_take l g (d + 0) h9) (jRo_of (by decide)) (Nat.le_of_ble_eq_true rfl) ⟨Nat.le_of_ble_eq_true rfl, Nat.le_of_ble_eq_true rfl⟩ rfl rfl rfl ?_
      refine J_seg ok_X5_on 19 1 (pc' := 34) (ls' := [(2, .inr (.inr (.inl q1.1))), (0, .inr (.inr (.inl x0))), (1, .inl x1)]) (st' := [.inr (.inr (.inl x0))]) rfl ?_
      obtain ⟨v11, h12, h⟩ := Option.bind_eq_some_iff.mp h
      refine J_getR (jat ok_X5_on 20 (pc := 34) (i := .getfield 28) (n := 3) rfl rfl) fl_RX5_28 h12 ?_
      obtain ⟨v13, h14, h⟩ := Option.bind_eq_some_iff.mp h
      refine J_getI (jat ok_X5_on 21 (pc := 37) (i := .getfield 172) (n := 3) rfl rfl) fl_RX5_172 h14 ?_
      have h := Option.some.inj h
      subst h
      exact hR _ _ (jat ok_X5_on 22 (pc := 40) (i := .ireturn) (n := 1) rfl rfl)
    · have h := (if_pos c).symm.trans h
      refine J_seg ok_X5_on 11 2 (pc' := 21) (ls' := [(2, .inr (.inr (.inl q1.1))), (0, .inr (.inr (.inl x0))), (1, .inl x1)]) (st' := [.inl 1, .inr (.inr (.inl x0))]) rfl ?_
      by_cases c17 : qO q1.2 x0 5 = true
      case neg => exact absurd ((if_neg c17).symm.trans h) (by simp)
      have h := (if_pos c17).symm.trans h
      obtain ⟨q15, h16, h⟩ := Option.bind_eq_some_iff.mp h
      refine J_callV (md' := md_X5_find) (As := [.inl 1]) (st := []) (cs' := (0, 0)) (st' := [.inl q15.1]) (jat ok_X5_on 13 (pc := 21) (i := .invokevirtual 75) (n := 3) rfl rfl) ml_RX5_75 yv_X5_find c17 (c_X5_find l g (d + 1) h16) (jRo_of (by decide)) (Nat.le_of_ble_eq_true rfl) ⟨Nat.le_of_ble_eq_true rfl, Nat.le_of_ble_eq_true rfl⟩ rfl rfl rfl ?_
      have h := Option.some.inj h
      subst h
      exact hR _ _ (jat ok_X5_on 14 (pc := 24) (i := .ireturn) (n := 1) rfl rfl)
  · have h := (if_pos c).symm.trans h
    refine J_seg ok_X5_on 6 1 (pc' := 11) (ls' := [(2, .inr (.inr (.inl q1.1))), (0, .inr (.inr (.inl x0))), (1, .inl x1)]) (st' := [.inl (-1)]) rfl ?_
    have h := Option.some.inj h
    subst h
    exact hR _ _ (jat ok_X5_on 7 (pc := 11) (i := .ireturn) (n := 1) rfl rfl)
theorem c_X5_on (l : Launch) (g : GX) (d : Nat) {x0 : Option Nat} {x1 : Int32} {ah : AH} {q : Int32 × AH} (h : f_X5_on x0 x1 ah = some q) : jM l g (d + 2) md_X5_on [.inr (.inr (.inl x0)), .inl x1] ah (some (.inl q.1)) q.2 :=
  jM_of (by decide) (Nat.le_of_ble_eq_true rfl) (k_X5_on d ah q h (fun pc ls hd => J_reti hd rfl (jPV_int _) rfl (Nat.le_refl _) rfl rfl))
def f_X5_ringOf_b7 (k0 : Option Nat) (k1 : Int32) (s7 : Int32 × Int32 × Int32) (ah : AH) : Option ((Int32 × AH) ⊕ (((Unit) × AH) ⊕ ((Int32 × Int32 × Int32) × AH))) :=
  if 6 ≤ s7.2.2 then (some (.inr (.inl ((), ah)))) else ((gR ah k0 5 3).bind fun v1 => if qO ah v1 4 = true then ((f_X4_victimOf v1 s7.2.1 ah).bind fun q3 => if q3.1 = k1 then (some (.inl (s7.1 ||| (1 <<< (s7.2.1 &&& 31)), q3.2))) else (if 0 ≤ q3.1 then (some (.inr (.inr ((s7.1 ||| (1 <<< (s7.2.1 &&& 31)), q3.1, s7.2.2 + 1), q3.2)))) else (some (.inl (0, q3.2))))) else none)
set_option maxRecDepth 100000 in
set_option maxHeartbeats 4000000 in
theorem k_X5_ringOf_b7 {l : Launch} {g : GX} (d : Nat) {Q : jQ} {k0 : Option Nat} {k1 : Int32} (s7 : Int32 × Int32 × Int32) (ah : AH) (out : (Int32 × AH) ⊕ (((Unit) × AH) ⊕ ((Int32 × Int32 × Int32) × AH))) (h : f_X5_ringOf_b7 k0 k1 s7 ah = some out) (hR : ∀ q, out = .inl q → jRetI l g md_X5_ringOf (jRm (d + 2) md_X5_ringOf) Q (0, 0) q.1 q.2) (hX : ∀ q, out = .inr (.inl q) → J l g md_X5_ringOf (jRm (d + 2) md_X5_ringOf) Q 48 [] [] q.2 (0, 0)) (hN : ∀ q, out = .inr (.inr q) → J l g md_X5_ringOf (jRm (d + 2) md_X5_ringOf) Q 7 [(0, .inr (.inr (.inl k0))), (1, .inl k1), (2, .inl q.1.1), (3, .inl q.1.2.1), (4, .inl q.1.2.2)] [] q.2 (0, 0)) : J l g md_X5_ringOf (jRm (d + 2) md_X5_ringOf) Q 7 [(0, .inr (.inr (.inl k0))), (1, .inl k1), (2, .inl s7.1), (3, .inl s7.2.1), (4, .inl s7.2.2)] [] ah (0, 0) := by
  unfold f_X5_ringOf_b7 at h
  refine J_seg ok_X5_ringOf 6 2 (pc' := 11) (ls' := [(0, .inr (.inr (.inl k0))), (1, .inl k1), (2, .inl s7.1), (3, .inl s7.2.1), (4, .inl s7.2.2)]) (st' := [.inl 6, .inl s7.2.2]) rfl ?_
  refine J_ge (jat ok_X5_ringOf 8 (pc := 11) (i := .if_icmp .ge 37) (n := 3) rfl rfl) (tgt := 48) (by decide) (fun c => ?_) (fun c => ?_)
  · have h := (if_pos c).symm.trans h
    exact J_sub (ls' := []) [] rfl (hX ((), ah) (Option.some.inj h).symm)
  · have h := (if_neg c).symm.trans h
    refine J_seg ok_X5_ringOf 9 7 (pc' := 21) (ls' := [(2, .inl (s7.1 ||| (1 <<< (s7.2.1 &&& 31)))), (0, .inr (.inr (.inl k0))), (1, .inl k1), (3, .inl s7.2.1), (4, .inl s7.2.2)]) (st' := [.inr (.inr (.inl k0))]) rfl ?_
    obtain ⟨v1, h2, h⟩ := Option.bind_eq_some_iff.mp h
    refine J_getR (jat ok_X5_ringOf 16 (pc := 21) (i := .getfield 28) (n := 3) rfl rfl) fl_RX5_28 h2 ?_
    refine J_seg ok_X5_ringOf 17 1 (pc' := 25) (ls' := [(2, .inl (s7.1 ||| (1 <<< (s7.2.1 &&& 31)))), (0, .inr (.inr (.inl k0))), (1, .inl k1), (3, .inl s7.2.1), (4, .inl s7.2.2)]) (st' := [.inl s7.2.1, .inr (.inr (.inl v1))]) rfl ?_
    by_cases c5 : qO ah v1 4 = true
    case neg => exact absurd ((if_neg c5).symm.trans h) (by simp)
    have h := (if_pos c5).symm.trans h
    obtain ⟨q3, h4, h⟩ := Option.bind_eq_some_iff.mp h
    refine J_callV (md' := md_X4_victimOf) (As := [.inl s7.2.1]) (st := []) (cs' := (0, 0)) (st' := [.inl q3.1]) (jat ok_X5_ringOf 18 (pc := 25) (i := .invokevirtual 178) (n := 3) rfl rfl) ml_RX5_178 yv_X4_victimOf c5 (c_X4_victimOf l g (d + 0) h4) (jRo_of (by decide)) (Nat.le_of_ble_eq_true rfl) ⟨Nat.le_of_ble_eq_true rfl, Nat.le_of_ble_eq_true rfl⟩ rfl rfl rfl ?_
    refine J_seg ok_X5_ringOf 19 3 (pc' := 31) (ls' := [(3, .inl q3.1), (2, .inl (s7.1 ||| (1 <<< (s7.2.1 &&& 31)))), (0, .inr (.inr (.inl k0))), (1, .inl k1), (4, .inl s7.2.2)]) (st' := [.inl k1, .inl q3.1]) rfl ?_
    refine J_ne (jat ok_X5_ringOf 22 (pc := 31) (i := .if_icmp .ne 5) (n := 3) rfl rfl) (tgt := 36) (by decide) (fun c => ?_) (fun c => ?_)
    · have h := (if_neg c).symm.trans h
      refine J_seg ok_X5_ringOf 25 1 (pc' := 37) (ls' := [(3, .inl q3.1), (2, .inl (s7.1 ||| (1 <<< (s7.2.1 &&& 31)))), (0, .inr (.inr (.inl k0))), (1, .inl k1), (4, .inl s7.2.2)]) (st' := [.inl q3.1]) rfl ?_
      refine J_ge0 (jat ok_X5_ringOf 26 (pc := 37) (i := .ifCond .ge 5) (n := 3) rfl rfl) (tgt := 42) (by decide) (fun c => ?_) (fun c => ?_)
      · have h := (if_pos c).symm.trans h
        refine J_seg ok_X5_ringOf 29 2 (pc' := 7) (ls' := [(4, .inl (s7.2.2 + 1)), (3, .inl q3.1), (2, .inl (s7.1 ||| (1 <<< (s7.2.1 &&& 31)))), (0, .inr (.inr (.inl k0))), (1, .inl k1)]) (st' := []) rfl ?_
        exact J_sub (ls' := [(0, .inr (.inr (.inl k0))), (1, .inl k1), (2, .inl (s7.1 ||| (1 <<< (s7.2.1 &&& 31)))), (3, .inl q3.1), (4, .inl (s7.2.2 + 1))]) [3, 4, 2, 1, 0] rfl (hN ((s7.1 ||| (1 <<< (s7.2.1 &&& 31)), q3.1, s7.2.2 + 1), q3.2) (Option.some.inj h).symm)
      · have h := (if_neg c).symm.trans h
        refine J_seg ok_X5_ringOf 27 1 (pc' := 41) (ls' := [(3, .inl q3.1), (2, .inl (s7.1 ||| (1 <<< (s7.2.1 &&& 31)))), (0, .inr (.inr (.inl k0))), (1, .inl k1), (4, .inl s7.2.2)]) (st' := [.inl 0]) rfl ?_
        exact hR _ (Option.some.inj h).symm _ _ (jat ok_X5_ringOf 28 (pc := 41) (i := .ireturn) (n := 1) rfl rfl)
    · have h := (if_pos c).symm.trans h
      refine J_seg ok_X5_ringOf 23 1 (pc' := 35) (ls' := [(3, .inl q3.1), (2, .inl (s7.1 ||| (1 <<< (s7.2.1 &&& 31)))), (0, .inr (.inr (.inl k0))), (1, .inl k1), (4, .inl s7.2.2)]) (st' := [.inl (s7.1 ||| (1 <<< (s7.2.1 &&& 31)))]) rfl ?_
      exact hR _ (Option.some.inj h).symm _ _ (jat ok_X5_ringOf 24 (pc := 35) (i := .ireturn) (n := 1) rfl rfl)
def f_X5_ringOf (x0 : Option Nat) (x1 : Int32) (ah : AH) : Option (Int32 × AH) :=
  (jloop (f_X5_ringOf_b7 x0 x1) jfuel (0, x1, 0) ah).bind fun q6 => match q6 with | .inl r => some r | .inr z8 => some (0, z8.2)
set_option maxRecDepth 100000 in
set_option maxHeartbeats 4000000 in
theorem k_X5_ringOf {l : Launch} {g : GX} (d : Nat) {Q : jQ} {x0 : Option Nat} {x1 : Int32} (ah : AH) (out : Int32 × AH) (h : f_X5_ringOf x0 x1 ah = some out) (hR : jRetI l g md_X5_ringOf (jRm (d + 2) md_X5_ringOf) Q (0, 0) out.1 out.2) : J l g md_X5_ringOf (jRm (d + 2) md_X5_ringOf) Q 0 [(0, .inr (.inr (.inl x0))), (1, .inl x1)] [] ah (0, 0) := by
  unfold f_X5_ringOf at h
  refine J_seg ok_X5_ringOf 0 6 (pc' := 7) (ls' := [(4, .inl 0), (3, .inl x1), (2, .inl 0), (0, .inr (.inr (.inl x0))), (1, .inl x1)]) (st' := []) rfl ?_
  obtain ⟨q6, h7, h⟩ := Option.bind_eq_some_iff.mp h
  refine J_sub (ls' := [(0, .inr (.inr (.inl x0))), (1, .inl x1), (2, .inl 0), (3, .inl x1), (4, .inl 0)]) [3, 4, 2, 1, 0] rfl ?_
  refine J_loop (pE := 48) (lh := fun t9 => [(0, .inr (.inr (.inl x0))), (1, .inl x1), (2, .inl t9.1), (3, .inl t9.2.1), (4, .inl t9.2.2)]) (lx := fun z8 => []) (P := jRetI l g md_X5_ringOf (jRm (d + 2) md_X5_ringOf) Q (0, 0)) (fun s ah out hb hR hX hN => k_X5_ringOf_b7 d s ah out hb hR hX hN) jfuel (0, x1, 0) _ _ h7 (fun r e => ?_) (fun z8 e => ?_)
  · subst e
    dsimp only at h
    have h := Option.some.inj h
    subst h
    exact hR
  · subst e
    dsimp only at h
    refine J_seg ok_X5_ringOf 31 1 (pc' := 49) (ls' := []) (st' := [.inl 0]) rfl ?_
    have h := Option.some.inj h
    subst h
    exact hR _ _ (jat ok_X5_ringOf 32 (pc := 49) (i := .ireturn) (n := 1) rfl rfl)
theorem c_X5_ringOf (l : Launch) (g : GX) (d : Nat) {x0 : Option Nat} {x1 : Int32} {ah : AH} {q : Int32 × AH} (h : f_X5_ringOf x0 x1 ah = some q) : jM l g (d + 2) md_X5_ringOf [.inr (.inr (.inl x0)), .inl x1] ah (some (.inl q.1)) q.2 :=
  jM_of (by decide) (Nat.le_of_ble_eq_true rfl) (k_X5_ringOf d ah q h (fun pc ls hd => J_reti hd rfl (jPV_int _) rfl (Nat.le_refl _) rfl rfl))
