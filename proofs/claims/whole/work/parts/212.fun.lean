def f_X6_put (x0 : Option Nat) (x1 : Int32) (x2 : Int32) (x3 : Int32) (ah : AH) : Option (Int32 × AH) :=
  (f_X6_isText x1 ah).bind fun q1 => if q1.1 = 0 then (some ((-1), q1.2)) else ((gR q1.2 x0 6 9).bind fun v3 => (gA q1.2 v3 x1).bind fun v5 => if 0 ≤ v5 then ((gR q1.2 x0 6 9).bind fun v7 => (gA q1.2 v7 x1).bind fun v9 => (f_X6_in (Int32.toInt64 x2) 0 (Int32.toInt64 (v9 - 1)) q1.2).bind fun q11 => if q11.1 = 0 then (if qO q11.2 x0 6 = true then ((f_X6_find x0 2 q11.2).bind fun q21 => some (q21.1, q21.2)) else none) else ((gR q11.2 x0 6 10).bind fun v13 => (gA q11.2 v13 ((60 * x1) + x2)).bind fun v15 => (gR q11.2 x0 6 10).bind fun v17 => (sA q11.2 v17 ((60 * x1) + x2) ((Int32.toInt8 x3).toInt32)).bind fun a19 => some (v15 + 1000, a19))) else (if qO q1.2 x0 6 = true then ((f_X6_find x0 1 q1.2).bind fun q24 => some (q24.1, q24.2)) else none))
set_option maxRecDepth 100000 in
set_option maxHeartbeats 4000000 in
theorem k_X6_put {l : Launch} {g : GX} (d : Nat) {Q : jQ} {x0 : Option Nat} {x1 : Int32} {x2 : Int32} {x3 : Int32} (ah : AH) (out : Int32 × AH) (h : f_X6_put x0 x1 x2 x3 ah = some out) (hR : jRetI l g md_X6_put (jRm (d + 2) md_X6_put) Q (0, 0) out.1 out.2) : J l g md_X6_put (jRm (d + 2) md_X6_put) Q 0 [(0, .inr (.inr (.inl x0))), (1, .inl x1), (2, .inl x2), (3, .inl x3)] [] ah (0, 0) := by
  unfold f_X6_put at h
  refine J_seg ok_X6_put 0 1 (pc' := 1) (ls' := [(0, .inr (.inr (.inl x0))), (1, .inl x1), (2, .inl x2), (3, .inl x3)]) (st' := [.inl x1]) rfl ?_
  obtain ⟨q1, h2, h⟩ := Option.bind_eq_some_iff.mp h
  refine J_callS (md' := md_X6_isText) (As := [.inl x1]) (st := []) (cs' := (0, 0)) (st' := [.inl q1.1]) (jat ok_X6_put 1 (pc := 1) (i := .invokestatic 100) (n := 3) rfl rfl) (Or.inl ml_RX6_100) ys_X6_isText (c_X6_isText l g (d + 0) h2) (jRo_of (by decide)) (Nat.le_of_ble_eq_true rfl) ⟨Nat.le_of_ble_eq_true rfl, Nat.le_of_ble_eq_true rfl⟩ rfl rfl rfl ?_
  refine J_ne0 (jat ok_X6_put 2 (pc := 4) (i := .ifCond .ne 5) (n := 3) rfl rfl) (tgt := 9) (by decide) (fun c => ?_) (fun c => ?_)
  · have h := (if_neg c).symm.trans h
    refine J_seg ok_X6_put 5 1 (pc' := 10) (ls' := [(0, .inr (.inr (.inl x0))), (1, .inl x1), (2, .inl x2), (3, .inl x3)]) (st' := [.inr (.inr (.inl x0))]) rfl ?_
    obtain ⟨v3, h4, h⟩ := Option.bind_eq_some_iff.mp h
    refine J_getR (jat ok_X6_put 6 (pc := 10) (i := .getfield 31) (n := 3) rfl rfl) fl_RX6_31 h4 ?_
    refine J_seg ok_X6_put 7 1 (pc' := 14) (ls' := [(0, .inr (.inr (.inl x0))), (1, .inl x1), (2, .inl x2), (3, .inl x3)]) (st' := [.inl x1, .inr (.inr (.inl v3))]) rfl ?_
    obtain ⟨v5, h6, h⟩ := Option.bind_eq_some_iff.mp h
    refine J_iald (jat ok_X6_put 8 (pc := 14) (i := .iaload) (n := 1) rfl rfl) h6 ?_
    refine J_ge0 (jat ok_X6_put 9 (pc := 15) (i := .ifCond .ge 9) (n := 3) rfl rfl) (tgt := 24) (by decide) (fun c => ?_) (fun c => ?_)
    · have h := (if_pos c).symm.trans h
      refine J_seg ok_X6_put 14 4 (pc' := 28) (ls' := [(0, .inr (.inr (.inl x0))), (1, .inl x1), (2, .inl x2), (3, .inl x3)]) (st' := [.inr (.inr (.inl x0)), .inr (.inl 0), .inr (.inl (Int32.toInt64 x2))]) rfl ?_
      obtain ⟨v7, h8, h⟩ := Option.bind_eq_some_iff.mp h
      refine J_getR (jat ok_X6_put 18 (pc := 28) (i := .getfield 31) (n := 3) rfl rfl) fl_RX6_31 h8 ?_
      refine J_seg ok_X6_put 19 1 (pc' := 32) (ls' := [(0, .inr (.inr (.inl x0))), (1, .inl x1), (2, .inl x2), (3, .inl x3)]) (st' := [.inl x1, .inr (.inr (.inl v7)), .inr (.inl 0), .inr (.inl (Int32.toInt64 x2))]) rfl ?_
      obtain ⟨v9, h10, h⟩ := Option.bind_eq_some_iff.mp h
      refine J_iald (jat ok_X6_put 20 (pc := 32) (i := .iaload) (n := 1) rfl rfl) h10 ?_
      refine J_seg ok_X6_put 21 3 (pc' := 36) (ls' := [(0, .inr (.inr (.inl x0))), (1, .inl x1), (2, .inl x2), (3, .inl x3)]) (st' := [.inr (.inl (Int32.toInt64 (v9 - 1))), .inr (.inl 0), .inr (.inl (Int32.toInt64 x2))]) rfl ?_
      obtain ⟨q11, h12, h⟩ := Option.bind_eq_some_iff.mp h
      refine J_callS (md' := md_X6_in) (As := [.inr (.inl (Int32.toInt64 x2)), .inr (.inl 0), .inr (.inl (Int32.toInt64 (v9 - 1)))]) (st := []) (cs' := (0, 0)) (st' := [.inl q11.1]) (jat ok_X6_put 24 (pc := 36) (i := .invokestatic 71) (n := 3) rfl rfl) (Or.inl ml_RX6_71) ys_X6_in (c_X6_in l g (d + 1) h12) (jRo_of (by decide)) (Nat.le_of_ble_eq_true rfl) ⟨Nat.le_of_ble_eq_true rfl, Nat.le_of_ble_eq_true rfl⟩ rfl rfl rfl ?_
      refine J_ne0 (jat ok_X6_put 25 (pc := 39) (i := .ifCond .ne 9) (n := 3) rfl rfl) (tgt := 48) (by decide) (fun c => ?_) (fun c => ?_)
      · have h := (if_neg c).symm.trans h
        refine J_seg ok_X6_put 30 1 (pc' := 49) (ls' := [(0, .inr (.inr (.inl x0))), (1, .inl x1), (2, .inl x2), (3, .inl x3)]) (st' := [.inr (.inr (.inl x0))]) rfl ?_
        obtain ⟨v13, h14, h⟩ := Option.bind_eq_some_iff.mp h
        refine J_getR (jat ok_X6_put 31 (pc := 49) (i := .getfield 34) (n := 3) rfl rfl) fl_RX6_34 h14 ?_
        refine J_seg ok_X6_put 32 5 (pc' := 58) (ls' := [(0, .inr (.inr (.inl x0))), (1, .inl x1), (2, .inl x2), (3, .inl x3)]) (st' := [.inl ((60 * x1) + x2), .inr (.inr (.inl v13))]) rfl ?_
        obtain ⟨v15, h16, h⟩ := Option.bind_eq_some_iff.mp h
        refine J_iald (jat ok_X6_put 37 (pc := 58) (i := .iaload) (n := 1) rfl rfl) h16 ?_
        refine J_seg ok_X6_put 38 2 (pc' := 62) (ls' := [(4, .inl v15), (0, .inr (.inr (.inl x0))), (1, .inl x1), (2, .inl x2), (3, .inl x3)]) (st' := [.inr (.inr (.inl x0))]) rfl ?_
        obtain ⟨v17, h18, h⟩ := Option.bind_eq_some_iff.mp h
        refine J_getR (jat ok_X6_put 40 (pc := 62) (i := .getfield 34) (n := 3) rfl rfl) fl_RX6_34 h18 ?_
        refine J_seg ok_X6_put 41 7 (pc' := 73) (ls' := [(4, .inl v15), (0, .inr (.inr (.inl x0))), (1, .inl x1), (2, .inl x2), (3, .inl x3)]) (st' := [.inl ((Int32.toInt8 x3).toInt32), .inl ((60 * x1) + x2), .inr (.inr (.inl v17))]) rfl ?_
        obtain ⟨a19, h20, h⟩ := Option.bind_eq_some_iff.mp h
        refine J_iast (jat ok_X6_put 48 (pc := 73) (i := .iastore) (n := 1) rfl rfl) h20 ?_
        refine J_seg ok_X6_put 49 3 (pc' := 80) (ls' := [(4, .inl v15), (0, .inr (.inr (.inl x0))), (1, .inl x1), (2, .inl x2), (3, .inl x3)]) (st' := [.inl (v15 + 1000)]) rfl ?_
        have h := Option.some.inj h
        subst h
        exact hR _ _ (jat ok_X6_put 52 (pc := 80) (i := .ireturn) (n := 1) rfl rfl)
      · have h := (if_pos c).symm.trans h
        refine J_seg ok_X6_put 26 2 (pc' := 44) (ls' := [(0, .inr (.inr (.inl x0))), (1, .inl x1), (2, .inl x2), (3, .inl x3)]) (st' := [.inl 2, .inr (.inr (.inl x0))]) rfl ?_
        by_cases c23 : qO q11.2 x0 6 = true
        case neg => exact absurd ((if_neg c23).symm.trans h) (by simp)
        have h := (if_pos c23).symm.trans h
        obtain ⟨q21, h22, h⟩ := Option.bind_eq_some_iff.mp h
        refine J_callV (md' := md_X6_find) (As := [.inl 2]) (st := []) (cs' := (0, 0)) (st' := [.inl q21.1]) (jat ok_X6_put 28 (pc := 44) (i := .invokevirtual 81) (n := 3) rfl rfl) ml_RX6_81 yv_X6_find c23 (c_X6_find l g (d + 1) h22) (jRo_of (by decide)) (Nat.le_of_ble_eq_true rfl) ⟨Nat.le_of_ble_eq_true rfl, Nat.le_of_ble_eq_true rfl⟩ rfl rfl rfl ?_
        have h := Option.some.inj h
        subst h
        exact hR _ _ (jat ok_X6_put 29 (pc := 47) (i := .ireturn) (n := 1) rfl rfl)
    · have h := (if_neg c).symm.trans h
      refine J_seg ok_X6_put 10 2 (pc' := 20) (ls' := [(0, .inr (.inr (.inl x0))), (1, .inl x1), (2, .inl x2), (3, .inl x3)]) (st' := [.inl 1, .inr (.inr (.inl x0))]) rfl ?_
      by_cases c26 : qO q1.2 x0 6 = true
      case neg => exact absurd ((if_neg c26).symm.trans h) (by simp)
      have h := (if_pos c26).symm.trans h
      obtain ⟨q24, h25, h⟩ := Option.bind_eq_some_iff.mp h
      refine J_callV (md' := md_X6_find) (As := [.inl 1]) (st := []) (cs' := (0, 0)) (st' := [.inl q24.1]) (jat ok_X6_put 12 (pc := 20) (i := .invokevirtual 81) (n := 3) rfl rfl) ml_RX6_81 yv_X6_find c26 (c_X6_find l g (d + 1) h25) (jRo_of (by decide)) (Nat.le_of_ble_eq_true rfl) ⟨Nat.le_of_ble_eq_true rfl, Nat.le_of_ble_eq_true rfl⟩ rfl rfl rfl ?_
      have h := Option.some.inj h
      subst h
      exact hR _ _ (jat ok_X6_put 13 (pc := 23) (i := .ireturn) (n := 1) rfl rfl)
  · have h := (if_pos c).symm.trans h
    refine J_seg ok_X6_put 3 1 (pc' := 8) (ls' := [(0, .inr (.inr (.inl x0))), (1, .inl x1), (2, .inl x2), (3, .inl x3)]) (st' := [.inl (-1)]) rfl ?_
    have h := Option.some.inj h
    subst h
    exact hR _ _ (jat ok_X6_put 4 (pc := 8) (i := .ireturn) (n := 1) rfl rfl)
theorem c_X6_put (l : Launch) (g : GX) (d : Nat) {x0 : Option Nat} {x1 : Int32} {x2 : Int32} {x3 : Int32} {ah : AH} {q : Int32 × AH} (h : f_X6_put x0 x1 x2 x3 ah = some q) : jM l g (d + 2) md_X6_put [.inr (.inr (.inl x0)), .inl x1, .inl x2, .inl x3] ah (some (.inl q.1)) q.2 :=
  jM_of (by decide) (Nat.le_of_ble_eq_true rfl) (k_X6_put d ah q h (fun pc ls hd => J_reti hd rfl (jPV_int _) rfl (Nat.le_refl _) rfl rfl))
def f_X6_here (x0 : Option Nat) (ah : AH) : Option (Int32 × AH) :=
  (gR ah x0 6 10).bind fun v1 => (gI ah x0 6 16).bind fun v3 => (gI ah x0 6 17).bind fun v5 => (gA ah v1 (v3 + v5)).bind fun v7 => some (v7, ah)
set_option maxRecDepth 100000 in
set_option maxHeartbeats 4000000 in
theorem k_X6_here {l : Launch} {g : GX} (d : Nat) {Q : jQ} {x0 : Option Nat} (ah : AH) (out : Int32 × AH) (h : f_X6_here x0 ah = some out) (hR : jRetI l g md_X6_here (jRm (d + 0) md_X6_here) Q (0, 0) out.1 out.2) : J l g md_X6_here (jRm (d + 0) md_X6_here) Q 0 [(0, .inr (.inr (.inl x0)))] [] ah (0, 0) := by
  unfold f_X6_here at h
  refine J_seg ok_X6_here 0 1 (pc' := 1) (ls' := [(0, .inr (.inr (.inl x0)))]) (st' := [.inr (.inr (.inl x0))]) rfl ?_
  obtain ⟨v1, h2, h⟩ := Option.bind_eq_some_iff.mp h
  refine J_getR (jat ok_X6_here 1 (pc := 1) (i := .getfield 34) (n := 3) rfl rfl) fl_RX6_34 h2 ?_
  refine J_seg ok_X6_here 2 1 (pc' := 5) (ls' := [(0, .inr (.inr (.inl x0)))]) (st' := [.inr (.inr (.inl x0)), .inr (.inr (.inl v1))]) rfl ?_
  obtain ⟨v3, h4, h⟩ := Option.bind_eq_some_iff.mp h
  refine J_getI (jat ok_X6_here 3 (pc := 5) (i := .getfield 103) (n := 3) rfl rfl) fl_RX6_103 h4 ?_
  refine J_seg ok_X6_here 4 1 (pc' := 9) (ls' := [(0, .inr (.inr (.inl x0)))]) (st' := [.inr (.inr (.inl x0)), .inl v3, .inr (.inr (.inl v1))]) rfl ?_
  obtain ⟨v5, h6, h⟩ := Option.bind_eq_some_iff.mp h
  refine J_getI (jat ok_X6_here 5 (pc := 9) (i := .getfield 106) (n := 3) rfl rfl) fl_RX6_106 h6 ?_
  refine J_seg ok_X6_here 6 1 (pc' := 13) (ls' := [(0, .inr (.inr (.inl x0)))]) (st' := [.inl (v3 + v5), .inr (.inr (.inl v1))]) rfl ?_
  obtain ⟨v7, h8, h⟩ := Option.bind_eq_some_iff.mp h
  refine J_iald (jat ok_X6_here 7 (pc := 13) (i := .iaload) (n := 1) rfl rfl) h8 ?_
  have h := Option.some.inj h
  subst h
  exact hR _ _ (jat ok_X6_here 8 (pc := 14) (i := .ireturn) (n := 1) rfl rfl)
theorem c_X6_here (l : Launch) (g : GX) (d : Nat) {x0 : Option Nat} {ah : AH} {q : Int32 × AH} (h : f_X6_here x0 ah = some q) : jM l g (d + 0) md_X6_here [.inr (.inr (.inl x0))] ah (some (.inl q.1)) q.2 :=
  jM_of (by decide) (Nat.le_of_ble_eq_true rfl) (k_X6_here d ah q h (fun pc ls hd => J_reti hd rfl (jPV_int _) rfl (Nat.le_refl _) rfl rfl))
def f_X6_skip_b0 (k0 : Option Nat) (s0 : Unit) (ah : AH) : Option ((Unit × AH) ⊕ (((Unit) × AH) ⊕ ((Unit) × AH))) :=
  (gI ah k0 6 17).bind fun v12 => (gI ah k0 6 18).bind fun v14 => if v14 ≤ v12 then (some (.inr (.inl ((), ah)))) else (if qO ah k0 6 = true then ((f_X6_here k0 ah).bind fun q16 => if q16.1 = 32 then ((gI q16.2 k0 6 17).bind fun v19 => (sF q16.2 k0 6 17 (.inl (v19 + 1))).bind fun a21 => some (.inr (.inr ((), a21)))) else (some (.inr (.inl ((), q16.2))))) else none)
set_option maxRecDepth 100000 in
set_option maxHeartbeats 4000000 in
theorem k_X6_skip_b0 {l : Launch} {g : GX} (d : Nat) {Q : jQ} {k0 : Option Nat} (s0 : Unit) (ah : AH) (out : (Unit × AH) ⊕ (((Unit) × AH) ⊕ ((Unit) × AH))) (h : f_X6_skip_b0 k0 s0 ah = some out) (hR : ∀ q, out = .inl q → jRetN q.1 q.2) (hX : ∀ q, out = .inr (.inl q) → J l g md_X6_skip (jRm (d + 1) md_X6_skip) Q 33 [] [] q.2 (0, 0)) (hN : ∀ q, out = .inr (.inr q) → J l g md_X6_skip (jRm (d + 1) md_X6_skip) Q 0 [(0, .inr (.inr (.inl k0)))] [] q.2 (0, 0)) : J l g md_X6_skip (jRm (d + 1) md_X6_skip) Q 0 [(0, .inr (.inr (.inl k0)))] [] ah (0, 0) := by
  unfold f_X6_skip_b0 at h
  refine J_seg ok_X6_skip 0 1 (pc' := 1) (ls' := [(0, .inr (.inr (.inl k0)))]) (st' := [.inr (.inr (.inl k0))]) rfl ?_
  obtain ⟨v12, h13, h⟩ := Option.bind_eq_some_iff.mp h
  refine J_getI (jat ok_X6_skip 1 (pc := 1) (i := .getfield 106) (n := 3) rfl rfl) fl_RX6_106 h13 ?_
  refine J_seg ok_X6_skip 2 1 (pc' := 5) (ls' := [(0, .inr (.inr (.inl k0)))]) (st' := [.inr (.inr (.inl k0)), .inl v12]) rfl ?_
  obtain ⟨v14, h15, h⟩ := Option.bind_eq_some_iff.mp h
  refine J_getI (jat ok_X6_skip 3 (pc := 5) (i := .getfield 109) (n := 3) rfl rfl) fl_RX6_109 h15 ?_
  refine J_ge (jat ok_X6_skip 4 (pc := 8) (i := .if_icmp .ge 25) (n := 3) rfl rfl) (tgt := 33) (by decide) (fun c => ?_) (fun c => ?_)
  · have h := (if_pos c).symm.trans h
    exact J_sub (ls' := []) [] rfl (hX ((), ah) (Option.some.inj h).symm)
  · have h := (if_neg c).symm.trans h
    refine J_seg ok_X6_skip 5 1 (pc' := 12) (ls' := [(0, .inr (.inr (.inl k0)))]) (st' := [.inr (.inr (.inl k0))]) rfl ?_
    by_cases c18 : qO ah k0 6 = true
    case neg => exact absurd ((if_neg c18).symm.trans h) (by simp)
    have h := (if_pos c18).symm.trans h
    obtain ⟨q16, h17, h⟩ := Option.bind_eq_some_iff.mp h
    refine J_callV (md' := md_X6_here) (As := []) (st := []) (cs' := (0, 0)) (st' := [.inl q16.1]) (jat ok_X6_skip 6 (pc := 12) (i := .invokevirtual 112) (n := 3) rfl rfl) ml_RX6_112 yv_X6_here c18 (c_X6_here l g (d + 0) h17) (jRo_of (by decide)) (Nat.le_of_ble_eq_true rfl) ⟨Nat.le_of_ble_eq_true rfl, Nat.le_of_ble_eq_true rfl⟩ rfl rfl rfl ?_
    refine J_seg ok_X6_skip 7 1 (pc' := 17) (ls' := [(0, .inr (.inr (.inl k0)))]) (st' := [.inl 32, .inl q16.1]) rfl ?_
    refine J_ne (jat ok_X6_skip 8 (pc := 17) (i := .if_icmp .ne 16) (n := 3) rfl rfl) (tgt := 33) (by decide) (fun c => ?_) (fun c => ?_)
    · have h := (if_neg c).symm.trans h
      exact J_sub (ls' := []) [] rfl (hX ((), q16.2) (Option.some.inj h).symm)
    · have h := (if_pos c).symm.trans h
      refine J_seg ok_X6_skip 9 2 (pc' := 22) (ls' := [(0, .inr (.inr (.inl k0)))]) (st' := [.inr (.inr (.inl k0)), .inr (.inr (.inl k0))]) rfl ?_
      obtain ⟨v19, h20, h⟩ := Option.bind_eq_some_iff.mp h
      refine J_getI (jat ok_X6_skip 11 (pc := 22) (i := .getfield 106) (n := 3) rfl rfl) fl_RX6_106 h20 ?_
      refine J_seg ok_X6_skip 12 2 (pc' := 27) (ls' := [(0, .inr (.inr (.inl k0)))]) (st' := [.inl (v19 + 1), .inr (.inr (.inl k0))]) rfl ?_
      obtain ⟨a21, h22, h⟩ := Option.bind_eq_some_iff.mp h
      refine J_put (jat ok_X6_skip 14 (pc := 27) (i := .putfield 106) (n := 3) rfl rfl) (fp_RX6_106 _) (jPV_int _) h22 ?_
      refine J_seg ok_X6_skip 15 1 (pc' := 0) (ls' := [(0, .inr (.inr (.inl k0)))]) (st' := []) rfl ?_
      exact J_sub (ls' := [(0, .inr (.inr (.inl k0)))]) [0] rfl (hN ((), a21) (Option.some.inj h).symm)
def f_X6_skip (x0 : Option Nat) (ah : AH) : Option (Unit × AH) :=
  (gI ah x0 6 17).bind fun v1 => (gI ah x0 6 18).bind fun v3 => if v3 ≤ v1 then (some ((), ah)) else (if qO ah x0 6 = true then ((f_X6_here x0 ah).bind fun q5 => if q5.1 = 32 then ((gI q5.2 x0 6 17).bind fun v8 => (sF q5.2 x0 6 17 (.inl (v8 + 1))).bind fun a10 => (jloop (f_X6_skip_b0 x0) jfuel () a10).bind fun q23 => match q23 with | .inl r => none | .inr z25 => some ((), z25.2)) else (some ((), q5.2))) else none)
set_option maxRecDepth 100000 in
set_option maxHeartbeats 4000000 in
theorem k_X6_skip {l : Launch} {g : GX} (d : Nat) {Q : jQ} {x0 : Option Nat} (ah : AH) (out : Unit × AH) (h : f_X6_skip x0 ah = some out) (hR : jRetV l g md_X6_skip (jRm (d + 1) md_X6_skip) Q (0, 0) out.1 out.2) : J l g md_X6_skip (jRm (d + 1) md_X6_skip) Q 0 [(0, .inr (.inr (.inl x0)))] [] ah (0, 0) := by
  unfold f_X6_skip at h
  refine J_seg ok_X6_skip 0 1 (pc' := 1) (ls' := [(0, .inr (.inr (.inl x0)))]) (st' := [.inr (.inr (.inl x0))]) rfl ?_
  obtain ⟨v1, h2, h⟩ := Option.bind_eq_some_iff.mp h
  refine J_getI (jat ok_X6_skip 1 (pc := 1) (i := .getfield 106) (n := 3) rfl rfl) fl_RX6_106 h2 ?_
  refine J_seg ok_X6_skip 2 1 (pc' := 5) (ls' := [(0, .inr (.inr (.inl x0)))]) (st' := [.inr (.inr (.inl x0)), .inl v1]) rfl ?_
  obtain ⟨v3, h4, h⟩ := Option.bind_eq_some_iff.mp h
  refine J_getI (jat ok_X6_skip 3 (pc := 5) (i := .getfield 109) (n := 3) rfl rfl) fl_RX6_109 h4 ?_
  refine J_ge (jat ok_X6_skip 4 (pc := 8) (i := .if_icmp .ge 25) (n := 3) rfl rfl) (tgt := 33) (by decide) (fun c => ?_) (fun c => ?_)
  · have h := (if_pos c).symm.trans h
    have h := Option.some.inj h
    subst h
    exact hR _ _ (jat ok_X6_skip 16 (pc := 33) (i := .return_) (n := 1) rfl rfl)
  · have h := (if_neg c).symm.trans h
    refine J_seg ok_X6_skip 5 1 (pc' := 12) (ls' := [(0, .inr (.inr (.inl x0)))]) (st' := [.inr (.inr (.inl x0))]) rfl ?_
    by_cases c7 : qO ah x0 6 = true
    case neg => exact absurd ((if_neg c7).symm.trans h) (by simp)
    have h := (if_pos c7).symm.trans h
    obtain ⟨q5, h6, h⟩ := Option.bind_eq_some_iff.mp h
    refine J_callV (md' := md_X6_here) (As := []) (st := []) (cs' := (0, 0)) (st' := [.inl q5.1]) (jat ok_X6_skip 6 (pc := 12) (i := .invokevirtual 112) (n := 3) rfl rfl) ml_RX6_112 yv_X6_here c7 (c_X6_here l g (d + 0) h6) (jRo_of (by decide)) (Nat.le_of_ble_eq_true rfl) ⟨Nat.le_of_ble_eq_true rfl, Nat.le_of_ble_eq_true rfl⟩ rfl rfl rfl ?_
    refine J_seg ok_X6_skip 7 1 (pc' := 17) (ls' := [(0, .inr (.inr (.inl x0)))]) (st' := [.inl 32, .inl q5.1]) rfl ?_
    refine J_ne (jat ok_X6_skip 8 (pc := 17) (i := .if_icmp .ne 16) (n := 3) rfl rfl) (tgt := 33) (by decide) (fun c => ?_) (fun c => ?_)
    · have h := (if_neg c).symm.trans h
      have h := Option.some.inj h
      subst h
      exact hR _ _ (jat ok_X6_skip 16 (pc := 33) (i := .return_) (n := 1) rfl rfl)
    · have h := (if_pos c).symm.trans h
      refine J_seg ok_X6_skip 9 2 (pc' := 22) (ls' := [(0, .inr (.inr (.inl x0)))]) (st' := [.inr (.inr (.inl x0)), .inr (.inr (.inl x0))]) rfl ?_
      obtain ⟨v8, h9, h⟩ := Option.bind_eq_some_iff.mp h
      refine J_getI (jat ok_X6_skip 11 (pc := 22) (i := .getfield 106) (n := 3) rfl rfl) fl_RX6_106 h9 ?_
      refine J_seg ok_X6_skip 12 2 (pc' := 27) (ls' := [(0, .inr (.inr (.inl x0)))]) (st' := [.inl (v8 + 1), .inr (.inr (.inl x0))]) rfl ?_
      obtain ⟨a10, h11, h⟩ := Option.bind_eq_some_iff.mp h
      refine J_put (jat ok_X6_skip 14 (pc := 27) (i := .putfield 106) (n := 3) rfl rfl) (fp_RX6_106 _) (jPV_int _) h11 ?_
      refine J_seg ok_X6_skip 15 1 (pc' := 0) (ls' := [(0, .inr (.inr (.inl x0)))]) (st' := []) rfl ?_
      obtain ⟨q23, h24, h⟩ := Option.bind_eq_some_iff.mp h
      refine J_sub (ls' := [(0, .inr (.inr (.inl x0)))]) [0] rfl ?_
      refine J_loop (pE := 33) (lh := fun t26 => [(0, .inr (.inr (.inl x0)))]) (lx := fun z25 => []) (P := jRetN) (fun s ah out hb hR hX hN => k_X6_skip_b0 d s ah out hb hR hX hN) jfuel () _ _ h24 (fun r e => ?_) (fun z25 e => ?_)
      · subst e
        dsimp only at h
        cases h
      · subst e
        dsimp only at h
        have h := Option.some.inj h
        subst h
        exact hR _ _ (jat ok_X6_skip 16 (pc := 33) (i := .return_) (n := 1) rfl rfl)
theorem c_X6_skip (l : Launch) (g : GX) (d : Nat) {x0 : Option Nat} {ah : AH} {q : Unit × AH} (h : f_X6_skip x0 ah = some q) : jM l g (d + 1) md_X6_skip [.inr (.inr (.inl x0))] ah none q.2 :=
  jM_of (by decide) (Nat.le_of_ble_eq_true rfl) (k_X6_skip d ah q h (fun pc ls hd => J_retv hd rfl rfl (Nat.le_refl _) rfl rfl))
def f_X6_figure (x0 : Option Nat) (x1 : Int32) (x2 : Int32) (ah : AH) : Option (Int32 × AH) :=
  (gI ah x0 6 17).bind fun v1 => (gI ah x0 6 18).bind fun v3 => if v1 = v3 then (some ((-9), ah)) else (if qO ah x0 6 = true then ((f_X6_here x0 ah).bind fun q5 => (f_X6_in (Int32.toInt64 q5.1) (Int32.toInt64 (48 + x1)) (Int32.toInt64 (48 + x2)) q5.2).bind fun q8 => if q8.1 = 0 then (some ((-9), q8.2)) else ((gI q8.2 x0 6 17).bind fun v10 => (sF q8.2 x0 6 17 (.inl (v10 + 1))).bind fun a12 => (gR a12 x0 6 10).bind fun v14 => (gI a12 x0 6 16).bind fun v16 => (gI a12 x0 6 17).bind fun v18 => (gA a12 v14 ((v16 + v18) - 1)).bind fun v20 => some (v20 - 48, a12))) else none)
set_option maxRecDepth 100000 in
set_option maxHeartbeats 4000000 in
theorem k_X6_figure {l : Launch} {g : GX} (d : Nat) {Q : jQ} {x0 : Option Nat} {x1 : Int32} {x2 : Int32} (ah : AH) (out : Int32 × AH) (h : f_X6_figure x0 x1 x2 ah = some out) (hR : jRetI l g md_X6_figure (jRm (d + 1) md_X6_figure) Q (0, 0) out.1 out.2) : J l g md_X6_figure (jRm (d + 1) md_X6_figure) Q 0 [(0, .inr (.inr (.inl x0))), (1, .inl x1), (2, .inl x2)] [] ah (0, 0) := by
  unfold f_X6_figure at h
  refine J_seg ok_X6_figure 0 1 (pc' := 1) (ls' := [(0, .inr (.inr (.inl x0))), (1, .inl x1), (2, .inl x2)]) (st' := [.inr (.inr (.inl x0))]) rfl ?_
  obtain ⟨v1, h2, h⟩ := Option.bind_eq_some_iff.mp h
  refine J_getI (jat ok_X6_figure 1 (pc := 1) (i := .getfield 106) (n := 3) rfl rfl) fl_RX6_106 h2 ?_
  refine J_seg ok_X6_figure 2 1 (pc' := 5) (ls' := [(0, .inr (.inr (.inl x0))), (1, .inl x1), (2, .inl x2)]) (st' := [.inr (.inr (.inl x0)), .inl v1]) rfl ?_
  obtain ⟨v3, h4, h⟩ := Option.bind_eq_some_iff.mp h
  refine J_getI (jat ok_X6_figure 3 (pc := 5) (i := .getfield 109) (n := 3) rfl rfl) fl_RX6_109 h4 ?_
  refine J_eq (jat ok_X6_figure 4 (pc := 8) (i := .if_icmp .eq 24) (n := 3) rfl rfl) (tgt := 32) (by decide) (fun c => ?_) (fun c => ?_)
  · have h := (if_pos c).symm.trans h
    refine J_seg ok_X6_figure 18 1 (pc' := 34) (ls' := [(0, .inr (.inr (.inl x0))), (1, .inl x1), (2, .inl x2)]) (st' := [.inl (-9)]) rfl ?_
    have h := Option.some.inj h
    subst h
    exact hR _ _ (jat ok_X6_figure 19 (pc := 34) (i := .ireturn) (n := 1) rfl rfl)
  · have h := (if_neg c).symm.trans h
    refine J_seg ok_X6_figure 5 1 (pc' := 12) (ls' := [(0, .inr (.inr (.inl x0))), (1, .inl x1), (2, .inl x2)]) (st' := [.inr (.inr (.inl x0))]) rfl ?_
    by_cases c7 : qO ah x0 6 = true
    case neg => exact absurd ((if_neg c7).symm.trans h) (by simp)
    have h := (if_pos c7).symm.trans h
    obtain ⟨q5, h6, h⟩ := Option.bind_eq_some_iff.mp h
    refine J_callV (md' := md_X6_here) (As := []) (st := []) (cs' := (0, 0)) (st' := [.inl q5.1]) (jat ok_X6_figure 6 (pc := 12) (i := .invokevirtual 112) (n := 3) rfl rfl) ml_RX6_112 yv_X6_here c7 (c_X6_here l g (d + 0) h6) (jRo_of (by decide)) (Nat.le_of_ble_eq_true rfl) ⟨Nat.le_of_ble_eq_true rfl, Nat.le_of_ble_eq_true rfl⟩ rfl rfl rfl ?_
    refine J_seg ok_X6_figure 7 9 (pc' := 26) (ls' := [(0, .inr (.inr (.inl x0))), (1, .inl x1), (2, .inl x2)]) (st' := [.inr (.inl (Int32.toInt64 (48 + x2))), .inr (.inl (Int32.toInt64 (48 + x1))), .inr (.inl (Int32.toInt64 q5.1))]) rfl ?_
    obtain ⟨q8, h9, h⟩ := Option.bind_eq_some_iff.mp h
    refine J_callS (md' := md_X6_in) (As := [.inr (.inl (Int32.toInt64 q5.1)), .inr (.inl (Int32.toInt64 (48 + x1))), .inr (.inl (Int32.toInt64 (48 + x2)))]) (st := []) (cs' := (0, 0)) (st' := [.inl q8.1]) (jat ok_X6_figure 16 (pc := 26) (i := .invokestatic 71) (n := 3) rfl rfl) (Or.inl ml_RX6_71) ys_X6_in (c_X6_in l g (d + 0) h9) (jRo_of (by decide)) (Nat.le_of_ble_eq_true rfl) ⟨Nat.le_of_ble_eq_true rfl, Nat.le_of_ble_eq_true rfl⟩ rfl rfl rfl ?_
    refine J_ne0 (jat ok_X6_figure 17 (pc := 29) (i := .ifCond .ne 6) (n := 3) rfl rfl) (tgt := 35) (by decide) (fun c => ?_) (fun c => ?_)
    · have h := (if_neg c).symm.trans h
      refine J_seg ok_X6_figure 20 2 (pc' := 37) (ls' := [(0, .inr (.inr (.inl x0))), (1, .inl x1), (2, .inl x2)]) (st' := [.inr (.inr (.inl x0)), .inr (.inr (.inl x0))]) rfl ?_
      obtain ⟨v10, h11, h⟩ := Option.bind_eq_some_iff.mp h
      refine J_getI (jat ok_X6_figure 22 (pc := 37) (i := .getfield 106) (n := 3) rfl rfl) fl_RX6_106 h11 ?_
      refine J_seg ok_X6_figure 23 2 (pc' := 42) (ls' := [(0, .inr (.inr (.inl x0))), (1, .inl x1), (2, .inl x2)]) (st' := [.inl (v10 + 1), .inr (.inr (.inl x0))]) rfl ?_
      obtain ⟨a12, h13, h⟩ := Option.bind_eq_some_iff.mp h
      refine J_put (jat ok_X6_figure 25 (pc := 42) (i := .putfield 106) (n := 3) rfl rfl) (fp_RX6_106 _) (jPV_int _) h13 ?_
      refine J_seg ok_X6_figure 26 1 (pc' := 46) (ls' := [(0, .inr (.inr (.inl x0))), (1, .inl x1), (2, .inl x2)]) (st' := [.inr (.inr (.inl x0))]) rfl ?_
      obtain ⟨v14, h15, h⟩ := Option.bind_eq_some_iff.mp h
      refine J_getR (jat ok_X6_figure 27 (pc := 46) (i := .getfield 34) (n := 3) rfl rfl) fl_RX6_34 h15 ?_
      refine J_seg ok_X6_figure 28 1 (pc' := 50) (ls' := [(0, .inr (.inr (.inl x0))), (1, .inl x1), (2, .inl x2)]) (st' := [.inr (.inr (.inl x0)), .inr (.inr (.inl v14))]) rfl ?_
      obtain ⟨v16, h17, h⟩ := Option.bind_eq_some_iff.mp h
      refine J_getI (jat ok_X6_figure 29 (pc := 50) (i := .getfield 103) (n := 3) rfl rfl) fl_RX6_103 h17 ?_
      refine J_seg ok_X6_figure 30 1 (pc' := 54) (ls' := [(0, .inr (.inr (.inl x0))), (1, .inl x1), (2, .inl x2)]) (st' := [.inr (.inr (.inl x0)), .inl v16, .inr (.inr (.inl v14))]) rfl ?_
      obtain ⟨v18, h19, h⟩ := Option.bind_eq_some_iff.mp h
      refine J_getI (jat ok_X6_figure 31 (pc := 54) (i := .getfield 106) (n := 3) rfl rfl) fl_RX6_106 h19 ?_
      refine J_seg ok_X6_figure 32 3 (pc' := 60) (ls' := [(0, .inr (.inr (.inl x0))), (1, .inl x1), (2, .inl x2)]) (st' := [.inl ((v16 + v18) - 1), .inr (.inr (.inl v14))]) rfl ?_
      obtain ⟨v20, h21, h⟩ := Option.bind_eq_some_iff.mp h
      refine J_iald (jat ok_X6_figure 35 (pc := 60) (i := .iaload) (n := 1) rfl rfl) h21 ?_
      refine J_seg ok_X6_figure 36 2 (pc' := 64) (ls' := [(0, .inr (.inr (.inl x0))), (1, .inl x1), (2, .inl x2)]) (st' := [.inl (v20 - 48)]) rfl ?_
      have h := Option.some.inj h
      subst h
      exact hR _ _ (jat ok_X6_figure 38 (pc := 64) (i := .ireturn) (n := 1) rfl rfl)
    · have h := (if_pos c).symm.trans h
      refine J_seg ok_X6_figure 18 1 (pc' := 34) (ls' := [(0, .inr (.inr (.inl x0))), (1, .inl x1), (2, .inl x2)]) (st' := [.inl (-9)]) rfl ?_
      have h := Option.some.inj h
      subst h
      exact hR _ _ (jat ok_X6_figure 19 (pc := 34) (i := .ireturn) (n := 1) rfl rfl)
theorem c_X6_figure (l : Launch) (g : GX) (d : Nat) {x0 : Option Nat} {x1 : Int32} {x2 : Int32} {ah : AH} {q : Int32 × AH} (h : f_X6_figure x0 x1 x2 ah = some q) : jM l g (d + 1) md_X6_figure [.inr (.inr (.inl x0)), .inl x1, .inl x2] ah (some (.inl q.1)) q.2 :=
  jM_of (by decide) (Nat.le_of_ble_eq_true rfl) (k_X6_figure d ah q h (fun pc ls hd => J_reti hd rfl (jPV_int _) rfl (Nat.le_refl _) rfl rfl))
def f_X6_kindOfLetter (x0 : Int32) (ah : AH) : Option (Int32 × AH) :=
  if x0 = 112 then (some (0, ah)) else (if x0 = 122 then (some (1, ah)) else (if x0 = 115 then (some (2, ah)) else (if x0 = 104 then (some (3, ah)) else (if x0 = 119 then (some (4, ah)) else (if x0 = 108 then (some (5, ah)) else (some ((-9), ah)))))))
set_option maxRecDepth 100000 in
set_option maxHeartbeats 4000000 in
theorem k_X6_kindOfLetter {l : Launch} {g : GX} (d : Nat) {Q : jQ} {x0 : Int32} (ah : AH) (out : Int32 × AH) (h : f_X6_kindOfLetter x0 ah = some out) (hR : jRetI l g md_X6_kindOfLetter (jRm (d + 0) md_X6_kindOfLetter) Q (0, 0) out.1 out.2) : J l g md_X6_kindOfLetter (jRm (d + 0) md_X6_kindOfLetter) Q 0 [(0, .inl x0)] [] ah (0, 0) := by
  unfold f_X6_kindOfLetter at h
  refine J_seg ok_X6_kindOfLetter 0 2 (pc' := 3) (ls' := [(0, .inl x0)]) (st' := [.inl 112, .inl x0]) rfl ?_
  refine J_ne (jat ok_X6_kindOfLetter 2 (pc := 3) (i := .if_icmp .ne 7) (n := 3) rfl rfl) (tgt := 10) (by decide) (fun c => ?_) (fun c => ?_)
  · have h := (if_neg c).symm.trans h
    refine J_seg ok_X6_kindOfLetter 5 2 (pc' := 13) (ls' := [(0, .inl x0)]) (st' := [.inl 122, .inl x0]) rfl ?_
    refine J_ne (jat ok_X6_kindOfLetter 7 (pc := 13) (i := .if_icmp .ne 7) (n := 3) rfl rfl) (tgt := 20) (by decide) (fun c => ?_) (fun c => ?_)
    · have h := (if_neg c).symm.trans h
      refine J_seg ok_X6_kindOfLetter 10 2 (pc' := 23) (ls' := [(0, .inl x0)]) (st' := [.inl 115, .inl x0]) rfl ?_
      refine J_ne (jat ok_X6_kindOfLetter 12 (pc := 23) (i := .if_icmp .ne 7) (n := 3) rfl rfl) (tgt := 30) (by decide) (fun c => ?_) (fun c => ?_)
      · have h := (if_neg c).symm.trans h
        refine J_seg ok_X6_kindOfLetter 15 2 (pc' := 33) (ls' := [(0, .inl x0)]) (st' := [.inl 104, .inl x0]) rfl ?_
        refine J_ne (jat ok_X6_kindOfLetter 17 (pc := 33) (i := .if_icmp .ne 7) (n := 3) rfl rfl) (tgt := 40) (by decide) (fun c => ?_) (fun c => ?_)
        · have h := (if_neg c).symm.trans h
          refine J_seg ok_X6_kindOfLetter 20 2 (pc' := 43) (ls' := [(0, .inl x0)]) (st' := [.inl 119, .inl x0]) rfl ?_
          refine J_ne (jat ok_X6_kindOfLetter 22 (pc := 43) (i := .if_icmp .ne 7) (n := 3) rfl rfl) (tgt := 50) (by decide) (fun c => ?_) (fun c => ?_)
          · have h := (if_neg c).symm.trans h
            refine J_seg ok_X6_kindOfLetter 25 2 (pc' := 53) (ls' := [(0, .inl x0)]) (st' := [.inl 108, .inl x0]) rfl ?_
            refine J_ne (jat ok_X6_kindOfLetter 27 (pc := 53) (i := .if_icmp .ne 7) (n := 3) rfl rfl) (tgt := 60) (by decide) (fun c => ?_) (fun c => ?_)
            · have h := (if_neg c).symm.trans h
              refine J_seg ok_X6_kindOfLetter 30 1 (pc' := 62) (ls' := [(0, .inl x0)]) (st' := [.inl (-9)]) rfl ?_
              have h := Option.some.inj h
              subst h
              exact hR _ _ (jat ok_X6_kindOfLetter 31 (pc := 62) (i := .ireturn) (n := 1) rfl rfl)
            · have h := (if_pos c).symm.trans h
              refine J_seg ok_X6_kindOfLetter 28 2 (pc' := 62) (ls' := [(0, .inl x0)]) (st' := [.inl 5]) rfl ?_
              have h := Option.some.inj h
              subst h
              exact hR _ _ (jat ok_X6_kindOfLetter 31 (pc := 62) (i := .ireturn) (n := 1) rfl rfl)
          · have h := (if_pos c).symm.trans h
            refine J_seg ok_X6_kindOfLetter 23 2 (pc' := 62) (ls' := [(0, .inl x0)]) (st' := [.inl 4]) rfl ?_
            have h := Option.some.inj h
            subst h
            exact hR _ _ (jat ok_X6_kindOfLetter 31 (pc := 62) (i := .ireturn) (n := 1) rfl rfl)
        · have h := (if_pos c).symm.trans h
          refine J_seg ok_X6_kindOfLetter 18 2 (pc' := 62) (ls' := [(0, .inl x0)]) (st' := [.inl 3]) rfl ?_
          have h := Option.some.inj h
          subst h
          exact hR _ _ (jat ok_X6_kindOfLetter 31 (pc := 62) (i := .ireturn) (n := 1) rfl rfl)
      · have h := (if_pos c).symm.trans h
        refine J_seg ok_X6_kindOfLetter 13 2 (pc' := 62) (ls' := [(0, .inl x0)]) (st' := [.inl 2]) rfl ?_
        have h := Option.some.inj h
        subst h
        exact hR _ _ (jat ok_X6_kindOfLetter 31 (pc := 62) (i := .ireturn) (n := 1) rfl rfl)
    · have h := (if_pos c).symm.trans h
      refine J_seg ok_X6_kindOfLetter 8 2 (pc' := 62) (ls' := [(0, .inl x0)]) (st' := [.inl 1]) rfl ?_
      have h := Option.some.inj h
      subst h
      exact hR _ _ (jat ok_X6_kindOfLetter 31 (pc := 62) (i := .ireturn) (n := 1) rfl rfl)
  · have h := (if_pos c).symm.trans h
    refine J_seg ok_X6_kindOfLetter 3 2 (pc' := 62) (ls' := [(0, .inl x0)]) (st' := [.inl 0]) rfl ?_
    have h := Option.some.inj h
    subst h
    exact hR _ _ (jat ok_X6_kindOfLetter 31 (pc := 62) (i := .ireturn) (n := 1) rfl rfl)
theorem c_X6_kindOfLetter (l : Launch) (g : GX) (d : Nat) {x0 : Int32} {ah : AH} {q : Int32 × AH} (h : f_X6_kindOfLetter x0 ah = some q) : jM l g (d + 0) md_X6_kindOfLetter [.inl x0] ah (some (.inl q.1)) q.2 :=
  jM_of (by decide) (Nat.le_of_ble_eq_true rfl) (k_X6_kindOfLetter d ah q h (fun pc ls hd => J_reti hd rfl (jPV_int _) rfl (Nat.le_refl _) rfl rfl))
def f_X6_readsPerson_j161 (x0 : Option Nat) (x1 : Int32) (x2 : Int32) (x3 : Int32) (x4 : Int32) (x6 : Int32) (ah : AH) : Option (Int32 × AH) :=
  (gI ah x0 6 20).bind fun v36 => (gR ah x0 6 19).bind fun v38 => (sA ah v38 (5 * v36) x1).bind fun a40 => (gR a40 x0 6 19).bind fun v42 => (sA a40 v42 ((5 * v36) + 1) x2).bind fun a44 => (gR a44 x0 6 19).bind fun v46 => (sA a44 v46 ((5 * v36) + 2) x3).bind fun a48 => (gR a48 x0 6 19).bind fun v50 => (sA a48 v50 ((5 * v36) + 3) x6).bind fun a52 => (gR a52 x0 6 19).bind fun v54 => (sA a52 v54 ((5 * v36) + 4) x4).bind fun a56 => (gI a56 x0 6 20).bind fun v58 => (sF a56 x0 6 20 (.inl (v58 + 1))).bind fun a60 => some (1, a60)
set_option maxRecDepth 100000 in
set_option maxHeartbeats 4000000 in
theorem k_X6_readsPerson_j161 {l : Launch} {g : GX} (d : Nat) {Q : jQ} {x0 : Option Nat} {x1 : Int32} {x2 : Int32} {x3 : Int32} {x4 : Int32} {x6 : Int32} (ah : AH) (out : Int32 × AH) (h : f_X6_readsPerson_j161 x0 x1 x2 x3 x4 x6 ah = some out) (hR : jRetZ l g md_X6_readsPerson (jRm (d + 2) md_X6_readsPerson) Q (0, 0) out.1 out.2) : J l g md_X6_readsPerson (jRm (d + 2) md_X6_readsPerson) Q 161 [(0, .inr (.inr (.inl x0))), (1, .inl x1), (2, .inl x2), (3, .inl x3), (4, .inl x4), (6, .inl x6)] [] ah (0, 0) := by
  unfold f_X6_readsPerson_j161 at h
  refine J_seg ok_X6_readsPerson 84 2 (pc' := 163) (ls' := [(0, .inr (.inr (.inl x0))), (1, .inl x1), (2, .inl x2), (3, .inl x3), (4, .inl x4), (6, .inl x6)]) (st' := [.inr (.inr (.inl x0)), .inl 5]) rfl ?_
  obtain ⟨v36, h37, h⟩ := Option.bind_eq_some_iff.mp h
  refine J_getI (jat ok_X6_readsPerson 86 (pc := 163) (i := .getfield 119) (n := 3) rfl rfl) fl_RX6_119 h37 ?_
  refine J_seg ok_X6_readsPerson 87 3 (pc' := 170) (ls' := [(7, .inl (5 * v36)), (0, .inr (.inr (.inl x0))), (1, .inl x1), (2, .inl x2), (3, .inl x3), (4, .inl x4), (6, .inl x6)]) (st' := [.inr (.inr (.inl x0))]) rfl ?_
  obtain ⟨v38, h39, h⟩ := Option.bind_eq_some_iff.mp h
  refine J_getR (jat ok_X6_readsPerson 90 (pc := 170) (i := .getfield 44) (n := 3) rfl rfl) fl_RX6_44 h39 ?_
  refine J_seg ok_X6_readsPerson 91 2 (pc' := 176) (ls' := [(7, .inl (5 * v36)), (0, .inr (.inr (.inl x0))), (1, .inl x1), (2, .inl x2), (3, .inl x3), (4, .inl x4), (6, .inl x6)]) (st' := [.inl x1, .inl (5 * v36), .inr (.inr (.inl v38))]) rfl ?_
  obtain ⟨a40, h41, h⟩ := Option.bind_eq_some_iff.mp h
  refine J_iast (jat ok_X6_readsPerson 93 (pc := 176) (i := .iastore) (n := 1) rfl rfl) h41 ?_
  refine J_seg ok_X6_readsPerson 94 1 (pc' := 178) (ls' := [(7, .inl (5 * v36)), (0, .inr (.inr (.inl x0))), (1, .inl x1), (2, .inl x2), (3, .inl x3), (4, .inl x4), (6, .inl x6)]) (st' := [.inr (.inr (.inl x0))]) rfl ?_
  obtain ⟨v42, h43, h⟩ := Option.bind_eq_some_iff.mp h
  refine J_getR (jat ok_X6_readsPerson 95 (pc := 178) (i := .getfield 44) (n := 3) rfl rfl) fl_RX6_44 h43 ?_
  refine J_seg ok_X6_readsPerson 96 4 (pc' := 186) (ls' := [(7, .inl (5 * v36)), (0, .inr (.inr (.inl x0))), (1, .inl x1), (2, .inl x2), (3, .inl x3), (4, .inl x4), (6, .inl x6)]) (st' := [.inl x2, .inl ((5 * v36) + 1), .inr (.inr (.inl v42))]) rfl ?_
  obtain ⟨a44, h45, h⟩ := Option.bind_eq_some_iff.mp h
  refine J_iast (jat ok_X6_readsPerson 100 (pc := 186) (i := .iastore) (n := 1) rfl rfl) h45 ?_
  refine J_seg ok_X6_readsPerson 101 1 (pc' := 188) (ls' := [(7, .inl (5 * v36)), (0, .inr (.inr (.inl x0))), (1, .inl x1), (2, .inl x2), (3, .inl x3), (4, .inl x4), (6, .inl x6)]) (st' := [.inr (.inr (.inl x0))]) rfl ?_
  obtain ⟨v46, h47, h⟩ := Option.bind_eq_some_iff.mp h
  refine J_getR (jat ok_X6_readsPerson 102 (pc := 188) (i := .getfield 44) (n := 3) rfl rfl) fl_RX6_44 h47 ?_
  refine J_seg ok_X6_readsPerson 103 4 (pc' := 196) (ls' := [(7, .inl (5 * v36)), (0, .inr (.inr (.inl x0))), (1, .inl x1), (2, .inl x2), (3, .inl x3), (4, .inl x4), (6, .inl x6)]) (st' := [.inl x3, .inl ((5 * v36) + 2), .inr (.inr (.inl v46))]) rfl ?_
  obtain ⟨a48, h49, h⟩ := Option.bind_eq_some_iff.mp h
  refine J_iast (jat ok_X6_readsPerson 107 (pc := 196) (i := .iastore) (n := 1) rfl rfl) h49 ?_
  refine J_seg ok_X6_readsPerson 108 1 (pc' := 198) (ls' := [(7, .inl (5 * v36)), (0, .inr (.inr (.inl x0))), (1, .inl x1), (2, .inl x2), (3, .inl x3), (4, .inl x4), (6, .inl x6)]) (st' := [.inr (.inr (.inl x0))]) rfl ?_
  obtain ⟨v50, h51, h⟩ := Option.bind_eq_some_iff.mp h
  refine J_getR (jat ok_X6_readsPerson 109 (pc := 198) (i := .getfield 44) (n := 3) rfl rfl) fl_RX6_44 h51 ?_
  refine J_seg ok_X6_readsPerson 110 4 (pc' := 207) (ls' := [(7, .inl (5 * v36)), (0, .inr (.inr (.inl x0))), (1, .inl x1), (2, .inl x2), (3, .inl x3), (4, .inl x4), (6, .inl x6)]) (st' := [.inl x6, .inl ((5 * v36) + 3), .inr (.inr (.inl v50))]) rfl ?_
  obtain ⟨a52, h53, h⟩ := Option.bind_eq_some_iff.mp h
  refine J_iast (jat ok_X6_readsPerson 114 (pc := 207) (i := .iastore) (n := 1) rfl rfl) h53 ?_
  refine J_seg ok_X6_readsPerson 115 1 (pc' := 209) (ls' := [(7, .inl (5 * v36)), (0, .inr (.inr (.inl x0))), (1, .inl x1), (2, .inl x2), (3, .inl x3), (4, .inl x4), (6, .inl x6)]) (st' := [.inr (.inr (.inl x0))]) rfl ?_
  obtain ⟨v54, h55, h⟩ := Option.bind_eq_some_iff.mp h
  refine J_getR (jat ok_X6_readsPerson 116 (pc := 209) (i := .getfield 44) (n := 3) rfl rfl) fl_RX6_44 h55 ?_
  refine J_seg ok_X6_readsPerson 117 4 (pc' := 218) (ls' := [(7, .inl (5 * v36)), (0, .inr (.inr (.inl x0))), (1, .inl x1), (2, .inl x2), (3, .inl x3), (4, .inl x4), (6, .inl x6)]) (st' := [.inl x4, .inl ((5 * v36) + 4), .inr (.inr (.inl v54))]) rfl ?_
  obtain ⟨a56, h57, h⟩ := Option.bind_eq_some_iff.mp h
  refine J_iast (jat ok_X6_readsPerson 121 (pc := 218) (i := .iastore) (n := 1) rfl rfl) h57 ?_
  refine J_seg ok_X6_readsPerson 122 2 (pc' := 221) (ls' := [(7, .inl (5 * v36)), (0, .inr (.inr (.inl x0))), (1, .inl x1), (2, .inl x2), (3, .inl x3), (4, .inl x4), (6, .inl x6)]) (st' := [.inr (.inr (.inl x0)), .inr (.inr (.inl x0))]) rfl ?_
  obtain ⟨v58, h59, h⟩ := Option.bind_eq_some_iff.mp h
  refine J_getI (jat ok_X6_readsPerson 124 (pc := 221) (i := .getfield 119) (n := 3) rfl rfl) fl_RX6_119 h59 ?_
  refine J_seg ok_X6_readsPerson 125 2 (pc' := 226) (ls' := [(7, .inl (5 * v36)), (0, .inr (.inr (.inl x0))), (1, .inl x1), (2, .inl x2), (3, .inl x3), (4, .inl x4), (6, .inl x6)]) (st' := [.inl (v58 + 1), .inr (.inr (.inl x0))]) rfl ?_
  obtain ⟨a60, h61, h⟩ := Option.bind_eq_some_iff.mp h
  refine J_put (jat ok_X6_readsPerson 127 (pc := 226) (i := .putfield 119) (n := 3) rfl rfl) (fp_RX6_119 _) (jPV_int _) h61 ?_
  refine J_seg ok_X6_readsPerson 128 1 (pc' := 230) (ls' := [(7, .inl (5 * v36)), (0, .inr (.inr (.inl x0))), (1, .inl x1), (2, .inl x2), (3, .inl x3), (4, .inl x4), (6, .inl x6)]) (st' := [.inl 1]) rfl ?_
  have h := Option.some.inj h
  subst h
  exact hR _ _ (jat ok_X6_readsPerson 129 (pc := 230) (i := .ireturn) (n := 1) rfl rfl) (Or.inr rfl)
def f_X6_readsPerson_j145 (x0 : Option Nat) (x1 : Int32) (x2 : Int32) (x3 : Int32) (x4 : Int32) (x5 : Int32) (y0 : Int32) (ah : AH) : Option (Int32 × AH) :=
  if x5 = 0 then (if y0 = (-9) then (some (0, ah)) else (f_X6_readsPerson_j161 x0 x1 x2 x3 x4 y0 ah)) else (f_X6_readsPerson_j161 x0 x1 x2 x3 x4 y0 ah)
set_option maxRecDepth 100000 in
set_option maxHeartbeats 4000000 in
theorem k_X6_readsPerson_j145 {l : Launch} {g : GX} (d : Nat) {Q : jQ} {x0 : Option Nat} {x1 : Int32} {x2 : Int32} {x3 : Int32} {x4 : Int32} {x5 : Int32} {y0 : Int32} (ah : AH) (out : Int32 × AH) (h : f_X6_readsPerson_j145 x0 x1 x2 x3 x4 x5 y0 ah = some out) (hR : jRetZ l g md_X6_readsPerson (jRm (d + 2) md_X6_readsPerson) Q (0, 0) out.1 out.2) : J l g md_X6_readsPerson (jRm (d + 2) md_X6_readsPerson) Q 145 [(0, .inr (.inr (.inl x0))), (1, .inl x1), (2, .inl x2), (3, .inl x3), (4, .inl x4), (5, .inl x5)] [.inl y0] ah (0, 0) := by
  unfold f_X6_readsPerson_j145 at h
  refine J_seg ok_X6_readsPerson 76 2 (pc' := 149) (ls' := [(6, .inl y0), (0, .inr (.inr (.inl x0))), (1, .inl x1), (2, .inl x2), (3, .inl x3), (4, .inl x4), (5, .inl x5)]) (st' := [.inl x5]) rfl ?_
  refine J_ne0 (jat ok_X6_readsPerson 78 (pc := 149) (i := .ifCond .ne 12) (n := 3) rfl rfl) (tgt := 161) (by decide) (fun c => ?_) (fun c => ?_)
  · have h := (if_neg c).symm.trans h
    refine J_sub (ls' := [(0, .inr (.inr (.inl x0))), (1, .inl x1), (2, .inl x2), (3, .inl x3), (4, .inl x4), (6, .inl y0)]) [1, 2, 3, 4, 5, 0] rfl ?_
    exact k_X6_readsPerson_j161 d _ _ h hR
  · have h := (if_pos c).symm.trans h
    refine J_seg ok_X6_readsPerson 79 2 (pc' := 156) (ls' := [(6, .inl y0), (0, .inr (.inr (.inl x0))), (1, .inl x1), (2, .inl x2), (3, .inl x3), (4, .inl x4), (5, .inl x5)]) (st' := [.inl (-9), .inl y0]) rfl ?_
    refine J_ne (jat ok_X6_readsPerson 81 (pc := 156) (i := .if_icmp .ne 5) (n := 3) rfl rfl) (tgt := 161) (by decide) (fun c => ?_) (fun c => ?_)
    · have h := (if_neg c).symm.trans h
      refine J_sub (ls' := [(0, .inr (.inr (.inl x0))), (1, .inl x1), (2, .inl x2), (3, .inl x3), (4, .inl x4), (6, .inl y0)]) [1, 2, 3, 4, 5, 0] rfl ?_
      exact k_X6_readsPerson_j161 d _ _ h hR
    · have h := (if_pos c).symm.trans h
      refine J_seg ok_X6_readsPerson 82 1 (pc' := 160) (ls' := [(6, .inl y0), (0, .inr (.inr (.inl x0))), (1, .inl x1), (2, .inl x2), (3, .inl x3), (4, .inl x4), (5, .inl x5)]) (st' := [.inl 0]) rfl ?_
      have h := Option.some.inj h
      subst h
      exact hR _ _ (jat ok_X6_readsPerson 83 (pc := 160) (i := .ireturn) (n := 1) rfl rfl) (Or.inl rfl)
def f_X6_readsPerson_j124 (x0 : Option Nat) (x1 : Int32) (x2 : Int32) (x3 : Int32) (x4 : Int32) (x5 : Int32) (y0 : Int32) (y1 : Int32) (y2 : Option Nat) (ah : AH) : Option (Int32 × AH) :=
  (sF ah y2 6 17 (.inl (y1 + y0))).bind fun a31 => if x5 = 0 then (if qO a31 x0 6 = true then ((f_X6_figure x0 0 9 a31).bind fun q33 => f_X6_readsPerson_j145 x0 x1 x2 x3 x4 x5 q33.1 q33.2) else none) else (f_X6_readsPerson_j145 x0 x1 x2 x3 x4 x5 (-9) a31)
set_option maxRecDepth 100000 in
set_option maxHeartbeats 4000000 in
theorem k_X6_readsPerson_j124 {l : Launch} {g : GX} (d : Nat) {Q : jQ} {x0 : Option Nat} {x1 : Int32} {x2 : Int32} {x3 : Int32} {x4 : Int32} {x5 : Int32} {y0 : Int32} {y1 : Int32} {y2 : Option Nat} (ah : AH) (out : Int32 × AH) (h : f_X6_readsPerson_j124 x0 x1 x2 x3 x4 x5 y0 y1 y2 ah = some out) (hR : jRetZ l g md_X6_readsPerson (jRm (d + 2) md_X6_readsPerson) Q (0, 0) out.1 out.2) : J l g md_X6_readsPerson (jRm (d + 2) md_X6_readsPerson) Q 124 [(0, .inr (.inr (.inl x0))), (1, .inl x1), (2, .inl x2), (3, .inl x3), (4, .inl x4), (5, .inl x5)] [.inl y0, .inl y1, .inr (.inr (.inl y2))] ah (0, 0) := by
  unfold f_X6_readsPerson_j124 at h
  refine J_seg ok_X6_readsPerson 66 1 (pc' := 125) (ls' := [(0, .inr (.inr (.inl x0))), (1, .inl x1), (2, .inl x2), (3, .inl x3), (4, .inl x4), (5, .inl x5)]) (st' := [.inl (y1 + y0), .inr (.inr (.inl y2))]) rfl ?_
  obtain ⟨a31, h32, h⟩ := Option.bind_eq_some_iff.mp h
  refine J_put (jat ok_X6_readsPerson 67 (pc := 125) (i := .putfield 106) (n := 3) rfl rfl) (fp_RX6_106 _) (jPV_int _) h32 ?_
  refine J_seg ok_X6_readsPerson 68 1 (pc' := 130) (ls' := [(0, .inr (.inr (.inl x0))), (1, .inl x1), (2, .inl x2), (3, .inl x3), (4, .inl x4), (5, .inl x5)]) (st' := [.inl x5]) rfl ?_
  refine J_eq0 (jat ok_X6_readsPerson 69 (pc := 130) (i := .ifCond .eq 8) (n := 3) rfl rfl) (tgt := 138) (by decide) (fun c => ?_) (fun c => ?_)
  · have h := (if_pos c).symm.trans h
    refine J_seg ok_X6_readsPerson 72 3 (pc' := 142) (ls' := [(0, .inr (.inr (.inl x0))), (1, .inl x1), (2, .inl x2), (3, .inl x3), (4, .inl x4), (5, .inl x5)]) (st' := [.inl 9, .inl 0, .inr (.inr (.inl x0))]) rfl ?_
    by_cases c35 : qO a31 x0 6 = true
    case neg => exact absurd ((if_neg c35).symm.trans h) (by simp)
    have h := (if_pos c35).symm.trans h
    obtain ⟨q33, h34, h⟩ := Option.bind_eq_some_iff.mp h
    refine J_callV (md' := md_X6_figure) (As := [.inl 0, .inl 9]) (st := []) (cs' := (0, 0)) (st' := [.inl q33.1]) (jat ok_X6_readsPerson 75 (pc := 142) (i := .invokevirtual 125) (n := 3) rfl rfl) ml_RX6_125 yv_X6_figure c35 (c_X6_figure l g (d + 0) h34) (jRo_of (by decide)) (Nat.le_of_ble_eq_true rfl) ⟨Nat.le_of_ble_eq_true rfl, Nat.le_of_ble_eq_true rfl⟩ rfl rfl rfl ?_
    refine J_sub (ls' := [(0, .inr (.inr (.inl x0))), (1, .inl x1), (2, .inl x2), (3, .inl x3), (4, .inl x4), (5, .inl x5)]) [0, 1, 2, 3, 4, 5] rfl ?_
    exact k_X6_readsPerson_j145 d _ _ h hR
  · have h := (if_neg c).symm.trans h
    refine J_seg ok_X6_readsPerson 70 2 (pc' := 145) (ls' := [(0, .inr (.inr (.inl x0))), (1, .inl x1), (2, .inl x2), (3, .inl x3), (4, .inl x4), (5, .inl x5)]) (st' := [.inl (-9)]) rfl ?_
    refine J_sub (ls' := [(0, .inr (.inr (.inl x0))), (1, .inl x1), (2, .inl x2), (3, .inl x3), (4, .inl x4), (5, .inl x5)]) [0, 1, 2, 3, 4, 5] rfl ?_
    exact k_X6_readsPerson_j145 d _ _ h hR
def f_X6_readsPerson_j107 (x0 : Option Nat) (x1 : Int32) (x2 : Int32) (x3 : Int32) (x4 : Int32) (y0 : Int32) (ah : AH) : Option (Int32 × AH) :=
  (gI ah x0 6 17).bind fun v29 => if y0 = 0 then (f_X6_readsPerson_j124 x0 x1 x2 x3 x4 y0 0 v29 x0 ah) else (f_X6_readsPerson_j124 x0 x1 x2 x3 x4 y0 1 v29 x0 ah)
set_option maxRecDepth 100000 in
set_option maxHeartbeats 4000000 in
theorem k_X6_readsPerson_j107 {l : Launch} {g : GX} (d : Nat) {Q : jQ} {x0 : Option Nat} {x1 : Int32} {x2 : Int32} {x3 : Int32} {x4 : Int32} {y0 : Int32} (ah : AH) (out : Int32 × AH) (h : f_X6_readsPerson_j107 x0 x1 x2 x3 x4 y0 ah = some out) (hR : jRetZ l g md_X6_readsPerson (jRm (d + 2) md_X6_readsPerson) Q (0, 0) out.1 out.2) : J l g md_X6_readsPerson (jRm (d + 2) md_X6_readsPerson) Q 107 [(0, .inr (.inr (.inl x0))), (1, .inl x1), (2, .inl x2), (3, .inl x3), (4, .inl x4)] [.inl y0] ah (0, 0) := by
  unfold f_X6_readsPerson_j107 at h
  refine J_seg ok_X6_readsPerson 57 3 (pc' := 111) (ls' := [(5, .inl y0), (0, .inr (.inr (.inl x0))), (1, .inl x1), (2, .inl x2), (3, .inl x3), (4, .inl x4)]) (st' := [.inr (.inr (.inl x0)), .inr (.inr (.inl x0))]) rfl ?_
  obtain ⟨v29, h30, h⟩ := Option.bind_eq_some_iff.mp h
  refine J_getI (jat ok_X6_readsPerson 60 (pc := 111) (i := .getfield 106) (n := 3) rfl rfl) fl_RX6_106 h30 ?_
  refine J_seg ok_X6_readsPerson 61 1 (pc' := 116) (ls' := [(5, .inl y0), (0, .inr (.inr (.inl x0))), (1, .inl x1), (2, .inl x2), (3, .inl x3), (4, .inl x4)]) (st' := [.inl y0, .inl v29, .inr (.inr (.inl x0))]) rfl ?_
  refine J_eq0 (jat ok_X6_readsPerson 62 (pc := 116) (i := .ifCond .eq 7) (n := 3) rfl rfl) (tgt := 123) (by decide) (fun c => ?_) (fun c => ?_)
  · have h := (if_pos c).symm.trans h
    refine J_seg ok_X6_readsPerson 65 1 (pc' := 124) (ls' := [(5, .inl y0), (0, .inr (.inr (.inl x0))), (1, .inl x1), (2, .inl x2), (3, .inl x3), (4, .inl x4)]) (st' := [.inl 0, .inl v29, .inr (.inr (.inl x0))]) rfl ?_
    refine J_sub (ls' := [(0, .inr (.inr (.inl x0))), (1, .inl x1), (2, .inl x2), (3, .inl x3), (4, .inl x4), (5, .inl y0)]) [1, 2, 3, 4, 5, 0] rfl ?_
    exact k_X6_readsPerson_j124 d _ _ h hR
  · have h := (if_neg c).symm.trans h
    refine J_seg ok_X6_readsPerson 63 2 (pc' := 124) (ls' := [(5, .inl y0), (0, .inr (.inr (.inl x0))), (1, .inl x1), (2, .inl x2), (3, .inl x3), (4, .inl x4)]) (st' := [.inl 1, .inl v29, .inr (.inr (.inl x0))]) rfl ?_
    refine J_sub (ls' := [(0, .inr (.inr (.inl x0))), (1, .inl x1), (2, .inl x2), (3, .inl x3), (4, .inl x4), (5, .inl y0)]) [1, 2, 3, 4, 5, 0] rfl ?_
    exact k_X6_readsPerson_j124 d _ _ h hR
def f_X6_readsPerson_j67 (x0 : Option Nat) (x1 : Int32) (x2 : Int32) (y0 : Int32) (ah : AH) : Option (Int32 × AH) :=
  if y0 = (-9) then (some (0, ah)) else ((gI ah x0 6 17).bind fun v20 => (gI ah x0 6 18).bind fun v22 => if v20 = v22 then (some (0, ah)) else ((gI ah x0 6 17).bind fun v24 => if qO ah x0 6 = true then ((f_X6_here x0 ah).bind fun q26 => if q26.1 = 45 then (f_X6_readsPerson_j107 x0 x1 x2 y0 v24 1 q26.2) else (f_X6_readsPerson_j107 x0 x1 x2 y0 v24 0 q26.2)) else none))
set_option maxRecDepth 100000 in
set_option maxHeartbeats 4000000 in
theorem k_X6_readsPerson_j67 {l : Launch} {g : GX} (d : Nat) {Q : jQ} {x0 : Option Nat} {x1 : Int32} {x2 : Int32} {y0 : Int32} (ah : AH) (out : Int32 × AH) (h : f_X6_readsPerson_j67 x0 x1 x2 y0 ah = some out) (hR : jRetZ l g md_X6_readsPerson (jRm (d + 2) md_X6_readsPerson) Q (0, 0) out.1 out.2) : J l g md_X6_readsPerson (jRm (d + 2) md_X6_readsPerson) Q 67 [(0, .inr (.inr (.inl x0))), (1, .inl x1), (2, .inl x2)] [.inl y0] ah (0, 0) := by
  unfold f_X6_readsPerson_j67 at h
  refine J_seg ok_X6_readsPerson 36 3 (pc' := 71) (ls' := [(3, .inl y0), (0, .inr (.inr (.inl x0))), (1, .inl x1), (2, .inl x2)]) (st' := [.inl (-9), .inl y0]) rfl ?_
  refine J_eq (jat ok_X6_readsPerson 39 (pc := 71) (i := .if_icmp .eq 14) (n := 3) rfl rfl) (tgt := 85) (by decide) (fun c => ?_) (fun c => ?_)
  · have h := (if_pos c).symm.trans h
    refine J_seg ok_X6_readsPerson 45 1 (pc' := 86) (ls' := [(3, .inl y0), (0, .inr (.inr (.inl x0))), (1, .inl x1), (2, .inl x2)]) (st' := [.inl 0]) rfl ?_
    have h := Option.some.inj h
    subst h
    exact hR _ _ (jat ok_X6_readsPerson 46 (pc := 86) (i := .ireturn) (n := 1) rfl rfl) (Or.inl rfl)
  · have h := (if_neg c).symm.trans h
    refine J_seg ok_X6_readsPerson 40 1 (pc' := 75) (ls' := [(3, .inl y0), (0, .inr (.inr (.inl x0))), (1, .inl x1), (2, .inl x2)]) (st' := [.inr (.inr (.inl x0))]) rfl ?_
    obtain ⟨v20, h21, h⟩ := Option.bind_eq_some_iff.mp h
    refine J_getI (jat ok_X6_readsPerson 41 (pc := 75) (i := .getfield 106) (n := 3) rfl rfl) fl_RX6_106 h21 ?_
    refine J_seg ok_X6_readsPerson 42 1 (pc' := 79) (ls' := [(3, .inl y0), (0, .inr (.inr (.inl x0))), (1, .inl x1), (2, .inl x2)]) (st' := [.inr (.inr (.inl x0)), .inl v20]) rfl ?_
    obtain ⟨v22, h23, h⟩ := Option.bind_eq_some_iff.mp h
    refine J_getI (jat ok_X6_readsPerson 43 (pc := 79) (i := .getfield 109) (n := 3) rfl rfl) fl_RX6_109 h23 ?_
    refine J_ne (jat ok_X6_readsPerson 44 (pc := 82) (i := .if_icmp .ne 5) (n := 3) rfl rfl) (tgt := 87) (by decide) (fun c => ?_) (fun c => ?_)
    · have h := (if_neg c).symm.trans h
      refine J_seg ok_X6_readsPerson 47 1 (pc' := 88) (ls' := [(3, .inl y0), (0, .inr (.inr (.inl x0))), (1, .inl x1), (2, .inl x2)]) (st' := [.inr (.inr (.inl x0))]) rfl ?_
      obtain ⟨v24, h25, h⟩ := Option.bind_eq_some_iff.mp h
      refine J_getI (jat ok_X6_readsPerson 48 (pc := 88) (i := .getfield 106) (n := 3) rfl rfl) fl_RX6_106 h25 ?_
      refine J_seg ok_X6_readsPerson 49 2 (pc' := 94) (ls' := [(4, .inl v24), (3, .inl y0), (0, .inr (.inr (.inl x0))), (1, .inl x1), (2, .inl x2)]) (st' := [.inr (.inr (.inl x0))]) rfl ?_
      by_cases c28 : qO ah x0 6 = true
      case neg => exact absurd ((if_neg c28).symm.trans h) (by simp)
      have h := (if_pos c28).symm.trans h
      obtain ⟨q26, h27, h⟩ := Option.bind_eq_some_iff.mp h
      refine J_callV (md' := md_X6_here) (As := []) (st := []) (cs' := (0, 0)) (st' := [.inl q26.1]) (jat ok_X6_readsPerson 51 (pc := 94) (i := .invokevirtual 112) (n := 3) rfl rfl) ml_RX6_112 yv_X6_here c28 (c_X6_here l g (d + 1) h27) (jRo_of (by decide)) (Nat.le_of_ble_eq_true rfl) ⟨Nat.le_of_ble_eq_true rfl, Nat.le_of_ble_eq_true rfl⟩ rfl rfl rfl ?_
      refine J_seg ok_X6_readsPerson 52 1 (pc' := 99) (ls' := [(4, .inl v24), (3, .inl y0), (0, .inr (.inr (.inl x0))), (1, .inl x1), (2, .inl x2)]) (st' := [.inl 45, .inl q26.1]) rfl ?_
      refine J_ne (jat ok_X6_readsPerson 53 (pc := 99) (i := .if_icmp .ne 7) (n := 3) rfl rfl) (tgt := 106) (by decide) (fun c => ?_) (fun c => ?_)
      · have h := (if_neg c).symm.trans h
        refine J_seg ok_X6_readsPerson 56 1 (pc' := 107) (ls' := [(4, .inl v24), (3, .inl y0), (0, .inr (.inr (.inl x0))), (1, .inl x1), (2, .inl x2)]) (st' := [.inl 0]) rfl ?_
        refine J_sub (ls' := [(0, .inr (.inr (.inl x0))), (1, .inl x1), (2, .inl x2), (3, .inl y0), (4, .inl v24)]) [2, 3, 4, 1, 0] rfl ?_
        exact k_X6_readsPerson_j107 d _ _ h hR
      · have h := (if_pos c).symm.trans h
        refine J_seg ok_X6_readsPerson 54 2 (pc' := 107) (ls' := [(4, .inl v24), (3, .inl y0), (0, .inr (.inr (.inl x0))), (1, .inl x1), (2, .inl x2)]) (st' := [.inl 1]) rfl ?_
        refine J_sub (ls' := [(0, .inr (.inr (.inl x0))), (1, .inl x1), (2, .inl x2), (3, .inl y0), (4, .inl v24)]) [2, 3, 4, 1, 0] rfl ?_
        exact k_X6_readsPerson_j107 d _ _ h hR
    · have h := (if_pos c).symm.trans h
      refine J_seg ok_X6_readsPerson 45 1 (pc' := 86) (ls' := [(3, .inl y0), (0, .inr (.inr (.inl x0))), (1, .inl x1), (2, .inl x2)]) (st' := [.inl 0]) rfl ?_
      have h := Option.some.inj h
      subst h
      exact hR _ _ (jat ok_X6_readsPerson 46 (pc := 86) (i := .ireturn) (n := 1) rfl rfl) (Or.inl rfl)
def f_X6_readsPerson (x0 : Option Nat) (ah : AH) : Option (Int32 × AH) :=
  if qO ah x0 6 = true then ((f_X6_here x0 ah).bind fun q1 => (f_X6_kindOfLetter q1.1 q1.2).bind fun q4 => if q4.1 = (-9) then (some (0, q4.2)) else ((gI q4.2 x0 6 20).bind fun v6 => if v6 = 6 then (some (0, q4.2)) else ((gI q4.2 x0 6 22).bind fun v8 => if v8 ≤ 0 then ((gI q4.2 x0 6 17).bind fun v10 => (sF q4.2 x0 6 17 (.inl (v10 + 1))).bind fun a12 => if qO a12 x0 6 = true then ((f_X6_figure x0 1 9 a12).bind fun q14 => if q14.1 = (-9) then (f_X6_readsPerson_j67 x0 q4.1 q14.1 (-9) q14.2) else (if qO q14.2 x0 6 = true then ((f_X6_figure x0 0 5 q14.2).bind fun q17 => f_X6_readsPerson_j67 x0 q4.1 q14.1 q17.1 q17.2) else none)) else none) else (some (0, q4.2))))) else none
set_option maxRecDepth 100000 in
set_option maxHeartbeats 4000000 in
theorem k_X6_readsPerson {l : Launch} {g : GX} (d : Nat) {Q : jQ} {x0 : Option Nat} (ah : AH) (out : Int32 × AH) (h : f_X6_readsPerson x0 ah = some out) (hR : jRetZ l g md_X6_readsPerson (jRm (d + 2) md_X6_readsPerson) Q (0, 0) out.1 out.2) : J l g md_X6_readsPerson (jRm (d + 2) md_X6_readsPerson) Q 0 [(0, .inr (.inr (.inl x0)))] [] ah (0, 0) := by
  unfold f_X6_readsPerson at h
  refine J_seg ok_X6_readsPerson 0 1 (pc' := 1) (ls' := [(0, .inr (.inr (.inl x0)))]) (st' := [.inr (.inr (.inl x0))]) rfl ?_
  by_cases c3 : qO ah x0 6 = true
  case neg => exact absurd ((if_neg c3).symm.trans h) (by simp)
  have h := (if_pos c3).symm.trans h
  obtain ⟨q1, h2, h⟩ := Option.bind_eq_some_iff.mp h
  refine J_callV (md' := md_X6_here) (As := []) (st := []) (cs' := (0, 0)) (st' := [.inl q1.1]) (jat ok_X6_readsPerson 1 (pc := 1) (i := .invokevirtual 112) (n := 3) rfl rfl) ml_RX6_112 yv_X6_here c3 (c_X6_here l g (d + 1) h2) (jRo_of (by decide)) (Nat.le_of_ble_eq_true rfl) ⟨Nat.le_of_ble_eq_true rfl, Nat.le_of_ble_eq_true rfl⟩ rfl rfl rfl ?_
  obtain ⟨q4, h5, h⟩ := Option.bind_eq_some_iff.mp h
  refine J_callS (md' := md_X6_kindOfLetter) (As := [.inl q1.1]) (st := []) (cs' := (0, 0)) (st' := [.inl q4.1]) (jat ok_X6_readsPerson 2 (pc := 4) (i := .invokestatic 116) (n := 3) rfl rfl) (Or.inl ml_RX6_116) ys_X6_kindOfLetter (c_X6_kindOfLetter l g (d + 1) h5) (jRo_of (by decide)) (Nat.le_of_ble_eq_true rfl) ⟨Nat.le_of_ble_eq_true rfl, Nat.le_of_ble_eq_true rfl⟩ rfl rfl rfl ?_
  refine J_seg ok_X6_readsPerson 3 3 (pc' := 11) (ls' := [(1, .inl q4.1), (0, .inr (.inr (.inl x0)))]) (st' := [.inl (-9), .inl q4.1]) rfl ?_
  refine J_eq (jat ok_X6_readsPerson 6 (pc := 11) (i := .if_icmp .eq 19) (n := 3) rfl rfl) (tgt := 30) (by decide) (fun c => ?_) (fun c => ?_)
  · have h := (if_pos c).symm.trans h
    refine J_seg ok_X6_readsPerson 14 1 (pc' := 31) (ls' := [(1, .inl q4.1), (0, .inr (.inr (.inl x0)))]) (st' := [.inl 0]) rfl ?_
    have h := Option.some.inj h
    subst h
    exact hR _ _ (jat ok_X6_readsPerson 15 (pc := 31) (i := .ireturn) (n := 1) rfl rfl) (Or.inl rfl)
  · have h := (if_neg c).symm.trans h
    refine J_seg ok_X6_readsPerson 7 1 (pc' := 15) (ls' := [(1, .inl q4.1), (0, .inr (.inr (.inl x0)))]) (st' := [.inr (.inr (.inl x0))]) rfl ?_
    obtain ⟨v6, h7, h⟩ := Option.bind_eq_some_iff.mp h
    refine J_getI (jat ok_X6_readsPerson 8 (pc := 15) (i := .getfield 119) (n := 3) rfl rfl) fl_RX6_119 h7 ?_
    refine J_seg ok_X6_readsPerson 9 1 (pc' := 20) (ls' := [(1, .inl q4.1), (0, .inr (.inr (.inl x0)))]) (st' := [.inl 6, .inl v6]) rfl ?_
    refine J_eq (jat ok_X6_readsPerson 10 (pc := 20) (i := .if_icmp .eq 10) (n := 3) rfl rfl) (tgt := 30) (by decide) (fun c => ?_) (fun c => ?_)
    · have h := (if_pos c).symm.trans h
      refine J_seg ok_X6_readsPerson 14 1 (pc' := 31) (ls' := [(1, .inl q4.1), (0, .inr (.inr (.inl x0)))]) (st' := [.inl 0]) rfl ?_
      have h := Option.some.inj h
      subst h
      exact hR _ _ (jat ok_X6_readsPerson 15 (pc := 31) (i := .ireturn) (n := 1) rfl rfl) (Or.inl rfl)
    · have h := (if_neg c).symm.trans h
      refine J_seg ok_X6_readsPerson 11 1 (pc' := 24) (ls' := [(1, .inl q4.1), (0, .inr (.inr (.inl x0)))]) (st' := [.inr (.inr (.inl x0))]) rfl ?_
      obtain ⟨v8, h9, h⟩ := Option.bind_eq_some_iff.mp h
      refine J_getI (jat ok_X6_readsPerson 12 (pc := 24) (i := .getfield 122) (n := 3) rfl rfl) fl_RX6_122 h9 ?_
      refine J_le0 (jat ok_X6_readsPerson 13 (pc := 27) (i := .ifCond .le 5) (n := 3) rfl rfl) (tgt := 32) (by decide) (fun c => ?_) (fun c => ?_)
      · have h := (if_pos c).symm.trans h
        refine J_seg ok_X6_readsPerson 16 2 (pc' := 34) (ls' := [(1, .inl q4.1), (0, .inr (.inr (.inl x0)))]) (st' := [.inr (.inr (.inl x0)), .inr (.inr (.inl x0))]) rfl ?_
        obtain ⟨v10, h11, h⟩ := Option.bind_eq_some_iff.mp h
        refine J_getI (jat ok_X6_readsPerson 18 (pc := 34) (i := .getfield 106) (n := 3) rfl rfl) fl_RX6_106 h11 ?_
        refine J_seg ok_X6_readsPerson 19 2 (pc' := 39) (ls' := [(1, .inl q4.1), (0, .inr (.inr (.inl x0)))]) (st' := [.inl (v10 + 1), .inr (.inr (.inl x0))]) rfl ?_
        obtain ⟨a12, h13, h⟩ := Option.bind_eq_some_iff.mp h
        refine J_put (jat ok_X6_readsPerson 21 (pc := 39) (i := .putfield 106) (n := 3) rfl rfl) (fp_RX6_106 _) (jPV_int _) h13 ?_
        refine J_seg ok_X6_readsPerson 22 3 (pc' := 46) (ls' := [(1, .inl q4.1), (0, .inr (.inr (.inl x0)))]) (st' := [.inl 9, .inl 1, .inr (.inr (.inl x0))]) rfl ?_
        by_cases c16 : qO a12 x0 6 = true
        case neg => exact absurd ((if_neg c16).symm.trans h) (by simp)
        have h := (if_pos c16).symm.trans h
        obtain ⟨q14, h15, h⟩ := Option.bind_eq_some_iff.mp h
        refine J_callV (md' := md_X6_figure) (As := [.inl 1, .inl 9]) (st := []) (cs' := (0, 0)) (st' := [.inl q14.1]) (jat ok_X6_readsPerson 25 (pc := 46) (i := .invokevirtual 125) (n := 3) rfl rfl) ml_RX6_125 yv_X6_figure c16 (c_X6_figure l g (d + 0) h15) (jRo_of (by decide)) (Nat.le_of_ble_eq_true rfl) ⟨Nat.le_of_ble_eq_true rfl, Nat.le_of_ble_eq_true rfl⟩ rfl rfl rfl ?_
        refine J_seg ok_X6_readsPerson 26 3 (pc' := 53) (ls' := [(2, .inl q14.1), (1, .inl q4.1), (0, .inr (.inr (.inl x0)))]) (st' := [.inl (-9), .inl q14.1]) rfl ?_
        refine J_ne (jat ok_X6_readsPerson 29 (pc := 53) (i := .if_icmp .ne 8) (n := 3) rfl rfl) (tgt := 61) (by decide) (fun c => ?_) (fun c => ?_)
        · have h := (if_neg c).symm.trans h
          refine J_seg ok_X6_readsPerson 32 3 (pc' := 64) (ls' := [(2, .inl q14.1), (1, .inl q4.1), (0, .inr (.inr (.inl x0)))]) (st' := [.inl 5, .inl 0, .inr (.inr (.inl x0))]) rfl ?_
          by_cases c19 : qO q14.2 x0 6 = true
          case neg => exact absurd ((if_neg c19).symm.trans h) (by simp)
          have h := (if_pos c19).symm.trans h
          obtain ⟨q17, h18, h⟩ := Option.bind_eq_some_iff.mp h
          refine J_callV (md' := md_X6_figure) (As := [.inl 0, .inl 5]) (st := []) (cs' := (0, 0)) (st' := [.inl q17.1]) (jat ok_X6_readsPerson 35 (pc := 64) (i := .invokevirtual 125) (n := 3) rfl rfl) ml_RX6_125 yv_X6_figure c19 (c_X6_figure l g (d + 0) h18) (jRo_of (by decide)) (Nat.le_of_ble_eq_true rfl) ⟨Nat.le_of_ble_eq_true rfl, Nat.le_of_ble_eq_true rfl⟩ rfl rfl rfl ?_
          refine J_sub (ls' := [(0, .inr (.inr (.inl x0))), (1, .inl q4.1), (2, .inl q14.1)]) [2, 1, 0] rfl ?_
          exact k_X6_readsPerson_j67 d _ _ h hR
        · have h := (if_pos c).symm.trans h
          refine J_seg ok_X6_readsPerson 30 2 (pc' := 67) (ls' := [(2, .inl q14.1), (1, .inl q4.1), (0, .inr (.inr (.inl x0)))]) (st' := [.inl (-9)]) rfl ?_
          refine J_sub (ls' := [(0, .inr (.inr (.inl x0))), (1, .inl q4.1), (2, .inl q14.1)]) [2, 1, 0] rfl ?_
          exact k_X6_readsPerson_j67 d _ _ h hR
      · have h := (if_neg c).symm.trans h
        refine J_seg ok_X6_readsPerson 14 1 (pc' := 31) (ls' := [(1, .inl q4.1), (0, .inr (.inr (.inl x0)))]) (st' := [.inl 0]) rfl ?_
        have h := Option.some.inj h
        subst h
        exact hR _ _ (jat ok_X6_readsPerson 15 (pc := 31) (i := .ireturn) (n := 1) rfl rfl) (Or.inl rfl)
theorem c_X6_readsPerson (l : Launch) (g : GX) (d : Nat) {x0 : Option Nat} {ah : AH} {q : Int32 × AH} (h : f_X6_readsPerson x0 ah = some q) : jM l g (d + 2) md_X6_readsPerson [.inr (.inr (.inl x0))] ah (some (.inl q.1)) q.2 :=
  jM_of (by decide) (Nat.le_of_ble_eq_true rfl) (k_X6_readsPerson d ah q h (fun pc ls hd c => J_reti hd rfl (jPV_z c) rfl (Nat.le_refl _) rfl rfl))
def f_X6_readsLove_j87 (x0 : Option Nat) (ah : AH) : Option (Int32 × AH) :=
  (gI ah x0 6 17).bind fun v19 => (sF ah x0 6 17 (.inl (v19 - 1))).bind fun a21 => some (0, a21)
set_option maxRecDepth 100000 in
set_option maxHeartbeats 4000000 in
theorem k_X6_readsLove_j87 {l : Launch} {g : GX} (d : Nat) {Q : jQ} {x0 : Option Nat} (ah : AH) (out : Int32 × AH) (h : f_X6_readsLove_j87 x0 ah = some out) (hR : jRetZ l g md_X6_readsLove (jRm (d + 2) md_X6_readsLove) Q (0, 0) out.1 out.2) : J l g md_X6_readsLove (jRm (d + 2) md_X6_readsLove) Q 87 [(0, .inr (.inr (.inl x0)))] [] ah (0, 0) := by
  unfold f_X6_readsLove_j87 at h
  refine J_seg ok_X6_readsLove 52 2 (pc' := 89) (ls' := [(0, .inr (.inr (.inl x0)))]) (st' := [.inr (.inr (.inl x0)), .inr (.inr (.inl x0))]) rfl ?_
  obtain ⟨v19, h20, h⟩ := Option.bind_eq_some_iff.mp h
  refine J_getI (jat ok_X6_readsLove 54 (pc := 89) (i := .getfield 106) (n := 3) rfl rfl) fl_RX6_106 h20 ?_
  refine J_seg ok_X6_readsLove 55 2 (pc' := 94) (ls' := [(0, .inr (.inr (.inl x0)))]) (st' := [.inl (v19 - 1), .inr (.inr (.inl x0))]) rfl ?_
  obtain ⟨a21, h22, h⟩ := Option.bind_eq_some_iff.mp h
  refine J_put (jat ok_X6_readsLove 57 (pc := 94) (i := .putfield 106) (n := 3) rfl rfl) (fp_RX6_106 _) (jPV_int _) h22 ?_
  refine J_seg ok_X6_readsLove 58 1 (pc' := 98) (ls' := [(0, .inr (.inr (.inl x0)))]) (st' := [.inl 0]) rfl ?_
  have h := Option.some.inj h
  subst h
  exact hR _ _ (jat ok_X6_readsLove 59 (pc := 98) (i := .ireturn) (n := 1) rfl rfl) (Or.inl rfl)
def f_X6_readsLove (x0 : Option Nat) (ah : AH) : Option (Int32 × AH) :=
  (gI ah x0 6 20).bind fun v1 => if v1 < 2 then (some (0, ah)) else ((gI ah x0 6 22).bind fun v3 => if v3 = 8 then (some (0, ah)) else ((gI ah x0 6 17).bind fun v5 => (sF ah x0 6 17 (.inl (v5 + 1))).bind fun a7 => (gI a7 x0 6 20).bind fun v9 => if qO a7 x0 6 = true then ((f_X6_figure x0 0 (v9 - 1) a7).bind fun q11 => if q11.1 = (-9) then (some (0, q11.2)) else ((gI q11.2 x0 6 20).bind fun v14 => if qO q11.2 x0 6 = true then ((f_X6_figure x0 0 (v14 - 1) q11.2).bind fun q16 => if q16.1 = (-9) then (some (0, q16.2)) else (if q11.1 = q16.1 then (f_X6_readsLove_j87 x0 q16.2) else ((gR q16.2 x0 6 21).bind fun v23 => (gA q16.2 v23 q11.1).bind fun v25 => (f_X6_has v25 q16.1 q16.2).bind fun q27 => if q27.1 = 0 then ((gR q27.2 x0 6 21).bind fun v29 => (gA q27.2 v29 q11.1).bind fun v31 => (sA q27.2 v29 q11.1 (v31 ||| (1 <<< (q16.1 &&& 31)))).bind fun a33 => (gR a33 x0 6 21).bind fun v35 => (gA a33 v35 q16.1).bind fun v37 => (sA a33 v35 q16.1 (v37 ||| (1 <<< (q11.1 &&& 31)))).bind fun a39 => (gI a39 x0 6 22).bind fun v41 => (sF a39 x0 6 22 (.inl (v41 + 1))).bind fun a43 => some (1, a43)) else (f_X6_readsLove_j87 x0 q27.2)))) else none)) else none))
set_option maxRecDepth 100000 in
set_option maxHeartbeats 4000000 in
theorem k_X6_readsLove {l : Launch} {g : GX} (d : Nat) {Q : jQ} {x0 : Option Nat} (ah : AH) (out : Int32 × AH) (h : f_X6_readsLove x0 ah = some out) (hR : jRetZ l g md_X6_readsLove (jRm (d + 2) md_X6_readsLove) Q (0, 0) out.1 out.2) : J l g md_X6_readsLove (jRm (d + 2) md_X6_readsLove) Q 0 [(0, .inr (.inr (.inl x0)))] [] ah (0, 0) := by
  unfold f_X6_readsLove at h
  refine J_seg ok_X6_readsLove 0 1 (pc' := 1) (ls' := [(0, .inr (.inr (.inl x0)))]) (st' := [.inr (.inr (.inl x0))]) rfl ?_
  obtain ⟨v1, h2, h⟩ := Option.bind_eq_some_iff.mp h
  refine J_getI (jat ok_X6_readsLove 1 (pc := 1) (i := .getfield 119) (n := 3) rfl rfl) fl_RX6_119 h2 ?_
  refine J_seg ok_X6_readsLove 2 1 (pc' := 5) (ls' := [(0, .inr (.inr (.inl x0)))]) (st' := [.inl 2, .inl v1]) rfl ?_
  refine J_lt (jat ok_X6_readsLove 3 (pc := 5) (i := .if_icmp .lt 12) (n := 3) rfl rfl) (tgt := 17) (by decide) (fun c => ?_) (fun c => ?_)
  · have h := (if_pos c).symm.trans h
    refine J_seg ok_X6_readsLove 8 1 (pc' := 18) (ls' := [(0, .inr (.inr (.inl x0)))]) (st' := [.inl 0]) rfl ?_
    have h := Option.some.inj h
    subst h
    exact hR _ _ (jat ok_X6_readsLove 9 (pc := 18) (i := .ireturn) (n := 1) rfl rfl) (Or.inl rfl)
  · have h := (if_neg c).symm.trans h
    refine J_seg ok_X6_readsLove 4 1 (pc' := 9) (ls' := [(0, .inr (.inr (.inl x0)))]) (st' := [.inr (.inr (.inl x0))]) rfl ?_
    obtain ⟨v3, h4, h⟩ := Option.bind_eq_some_iff.mp h
    refine J_getI (jat ok_X6_readsLove 5 (pc := 9) (i := .getfield 122) (n := 3) rfl rfl) fl_RX6_122 h4 ?_
    refine J_seg ok_X6_readsLove 6 1 (pc' := 14) (ls' := [(0, .inr (.inr (.inl x0)))]) (st' := [.inl 8, .inl v3]) rfl ?_
    refine J_ne (jat ok_X6_readsLove 7 (pc := 14) (i := .if_icmp .ne 5) (n := 3) rfl rfl) (tgt := 19) (by decide) (fun c => ?_) (fun c => ?_)
    · have h := (if_neg c).symm.trans h
      refine J_seg ok_X6_readsLove 10 2 (pc' := 21) (ls' := [(0, .inr (.inr (.inl x0)))]) (st' := [.inr (.inr (.inl x0)), .inr (.inr (.inl x0))]) rfl ?_
      obtain ⟨v5, h6, h⟩ := Option.bind_eq_some_iff.mp h
      refine J_getI (jat ok_X6_readsLove 12 (pc := 21) (i := .getfield 106) (n := 3) rfl rfl) fl_RX6_106 h6 ?_
      refine J_seg ok_X6_readsLove 13 2 (pc' := 26) (ls' := [(0, .inr (.inr (.inl x0)))]) (st' := [.inl (v5 + 1), .inr (.inr (.inl x0))]) rfl ?_
      obtain ⟨a7, h8, h⟩ := Option.bind_eq_some_iff.mp h
      refine J_put (jat ok_X6_readsLove 15 (pc := 26) (i := .putfield 106) (n := 3) rfl rfl) (fp_RX6_106 _) (jPV_int _) h8 ?_
      refine J_seg ok_X6_readsLove 16 3 (pc' := 32) (ls' := [(0, .inr (.inr (.inl x0)))]) (st' := [.inr (.inr (.inl x0)), .inl 0, .inr (.inr (.inl x0))]) rfl ?_
      obtain ⟨v9, h10, h⟩ := Option.bind_eq_some_iff.mp h
      refine J_getI (jat ok_X6_readsLove 19 (pc := 32) (i := .getfield 119) (n := 3) rfl rfl) fl_RX6_119 h10 ?_
      refine J_seg ok_X6_readsLove 20 2 (pc' := 37) (ls' := [(0, .inr (.inr (.inl x0)))]) (st' := [.inl (v9 - 1), .inl 0, .inr (.inr (.inl x0))]) rfl ?_
      by_cases c13 : qO a7 x0 6 = true
      case neg => exact absurd ((if_neg c13).symm.trans h) (by simp)
      have h := (if_pos c13).symm.trans h
      obtain ⟨q11, h12, h⟩ := Option.bind_eq_some_iff.mp h
      refine J_callV (md' := md_X6_figure) (As := [.inl 0, .inl (v9 - 1)]) (st := []) (cs' := (0, 0)) (st' := [.inl q11.1]) (jat ok_X6_readsLove 22 (pc := 37) (i := .invokevirtual 125) (n := 3) rfl rfl) ml_RX6_125 yv_X6_figure c13 (c_X6_figure l g (d + 0) h12) (jRo_of (by decide)) (Nat.le_of_ble_eq_true rfl) ⟨Nat.le_of_ble_eq_true rfl, Nat.le_of_ble_eq_true rfl⟩ rfl rfl rfl ?_
      refine J_seg ok_X6_readsLove 23 3 (pc' := 44) (ls' := [(1, .inl q11.1), (0, .inr (.inr (.inl x0)))]) (st' := [.inl (-9), .inl q11.1]) rfl ?_
      refine J_ne (jat ok_X6_readsLove 26 (pc := 44) (i := .if_icmp .ne 5) (n := 3) rfl rfl) (tgt := 49) (by decide) (fun c => ?_) (fun c => ?_)
      · have h := (if_neg c).symm.trans h
        refine J_seg ok_X6_readsLove 29 3 (pc' := 52) (ls' := [(1, .inl q11.1), (0, .inr (.inr (.inl x0)))]) (st' := [.inr (.inr (.inl x0)), .inl 0, .inr (.inr (.inl x0))]) rfl ?_
        obtain ⟨v14, h15, h⟩ := Option.bind_eq_some_iff.mp h
        refine J_getI (jat ok_X6_readsLove 32 (pc := 52) (i := .getfield 119) (n := 3) rfl rfl) fl_RX6_119 h15 ?_
        refine J_seg ok_X6_readsLove 33 2 (pc' := 57) (ls' := [(1, .inl q11.1), (0, .inr (.inr (.inl x0)))]) (st' := [.inl (v14 - 1), .inl 0, .inr (.inr (.inl x0))]) rfl ?_
        by_cases c18 : qO q11.2 x0 6 = true
        case neg => exact absurd ((if_neg c18).symm.trans h) (by simp)
        have h := (if_pos c18).symm.trans h
        obtain ⟨q16, h17, h⟩ := Option.bind_eq_some_iff.mp h
        refine J_callV (md' := md_X6_figure) (As := [.inl 0, .inl (v14 - 1)]) (st := []) (cs' := (0, 0)) (st' := [.inl q16.1]) (jat ok_X6_readsLove 35 (pc := 57) (i := .invokevirtual 125) (n := 3) rfl rfl) ml_RX6_125 yv_X6_figure c18 (c_X6_figure l g (d + 0) h17) (jRo_of (by decide)) (Nat.le_of_ble_eq_true rfl) ⟨Nat.le_of_ble_eq_true rfl, Nat.le_of_ble_eq_true rfl⟩ rfl rfl rfl ?_
        refine J_seg ok_X6_readsLove 36 3 (pc' := 64) (ls' := [(2, .inl q16.1), (1, .inl q11.1), (0, .inr (.inr (.inl x0)))]) (st' := [.inl (-9), .inl q16.1]) rfl ?_
        refine J_ne (jat ok_X6_readsLove 39 (pc := 64) (i := .if_icmp .ne 5) (n := 3) rfl rfl) (tgt := 69) (by decide) (fun c => ?_) (fun c => ?_)
        · have h := (if_neg c).symm.trans h
          refine J_seg ok_X6_readsLove 42 2 (pc' := 71) (ls' := [(2, .inl q16.1), (1, .inl q11.1), (0, .inr (.inr (.inl x0)))]) (st' := [.inl q16.1, .inl q11.1]) rfl ?_
          refine J_eq (jat ok_X6_readsLove 44 (pc := 71) (i := .if_icmp .eq 16) (n := 3) rfl rfl) (tgt := 87) (by decide) (fun c => ?_) (fun c => ?_)
          · have h := (if_pos c).symm.trans h
            refine J_sub (ls' := [(0, .inr (.inr (.inl x0)))]) [2] rfl ?_
            exact k_X6_readsLove_j87 d _ _ h hR
          · have h := (if_neg c).symm.trans h
            refine J_seg ok_X6_readsLove 45 1 (pc' := 75) (ls' := [(2, .inl q16.1), (1, .inl q11.1), (0, .inr (.inr (.inl x0)))]) (st' := [.inr (.inr (.inl x0))]) rfl ?_
            obtain ⟨v23, h24, h⟩ := Option.bind_eq_some_iff.mp h
            refine J_getR (jat ok_X6_readsLove 46 (pc := 75) (i := .getfield 47) (n := 3) rfl rfl) fl_RX6_47 h24 ?_
            refine J_seg ok_X6_readsLove 47 1 (pc' := 79) (ls' := [(2, .inl q16.1), (1, .inl q11.1), (0, .inr (.inr (.inl x0)))]) (st' := [.inl q11.1, .inr (.inr (.inl v23))]) rfl ?_
            obtain ⟨v25, h26, h⟩ := Option.bind_eq_some_iff.mp h
            refine J_iald (jat ok_X6_readsLove 48 (pc := 79) (i := .iaload) (n := 1) rfl rfl) h26 ?_
            refine J_seg ok_X6_readsLove 49 1 (pc' := 81) (ls' := [(2, .inl q16.1), (1, .inl q11.1), (0, .inr (.inr (.inl x0)))]) (st' := [.inl q16.1, .inl v25]) rfl ?_
            obtain ⟨q27, h28, h⟩ := Option.bind_eq_some_iff.mp h
            refine J_callS (md' := md_X6_has) (As := [.inl v25, .inl q16.1]) (st := []) (cs' := (0, 0)) (st' := [.inl q27.1]) (jat ok_X6_readsLove 50 (pc := 81) (i := .invokestatic 128) (n := 3) rfl rfl) (Or.inl ml_RX6_128) ys_X6_has (c_X6_has l g (d + 1) h28) (jRo_of (by decide)) (Nat.le_of_ble_eq_true rfl) ⟨Nat.le_of_ble_eq_true rfl, Nat.le_of_ble_eq_true rfl⟩ rfl rfl rfl ?_
            refine J_eq0 (jat ok_X6_readsLove 51 (pc := 84) (i := .ifCond .eq 15) (n := 3) rfl rfl) (tgt := 99) (by decide) (fun c => ?_) (fun c => ?_)
            · have h := (if_pos c).symm.trans h
              refine J_seg ok_X6_readsLove 60 1 (pc' := 100) (ls' := [(2, .inl q16.1), (1, .inl q11.1), (0, .inr (.inr (.inl x0)))]) (st' := [.inr (.inr (.inl x0))]) rfl ?_
              obtain ⟨v29, h30, h⟩ := Option.bind_eq_some_iff.mp h
              refine J_getR (jat ok_X6_readsLove 61 (pc := 100) (i := .getfield 47) (n := 3) rfl rfl) fl_RX6_47 h30 ?_
              refine J_seg ok_X6_readsLove 62 2 (pc' := 105) (ls' := [(2, .inl q16.1), (1, .inl q11.1), (0, .inr (.inr (.inl x0)))]) (st' := [.inl q11.1, .inr (.inr (.inl v29)), .inl q11.1, .inr (.inr (.inl v29))]) rfl ?_
              obtain ⟨v31, h32, h⟩ := Option.bind_eq_some_iff.mp h
              refine J_iald (jat ok_X6_readsLove 64 (pc := 105) (i := .iaload) (n := 1) rfl rfl) h32 ?_
              refine J_seg ok_X6_readsLove 65 4 (pc' := 110) (ls' := [(2, .inl q16.1), (1, .inl q11.1), (0, .inr (.inr (.inl x0)))]) (st' := [.inl (v31 ||| (1 <<< (q16.1 &&& 31))), .inl q11.1, .inr (.inr (.inl v29))]) rfl ?_
              obtain ⟨a33, h34, h⟩ := Option.bind_eq_some_iff.mp h
              refine J_iast (jat ok_X6_readsLove 69 (pc := 110) (i := .iastore) (n := 1) rfl rfl) h34 ?_
              refine J_seg ok_X6_readsLove 70 1 (pc' := 112) (ls' := [(2, .inl q16.1), (1, .inl q11.1), (0, .inr (.inr (.inl x0)))]) (st' := [.inr (.inr (.inl x0))]) rfl ?_
              obtain ⟨v35, h36, h⟩ := Option.bind_eq_some_iff.mp h
              refine J_getR (jat ok_X6_readsLove 71 (pc := 112) (i := .getfield 47) (n := 3) rfl rfl) fl_RX6_47 h36 ?_
              refine J_seg ok_X6_readsLove 72 2 (pc' := 117) (ls' := [(2, .inl q16.1), (1, .inl q11.1), (0, .inr (.inr (.inl x0)))]) (st' := [.inl q16.1, .inr (.inr (.inl v35)), .inl q16.1, .inr (.inr (.inl v35))]) rfl ?_
              obtain ⟨v37, h38, h⟩ := Option.bind_eq_some_iff.mp h
              refine J_iald (jat ok_X6_readsLove 74 (pc := 117) (i := .iaload) (n := 1) rfl rfl) h38 ?_
              refine J_seg ok_X6_readsLove 75 4 (pc' := 122) (ls' := [(2, .inl q16.1), (1, .inl q11.1), (0, .inr (.inr (.inl x0)))]) (st' := [.inl (v37 ||| (1 <<< (q11.1 &&& 31))), .inl q16.1, .inr (.inr (.inl v35))]) rfl ?_
              obtain ⟨a39, h40, h⟩ := Option.bind_eq_some_iff.mp h
              refine J_iast (jat ok_X6_readsLove 79 (pc := 122) (i := .iastore) (n := 1) rfl rfl) h40 ?_
              refine J_seg ok_X6_readsLove 80 2 (pc' := 125) (ls' := [(2, .inl q16.1), (1, .inl q11.1), (0, .inr (.inr (.inl x0)))]) (st' := [.inr (.inr (.inl x0)), .inr (.inr (.inl x0))]) rfl ?_
              obtain ⟨v41, h42, h⟩ := Option.bind_eq_some_iff.mp h
              refine J_getI (jat ok_X6_readsLove 82 (pc := 125) (i := .getfield 122) (n := 3) rfl rfl) fl_RX6_122 h42 ?_
              refine J_seg ok_X6_readsLove 83 2 (pc' := 130) (ls' := [(2, .inl q16.1), (1, .inl q11.1), (0, .inr (.inr (.inl x0)))]) (st' := [.inl (v41 + 1), .inr (.inr (.inl x0))]) rfl ?_
              obtain ⟨a43, h44, h⟩ := Option.bind_eq_some_iff.mp h
              refine J_put (jat ok_X6_readsLove 85 (pc := 130) (i := .putfield 122) (n := 3) rfl rfl) (fp_RX6_122 _) (jPV_int _) h44 ?_
              refine J_seg ok_X6_readsLove 86 1 (pc' := 134) (ls' := [(2, .inl q16.1), (1, .inl q11.1), (0, .inr (.inr (.inl x0)))]) (st' := [.inl 1]) rfl ?_
              have h := Option.some.inj h
              subst h
              exact hR _ _ (jat ok_X6_readsLove 87 (pc := 134) (i := .ireturn) (n := 1) rfl rfl) (Or.inr rfl)
            · have h := (if_neg c).symm.trans h
              refine J_sub (ls' := [(0, .inr (.inr (.inl x0)))]) [2] rfl ?_
              exact k_X6_readsLove_j87 d _ _ h hR
        · have h := (if_pos c).symm.trans h
          refine J_seg ok_X6_readsLove 40 1 (pc' := 68) (ls' := [(2, .inl q16.1), (1, .inl q11.1), (0, .inr (.inr (.inl x0)))]) (st' := [.inl 0]) rfl ?_
          have h := Option.some.inj h
          subst h
          exact hR _ _ (jat ok_X6_readsLove 41 (pc := 68) (i := .ireturn) (n := 1) rfl rfl) (Or.inl rfl)
      · have h := (if_pos c).symm.trans h
        refine J_seg ok_X6_readsLove 27 1 (pc' := 48) (ls' := [(1, .inl q11.1), (0, .inr (.inr (.inl x0)))]) (st' := [.inl 0]) rfl ?_
        have h := Option.some.inj h
        subst h
        exact hR _ _ (jat ok_X6_readsLove 28 (pc := 48) (i := .ireturn) (n := 1) rfl rfl) (Or.inl rfl)
    · have h := (if_pos c).symm.trans h
      refine J_seg ok_X6_readsLove 8 1 (pc' := 18) (ls' := [(0, .inr (.inr (.inl x0)))]) (st' := [.inl 0]) rfl ?_
      have h := Option.some.inj h
      subst h
      exact hR _ _ (jat ok_X6_readsLove 9 (pc := 18) (i := .ireturn) (n := 1) rfl rfl) (Or.inl rfl)
theorem c_X6_readsLove (l : Launch) (g : GX) (d : Nat) {x0 : Option Nat} {ah : AH} {q : Int32 × AH} (h : f_X6_readsLove x0 ah = some q) : jM l g (d + 2) md_X6_readsLove [.inr (.inr (.inl x0))] ah (some (.inl q.1)) q.2 :=
  jM_of (by decide) (Nat.le_of_ble_eq_true rfl) (k_X6_readsLove d ah q h (fun pc ls hd c => J_reti hd rfl (jPV_z c) rfl (Nat.le_refl _) rfl rfl))
def f_X6_areVictims_b4_j66 (k0 : Option Nat) (x1 : Int32) (x2 : Int32) (x3 : Int32) (ah : AH) : Option ((Int32 × AH) ⊕ (((Unit) × AH) ⊕ ((Int32 × Int32) × AH))) :=
  if x3 = (-9) then (some (.inr (.inr ((x1 ||| 0, x2 + 1), ah)))) else (some (.inr (.inr ((x1 ||| (1 <<< (x3 &&& 31)), x2 + 1), ah))))
set_option maxRecDepth 100000 in
set_option maxHeartbeats 4000000 in
theorem k_X6_areVictims_b4_j66 {l : Launch} {g : GX} (d : Nat) {Q : jQ} {k0 : Option Nat} {x1 : Int32} {x2 : Int32} {x3 : Int32} (ah : AH) (out : (Int32 × AH) ⊕ (((Unit) × AH) ⊕ ((Int32 × Int32) × AH))) (h : f_X6_areVictims_b4_j66 k0 x1 x2 x3 ah = some out) (hR : ∀ q, out = .inl q → jRetZ l g md_X6_areVictims (jRm (d + 1) md_X6_areVictims) Q (0, 0) q.1 q.2) (hX : ∀ q, out = .inr (.inl q) → J l g md_X6_areVictims (jRm (d + 1) md_X6_areVictims) Q 88 [] [] q.2 (0, 0)) (hN : ∀ q, out = .inr (.inr q) → J l g md_X6_areVictims (jRm (d + 1) md_X6_areVictims) Q 4 [(0, .inr (.inr (.inl k0))), (1, .inl q.1.1), (2, .inl q.1.2)] [] q.2 (0, 0)) : J l g md_X6_areVictims (jRm (d + 1) md_X6_areVictims) Q 66 [(0, .inr (.inr (.inl k0))), (1, .inl x1), (2, .inl x2), (3, .inl x3)] [] ah (0, 0) := by
  unfold f_X6_areVictims_b4_j66 at h
  refine J_seg ok_X6_areVictims 43 3 (pc' := 70) (ls' := [(0, .inr (.inr (.inl k0))), (1, .inl x1), (2, .inl x2), (3, .inl x3)]) (st' := [.inl (-9), .inl x3, .inl x1]) rfl ?_
  refine J_ne (jat ok_X6_areVictims 46 (pc := 70) (i := .if_icmp .ne 7) (n := 3) rfl rfl) (tgt := 77) (by decide) (fun c => ?_) (fun c => ?_)
  · have h := (if_neg c).symm.trans h
    refine J_seg ok_X6_areVictims 49 7 (pc' := 4) (ls' := [(2, .inl (x2 + 1)), (1, .inl (x1 ||| (1 <<< (x3 &&& 31)))), (0, .inr (.inr (.inl k0))), (3, .inl x3)]) (st' := []) rfl ?_
    exact J_sub (ls' := [(0, .inr (.inr (.inl k0))), (1, .inl (x1 ||| (1 <<< (x3 &&& 31)))), (2, .inl (x2 + 1))]) [2, 1, 0] rfl (hN ((x1 ||| (1 <<< (x3 &&& 31)), x2 + 1), ah) (Option.some.inj h).symm)
  · have h := (if_pos c).symm.trans h
    refine J_seg ok_X6_areVictims 47 2 (pc' := 80) (ls' := [(0, .inr (.inr (.inl k0))), (1, .inl x1), (2, .inl x2), (3, .inl x3)]) (st' := [.inl 0, .inl x1]) rfl ?_
    refine J_seg ok_X6_areVictims 52 4 (pc' := 4) (ls' := [(2, .inl (x2 + 1)), (1, .inl (x1 ||| 0)), (0, .inr (.inr (.inl k0))), (3, .inl x3)]) (st' := []) rfl ?_
    exact J_sub (ls' := [(0, .inr (.inr (.inl k0))), (1, .inl (x1 ||| 0)), (2, .inl (x2 + 1))]) [2, 1, 0] rfl (hN ((x1 ||| 0, x2 + 1), ah) (Option.some.inj h).symm)
def f_X6_areVictims_b4_j50 (k0 : Option Nat) (x2 : Int32) (ah : AH) : Option ((Int32 × AH) ⊕ (((Unit) × AH) ⊕ ((Int32 × Int32) × AH))) :=
  (gR ah k0 6 19).bind fun v7 => (gA ah v7 ((5 * x2) + 4)).bind fun v9 => (sF ah k0 6 17 (.inl v9)).bind fun a11 => some (.inl (0, a11))
set_option maxRecDepth 100000 in
set_option maxHeartbeats 4000000 in
theorem k_X6_areVictims_b4_j50 {l : Launch} {g : GX} (d : Nat) {Q : jQ} {k0 : Option Nat} {x2 : Int32} (ah : AH) (out : (Int32 × AH) ⊕ (((Unit) × AH) ⊕ ((Int32 × Int32) × AH))) (h : f_X6_areVictims_b4_j50 k0 x2 ah = some out) (hR : ∀ q, out = .inl q → jRetZ l g md_X6_areVictims (jRm (d + 1) md_X6_areVictims) Q (0, 0) q.1 q.2) (hX : ∀ q, out = .inr (.inl q) → J l g md_X6_areVictims (jRm (d + 1) md_X6_areVictims) Q 88 [] [] q.2 (0, 0)) (hN : ∀ q, out = .inr (.inr q) → J l g md_X6_areVictims (jRm (d + 1) md_X6_areVictims) Q 4 [(0, .inr (.inr (.inl k0))), (1, .inl q.1.1), (2, .inl q.1.2)] [] q.2 (0, 0)) : J l g md_X6_areVictims (jRm (d + 1) md_X6_areVictims) Q 50 [(0, .inr (.inr (.inl k0))), (2, .inl x2)] [] ah (0, 0) := by
  unfold f_X6_areVictims_b4_j50 at h
  refine J_seg ok_X6_areVictims 31 2 (pc' := 52) (ls' := [(0, .inr (.inr (.inl k0))), (2, .inl x2)]) (st' := [.inr (.inr (.inl k0)), .inr (.inr (.inl k0))]) rfl ?_
  obtain ⟨v7, h8, h⟩ := Option.bind_eq_some_iff.mp h
  refine J_getR (jat ok_X6_areVictims 33 (pc := 52) (i := .getfield 44) (n := 3) rfl rfl) fl_RX6_44 h8 ?_
  refine J_seg ok_X6_areVictims 34 5 (pc' := 60) (ls' := [(0, .inr (.inr (.inl k0))), (2, .inl x2)]) (st' := [.inl ((5 * x2) + 4), .inr (.inr (.inl v7)), .inr (.inr (.inl k0))]) rfl ?_
  obtain ⟨v9, h10, h⟩ := Option.bind_eq_some_iff.mp h
  refine J_iald (jat ok_X6_areVictims 39 (pc := 60) (i := .iaload) (n := 1) rfl rfl) h10 ?_
  obtain ⟨a11, h12, h⟩ := Option.bind_eq_some_iff.mp h
  refine J_put (jat ok_X6_areVictims 40 (pc := 61) (i := .putfield 106) (n := 3) rfl rfl) (fp_RX6_106 _) (jPV_int _) h12 ?_
  refine J_seg ok_X6_areVictims 41 1 (pc' := 65) (ls' := [(0, .inr (.inr (.inl k0))), (2, .inl x2)]) (st' := [.inl 0]) rfl ?_
  exact hR _ (Option.some.inj h).symm _ _ (jat ok_X6_areVictims 42 (pc := 65) (i := .ireturn) (n := 1) rfl rfl) (Or.inl rfl)
def f_X6_areVictims_b4 (k0 : Option Nat) (s4 : Int32 × Int32) (ah : AH) : Option ((Int32 × AH) ⊕ (((Unit) × AH) ⊕ ((Int32 × Int32) × AH))) :=
  (gI ah k0 6 20).bind fun v1 => if v1 ≤ s4.2 then (some (.inr (.inl ((), ah)))) else ((gR ah k0 6 19).bind fun v3 => (gA ah v3 ((5 * s4.2) + 3)).bind fun v5 => if v5 = (-9) then (f_X6_areVictims_b4_j66 k0 s4.1 s4.2 v5 ah) else (if v5 = s4.2 then (f_X6_areVictims_b4_j50 k0 s4.2 ah) else ((gI ah k0 6 20).bind fun v13 => if v13 ≤ v5 then (f_X6_areVictims_b4_j50 k0 s4.2 ah) else ((f_X6_has s4.1 v5 ah).bind fun q15 => if q15.1 = 0 then (f_X6_areVictims_b4_j66 k0 s4.1 s4.2 v5 q15.2) else (f_X6_areVictims_b4_j50 k0 s4.2 q15.2)))))
set_option maxRecDepth 100000 in
set_option maxHeartbeats 4000000 in
theorem k_X6_areVictims_b4 {l : Launch} {g : GX} (d : Nat) {Q : jQ} {k0 : Option Nat} (s4 : Int32 × Int32) (ah : AH) (out : (Int32 × AH) ⊕ (((Unit) × AH) ⊕ ((Int32 × Int32) × AH))) (h : f_X6_areVictims_b4 k0 s4 ah = some out) (hR : ∀ q, out = .inl q → jRetZ l g md_X6_areVictims (jRm (d + 1) md_X6_areVictims) Q (0, 0) q.1 q.2) (hX : ∀ q, out = .inr (.inl q) → J l g md_X6_areVictims (jRm (d + 1) md_X6_areVictims) Q 88 [] [] q.2 (0, 0)) (hN : ∀ q, out = .inr (.inr q) → J l g md_X6_areVictims (jRm (d + 1) md_X6_areVictims) Q 4 [(0, .inr (.inr (.inl k0))), (1, .inl q.1.1), (2, .inl q.1.2)] [] q.2 (0, 0)) : J l g md_X6_areVictims (jRm (d + 1) md_X6_areVictims) Q 4 [(0, .inr (.inr (.inl k0))), (1, .inl s4.1), (2, .inl s4.2)] [] ah (0, 0) := by
  unfold f_X6_areVictims_b4 at h
  refine J_seg ok_X6_areVictims 4 2 (pc' := 6) (ls' := [(0, .inr (.inr (.inl k0))), (1, .inl s4.1), (2, .inl s4.2)]) (st' := [.inr (.inr (.inl k0)), .inl s4.2]) rfl ?_
  obtain ⟨v1, h2, h⟩ := Option.bind_eq_some_iff.mp h
  refine J_getI (jat ok_X6_areVictims 6 (pc := 6) (i := .getfield 119) (n := 3) rfl rfl) fl_RX6_119 h2 ?_
  refine J_ge (jat ok_X6_areVictims 7 (pc := 9) (i := .if_icmp .ge 79) (n := 3) rfl rfl) (tgt := 88) (by decide) (fun c => ?_) (fun c => ?_)
  · have h := (if_pos c).symm.trans h
    exact J_sub (ls' := []) [] rfl (hX ((), ah) (Option.some.inj h).symm)
  · have h := (if_neg c).symm.trans h
    refine J_seg ok_X6_areVictims 8 1 (pc' := 13) (ls' := [(0, .inr (.inr (.inl k0))), (1, .inl s4.1), (2, .inl s4.2)]) (st' := [.inr (.inr (.inl k0))]) rfl ?_
    obtain ⟨v3, h4, h⟩ := Option.bind_eq_some_iff.mp h
    refine J_getR (jat ok_X6_areVictims 9 (pc := 13) (i := .getfield 44) (n := 3) rfl rfl) fl_RX6_44 h4 ?_
    refine J_seg ok_X6_areVictims 10 5 (pc' := 21) (ls' := [(0, .inr (.inr (.inl k0))), (1, .inl s4.1), (2, .inl s4.2)]) (st' := [.inl ((5 * s4.2) + 3), .inr (.inr (.inl v3))]) rfl ?_
    obtain ⟨v5, h6, h⟩ := Option.bind_eq_some_iff.mp h
    refine J_iald (jat ok_X6_areVictims 15 (pc := 21) (i := .iaload) (n := 1) rfl rfl) h6 ?_
    refine J_seg ok_X6_areVictims 16 3 (pc' := 26) (ls' := [(3, .inl v5), (0, .inr (.inr (.inl k0))), (1, .inl s4.1), (2, .inl s4.2)]) (st' := [.inl (-9), .inl v5]) rfl ?_
    refine J_eq (jat ok_X6_areVictims 19 (pc := 26) (i := .if_icmp .eq 40) (n := 3) rfl rfl) (tgt := 66) (by decide) (fun c => ?_) (fun c => ?_)
    · have h := (if_pos c).symm.trans h
      refine J_sub (ls' := [(0, .inr (.inr (.inl k0))), (1, .inl s4.1), (2, .inl s4.2), (3, .inl v5)]) [1, 2, 3, 0] rfl ?_
      exact k_X6_areVictims_b4_j66 d _ _ h hR hX hN
    · have h := (if_neg c).symm.trans h
      refine J_seg ok_X6_areVictims 20 2 (pc' := 31) (ls' := [(3, .inl v5), (0, .inr (.inr (.inl k0))), (1, .inl s4.1), (2, .inl s4.2)]) (st' := [.inl s4.2, .inl v5]) rfl ?_
      refine J_eq (jat ok_X6_areVictims 22 (pc := 31) (i := .if_icmp .eq 19) (n := 3) rfl rfl) (tgt := 50) (by decide) (fun c => ?_) (fun c => ?_)
      · have h := (if_pos c).symm.trans h
        refine J_sub (ls' := [(0, .inr (.inr (.inl k0))), (2, .inl s4.2)]) [1, 3] rfl ?_
        exact k_X6_areVictims_b4_j50 d _ _ h hR hX hN
      · have h := (if_neg c).symm.trans h
        refine J_seg ok_X6_areVictims 23 2 (pc' := 36) (ls' := [(3, .inl v5), (0, .inr (.inr (.inl k0))), (1, .inl s4.1), (2, .inl s4.2)]) (st' := [.inr (.inr (.inl k0)), .inl v5]) rfl ?_
        obtain ⟨v13, h14, h⟩ := Option.bind_eq_some_iff.mp h
        refine J_getI (jat ok_X6_areVictims 25 (pc := 36) (i := .getfield 119) (n := 3) rfl rfl) fl_RX6_119 h14 ?_
        refine J_ge (jat ok_X6_areVictims 26 (pc := 39) (i := .if_icmp .ge 11) (n := 3) rfl rfl) (tgt := 50) (by decide) (fun c => ?_) (fun c => ?_)
        · have h := (if_pos c).symm.trans h
          refine J_sub (ls' := [(0, .inr (.inr (.inl k0))), (2, .inl s4.2)]) [1, 3] rfl ?_
          exact k_X6_areVictims_b4_j50 d _ _ h hR hX hN
        · have h := (if_neg c).symm.trans h
          refine J_seg ok_X6_areVictims 27 2 (pc' := 44) (ls' := [(3, .inl v5), (0, .inr (.inr (.inl k0))), (1, .inl s4.1), (2, .inl s4.2)]) (st' := [.inl v5, .inl s4.1]) rfl ?_
          obtain ⟨q15, h16, h⟩ := Option.bind_eq_some_iff.mp h
          refine J_callS (md' := md_X6_has) (As := [.inl s4.1, .inl v5]) (st := []) (cs' := (0, 0)) (st' := [.inl q15.1]) (jat ok_X6_areVictims 29 (pc := 44) (i := .invokestatic 128) (n := 3) rfl rfl) (Or.inl ml_RX6_128) ys_X6_has (c_X6_has l g (d + 0) h16) (jRo_of (by decide)) (Nat.le_of_ble_eq_true rfl) ⟨Nat.le_of_ble_eq_true rfl, Nat.le_of_ble_eq_true rfl⟩ rfl rfl rfl ?_
          refine J_eq0 (jat ok_X6_areVictims 30 (pc := 47) (i := .ifCond .eq 19) (n := 3) rfl rfl) (tgt := 66) (by decide) (fun c => ?_) (fun c => ?_)
          · have h := (if_pos c).symm.trans h
            refine J_sub (ls' := [(0, .inr (.inr (.inl k0))), (1, .inl s4.1), (2, .inl s4.2), (3, .inl v5)]) [1, 2, 3, 0] rfl ?_
            exact k_X6_areVictims_b4_j66 d _ _ h hR hX hN
          · have h := (if_neg c).symm.trans h
            refine J_sub (ls' := [(0, .inr (.inr (.inl k0))), (2, .inl s4.2)]) [1, 3] rfl ?_
            exact k_X6_areVictims_b4_j50 d _ _ h hR hX hN
def f_X6_areVictims (x0 : Option Nat) (ah : AH) : Option (Int32 × AH) :=
  (jloop (f_X6_areVictims_b4 x0) jfuel (0, 0) ah).bind fun q17 => match q17 with | .inl r => some r | .inr z19 => some (1, z19.2)
set_option maxRecDepth 100000 in
set_option maxHeartbeats 4000000 in
theorem k_X6_areVictims {l : Launch} {g : GX} (d : Nat) {Q : jQ} {x0 : Option Nat} (ah : AH) (out : Int32 × AH) (h : f_X6_areVictims x0 ah = some out) (hR : jRetZ l g md_X6_areVictims (jRm (d + 1) md_X6_areVictims) Q (0, 0) out.1 out.2) : J l g md_X6_areVictims (jRm (d + 1) md_X6_areVictims) Q 0 [(0, .inr (.inr (.inl x0)))] [] ah (0, 0) := by
  unfold f_X6_areVictims at h
  refine J_seg ok_X6_areVictims 0 4 (pc' := 4) (ls' := [(2, .inl 0), (1, .inl 0), (0, .inr (.inr (.inl x0)))]) (st' := []) rfl ?_
  obtain ⟨q17, h18, h⟩ := Option.bind_eq_some_iff.mp h
  refine J_sub (ls' := [(0, .inr (.inr (.inl x0))), (1, .inl 0), (2, .inl 0)]) [2, 1, 0] rfl ?_
  refine J_loop (pE := 88) (lh := fun t20 => [(0, .inr (.inr (.inl x0))), (1, .inl t20.1), (2, .inl t20.2)]) (lx := fun z19 => []) (P := jRetZ l g md_X6_areVictims (jRm (d + 1) md_X6_areVictims) Q (0, 0)) (fun s ah out hb hR hX hN => k_X6_areVictims_b4 d s ah out hb hR hX hN) jfuel (0, 0) _ _ h18 (fun r e => ?_) (fun z19 e => ?_)
  · subst e
    dsimp only at h
    have h := Option.some.inj h
    subst h
    exact hR
  · subst e
    dsimp only at h
    refine J_seg ok_X6_areVictims 56 1 (pc' := 89) (ls' := []) (st' := [.inl 1]) rfl ?_
    have h := Option.some.inj h
    subst h
    exact hR _ _ (jat ok_X6_areVictims 57 (pc := 89) (i := .ireturn) (n := 1) rfl rfl) (Or.inr rfl)
theorem c_X6_areVictims (l : Launch) (g : GX) (d : Nat) {x0 : Option Nat} {ah : AH} {q : Int32 × AH} (h : f_X6_areVictims x0 ah = some q) : jM l g (d + 1) md_X6_areVictims [.inr (.inr (.inl x0))] ah (some (.inl q.1)) q.2 :=
  jM_of (by decide) (Nat.le_of_ble_eq_true rfl) (k_X6_areVictims d ah q h (fun pc ls hd c => J_reti hd rfl (jPV_z c) rfl (Nat.le_refl _) rfl rfl))
def f_X6_faultOf_b35 (k0 : Option Nat) (s35 : Int32) (ah : AH) : Option ((Unit × AH) ⊕ (((Unit) × AH) ⊕ ((Int32) × AH))) :=
  if 6 ≤ s35 then (some (.inr (.inl ((), ah)))) else ((gR ah k0 6 21).bind fun v15 => (sA ah v15 s35 0).bind fun a17 => some (.inr (.inr (s35 + 1, a17))))
set_option maxRecDepth 100000 in
set_option maxHeartbeats 4000000 in
theorem k_X6_faultOf_b35 {l : Launch} {g : GX} (d : Nat) {Q : jQ} {k0 : Option Nat} (s35 : Int32) (ah : AH) (out : (Unit × AH) ⊕ (((Unit) × AH) ⊕ ((Int32) × AH))) (h : f_X6_faultOf_b35 k0 s35 ah = some out) (hR : ∀ q, out = .inl q → jRetN q.1 q.2) (hX : ∀ q, out = .inr (.inl q) → J l g md_X6_faultOf (jRm (d + 3) md_X6_faultOf) Q 54 [(0, .inr (.inr (.inl k0)))] [] q.2 (0, 0)) (hN : ∀ q, out = .inr (.inr q) → J l g md_X6_faultOf (jRm (d + 3) md_X6_faultOf) Q 35 [(0, .inr (.inr (.inl k0))), (2, .inl q.1)] [] q.2 (0, 0)) : J l g md_X6_faultOf (jRm (d + 3) md_X6_faultOf) Q 35 [(0, .inr (.inr (.inl k0))), (2, .inl s35)] [] ah (0, 0) := by
  unfold f_X6_faultOf_b35 at h
  refine J_seg ok_X6_faultOf 22 2 (pc' := 38) (ls' := [(0, .inr (.inr (.inl k0))), (2, .inl s35)]) (st' := [.inl 6, .inl s35]) rfl ?_
  refine J_ge (jat ok_X6_faultOf 24 (pc := 38) (i := .if_icmp .ge 16) (n := 3) rfl rfl) (tgt := 54) (by decide) (fun c => ?_) (fun c => ?_)
  · have h := (if_pos c).symm.trans h
    exact J_sub (ls' := [(0, .inr (.inr (.inl k0)))]) [0] rfl (hX ((), ah) (Option.some.inj h).symm)
  · have h := (if_neg c).symm.trans h
    refine J_seg ok_X6_faultOf 25 1 (pc' := 42) (ls' := [(0, .inr (.inr (.inl k0))), (2, .inl s35)]) (st' := [.inr (.inr (.inl k0))]) rfl ?_
    obtain ⟨v15, h16, h⟩ := Option.bind_eq_some_iff.mp h
    refine J_getR (jat ok_X6_faultOf 26 (pc := 42) (i := .getfield 47) (n := 3) rfl rfl) fl_RX6_47 h16 ?_
    refine J_seg ok_X6_faultOf 27 2 (pc' := 47) (ls' := [(0, .inr (.inr (.inl k0))), (2, .inl s35)]) (st' := [.inl 0, .inl s35, .inr (.inr (.inl v15))]) rfl ?_
    obtain ⟨a17, h18, h⟩ := Option.bind_eq_some_iff.mp h
    refine J_iast (jat ok_X6_faultOf 29 (pc := 47) (i := .iastore) (n := 1) rfl rfl) h18 ?_
    refine J_seg ok_X6_faultOf 30 2 (pc' := 35) (ls' := [(2, .inl (s35 + 1)), (0, .inr (.inr (.inl k0)))]) (st' := []) rfl ?_
    exact J_sub (ls' := [(0, .inr (.inr (.inl k0))), (2, .inl (s35 + 1))]) [1, 0] rfl (hN (s35 + 1, a17) (Option.some.inj h).symm)
def f_X6_faultOf_b60_j95 (k0 : Option Nat) (y0 : Int32) (ah : AH) : Option ((Unit × AH) ⊕ (((Int32) × AH) ⊕ ((Int32) × AH))) :=
  if y0 = 0 then (some (.inr (.inr (y0, ah)))) else (if qO ah k0 6 = true then ((f_X6_skip k0 ah).bind fun q36 => some (.inr (.inr (y0, q36.2)))) else none)
set_option maxRecDepth 100000 in
set_option maxHeartbeats 4000000 in
theorem k_X6_faultOf_b60_j95 {l : Launch} {g : GX} (d : Nat) {Q : jQ} {k0 : Option Nat} {y0 : Int32} (ah : AH) (out : (Unit × AH) ⊕ (((Int32) × AH) ⊕ ((Int32) × AH))) (h : f_X6_faultOf_b60_j95 k0 y0 ah = some out) (hR : ∀ q, out = .inl q → jRetN q.1 q.2) (hX : ∀ q, out = .inr (.inl q) → J l g md_X6_faultOf (jRm (d + 3) md_X6_faultOf) Q 107 [(0, .inr (.inr (.inl k0))), (2, .inl q.1)] [] q.2 (0, 0)) (hN : ∀ q, out = .inr (.inr q) → J l g md_X6_faultOf (jRm (d + 3) md_X6_faultOf) Q 60 [(0, .inr (.inr (.inl k0))), (2, .inl q.1)] [] q.2 (0, 0)) : J l g md_X6_faultOf (jRm (d + 3) md_X6_faultOf) Q 95 [(0, .inr (.inr (.inl k0)))] [.inl y0] ah (0, 0) := by
  unfold f_X6_faultOf_b60_j95 at h
  refine J_seg ok_X6_faultOf 52 2 (pc' := 97) (ls' := [(2, .inl y0), (0, .inr (.inr (.inl k0)))]) (st' := [.inl y0]) rfl ?_
  refine J_eq0 (jat ok_X6_faultOf 54 (pc := 97) (i := .ifCond .eq (-37)) (n := 3) rfl rfl) (tgt := 60) (by decide) (fun c => ?_) (fun c => ?_)
  · have h := (if_pos c).symm.trans h
    exact J_sub (ls' := [(0, .inr (.inr (.inl k0))), (2, .inl y0)]) [1, 0] rfl (hN (y0, ah) (Option.some.inj h).symm)
  · have h := (if_neg c).symm.trans h
    refine J_seg ok_X6_faultOf 55 1 (pc' := 101) (ls' := [(2, .inl y0), (0, .inr (.inr (.inl k0)))]) (st' := [.inr (.inr (.inl k0))]) rfl ?_
    by_cases c38 : qO ah k0 6 = true
    case neg => exact absurd ((if_neg c38).symm.trans h) (by simp)
    have h := (if_pos c38).symm.trans h
    obtain ⟨q36, h37, h⟩ := Option.bind_eq_some_iff.mp h
    refine J_callV (md' := md_X6_skip) (As := []) (st := []) (cs' := (0, 0)) (st' := []) (jat ok_X6_faultOf 56 (pc := 101) (i := .invokevirtual 132) (n := 3) rfl rfl) ml_RX6_132 yv_X6_skip c38 (c_X6_skip l g (d + 1) h37) (jRo_of (by decide)) (Nat.le_of_ble_eq_true rfl) ⟨Nat.le_of_ble_eq_true rfl, Nat.le_of_ble_eq_true rfl⟩ rfl rfl rfl ?_
    refine J_seg ok_X6_faultOf 57 1 (pc' := 60) (ls' := [(2, .inl y0), (0, .inr (.inr (.inl k0)))]) (st' := []) rfl ?_
    exact J_sub (ls' := [(0, .inr (.inr (.inl k0))), (2, .inl y0)]) [1, 0] rfl (hN (y0, q36.2) (Option.some.inj h).symm)
def f_X6_faultOf_b60 (k0 : Option Nat) (s60 : Int32) (ah : AH) : Option ((Unit × AH) ⊕ (((Int32) × AH) ⊕ ((Int32) × AH))) :=
  if s60 = 0 then (some (.inr (.inl (s60, ah)))) else ((gI ah k0 6 17).bind fun v26 => (gI ah k0 6 18).bind fun v28 => if v28 ≤ v26 then (some (.inr (.inl (s60, ah)))) else (if qO ah k0 6 = true then ((f_X6_here k0 ah).bind fun q30 => if q30.1 = 111 then (if qO q30.2 k0 6 = true then ((f_X6_readsLove k0 q30.2).bind fun q39 => f_X6_faultOf_b60_j95 k0 q39.1 q39.2) else none) else (if qO q30.2 k0 6 = true then ((f_X6_readsPerson k0 q30.2).bind fun q33 => f_X6_faultOf_b60_j95 k0 q33.1 q33.2) else none)) else none))
set_option maxRecDepth 100000 in
set_option maxHeartbeats 4000000 in
theorem k_X6_faultOf_b60 {l : Launch} {g : GX} (d : Nat) {Q : jQ} {k0 : Option Nat} (s60 : Int32) (ah : AH) (out : (Unit × AH) ⊕ (((Int32) × AH) ⊕ ((Int32) × AH))) (h : f_X6_faultOf_b60 k0 s60 ah = some out) (hR : ∀ q, out = .inl q → jRetN q.1 q.2) (hX : ∀ q, out = .inr (.inl q) → J l g md_X6_faultOf (jRm (d + 3) md_X6_faultOf) Q 107 [(0, .inr (.inr (.inl k0))), (2, .inl q.1)] [] q.2 (0, 0)) (hN : ∀ q, out = .inr (.inr q) → J l g md_X6_faultOf (jRm (d + 3) md_X6_faultOf) Q 60 [(0, .inr (.inr (.inl k0))), (2, .inl q.1)] [] q.2 (0, 0)) : J l g md_X6_faultOf (jRm (d + 3) md_X6_faultOf) Q 60 [(0, .inr (.inr (.inl k0))), (2, .inl s60)] [] ah (0, 0) := by
  unfold f_X6_faultOf_b60 at h
  refine J_seg ok_X6_faultOf 36 1 (pc' := 61) (ls' := [(0, .inr (.inr (.inl k0))), (2, .inl s60)]) (st' := [.inl s60]) rfl ?_
  refine J_eq0 (jat ok_X6_faultOf 37 (pc := 61) (i := .ifCond .eq 46) (n := 3) rfl rfl) (tgt := 107) (by decide) (fun c => ?_) (fun c => ?_)
  · have h := (if_pos c).symm.trans h
    exact J_sub (ls' := [(0, .inr (.inr (.inl k0))), (2, .inl s60)]) [0, 1] rfl (hX (s60, ah) (Option.some.inj h).symm)
  · have h := (if_neg c).symm.trans h
    refine J_seg ok_X6_faultOf 38 1 (pc' := 65) (ls' := [(0, .inr (.inr (.inl k0))), (2, .inl s60)]) (st' := [.inr (.inr (.inl k0))]) rfl ?_
    obtain ⟨v26, h27, h⟩ := Option.bind_eq_some_iff.mp h
    refine J_getI (jat ok_X6_faultOf 39 (pc := 65) (i := .getfield 106) (n := 3) rfl rfl) fl_RX6_106 h27 ?_
    refine J_seg ok_X6_faultOf 40 1 (pc' := 69) (ls' := [(0, .inr (.inr (.inl k0))), (2, .inl s60)]) (st' := [.inr (.inr (.inl k0)), .inl v26]) rfl ?_
    obtain ⟨v28, h29, h⟩ := Option.bind_eq_some_iff.mp h
    refine J_getI (jat ok_X6_faultOf 41 (pc := 69) (i := .getfield 109) (n := 3) rfl rfl) fl_RX6_109 h29 ?_
    refine J_ge (jat ok_X6_faultOf 42 (pc := 72) (i := .if_icmp .ge 35) (n := 3) rfl rfl) (tgt := 107) (by decide) (fun c => ?_) (fun c => ?_)
    · have h := (if_pos c).symm.trans h
      exact J_sub (ls' := [(0, .inr (.inr (.inl k0))), (2, .inl s60)]) [0, 1] rfl (hX (s60, ah) (Option.some.inj h).symm)
    · have h := (if_neg c).symm.trans h
      refine J_seg ok_X6_faultOf 43 1 (pc' := 76) (ls' := [(0, .inr (.inr (.inl k0))), (2, .inl s60)]) (st' := [.inr (.inr (.inl k0))]) rfl ?_
      by_cases c32 : qO ah k0 6 = true
      case neg => exact absurd ((if_neg c32).symm.trans h) (by simp)
      have h := (if_pos c32).symm.trans h
      obtain ⟨q30, h31, h⟩ := Option.bind_eq_some_iff.mp h
      refine J_callV (md' := md_X6_here) (As := []) (st := []) (cs' := (0, 0)) (st' := [.inl q30.1]) (jat ok_X6_faultOf 44 (pc := 76) (i := .invokevirtual 112) (n := 3) rfl rfl) ml_RX6_112 yv_X6_here c32 (c_X6_here l g (d + 2) h31) (jRo_of (by decide)) (Nat.le_of_ble_eq_true rfl) ⟨Nat.le_of_ble_eq_true rfl, Nat.le_of_ble_eq_true rfl⟩ rfl rfl rfl ?_
      refine J_seg ok_X6_faultOf 45 1 (pc' := 81) (ls' := [(0, .inr (.inr (.inl k0))), (2, .inl s60)]) (st' := [.inl 111, .inl q30.1]) rfl ?_
      refine J_ne (jat ok_X6_faultOf 46 (pc := 81) (i := .if_icmp .ne 10) (n := 3) rfl rfl) (tgt := 91) (by decide) (fun c => ?_) (fun c => ?_)
      · have h := (if_neg c).symm.trans h
        refine J_seg ok_X6_faultOf 50 1 (pc' := 92) (ls' := [(0, .inr (.inr (.inl k0))), (2, .inl s60)]) (st' := [.inr (.inr (.inl k0))]) rfl ?_
        by_cases c35 : qO q30.2 k0 6 = true
        case neg => exact absurd ((if_neg c35).symm.trans h) (by simp)
        have h := (if_pos c35).symm.trans h
        obtain ⟨q33, h34, h⟩ := Option.bind_eq_some_iff.mp h
        refine J_callV (md' := md_X6_readsPerson) (As := []) (st := []) (cs' := (0, 0)) (st' := [.inl q33.1]) (jat ok_X6_faultOf 51 (pc := 92) (i := .invokevirtual 139) (n := 3) rfl rfl) ml_RX6_139 yv_X6_readsPerson c35 (c_X6_readsPerson l g (d + 0) h34) (jRo_of (by decide)) (Nat.le_of_ble_eq_true rfl) ⟨Nat.le_of_ble_eq_true rfl, Nat.le_of_ble_eq_true rfl⟩ rfl rfl rfl ?_
        refine J_sub (ls' := [(0, .inr (.inr (.inl k0)))]) [0] rfl ?_
        exact k_X6_faultOf_b60_j95 d _ _ h hR hX hN
      · have h := (if_pos c).symm.trans h
        refine J_seg ok_X6_faultOf 47 1 (pc' := 85) (ls' := [(0, .inr (.inr (.inl k0))), (2, .inl s60)]) (st' := [.inr (.inr (.inl k0))]) rfl ?_
        by_cases c41 : qO q30.2 k0 6 = true
        case neg => exact absurd ((if_neg c41).symm.trans h) (by simp)
        have h := (if_pos c41).symm.trans h
        obtain ⟨q39, h40, h⟩ := Option.bind_eq_some_iff.mp h
        refine J_callV (md' := md_X6_readsLove) (As := []) (st := []) (cs' := (0, 0)) (st' := [.inl q39.1]) (jat ok_X6_faultOf 48 (pc := 85) (i := .invokevirtual 135) (n := 3) rfl rfl) ml_RX6_135 yv_X6_readsLove c41 (c_X6_readsLove l g (d + 0) h40) (jRo_of (by decide)) (Nat.le_of_ble_eq_true rfl) ⟨Nat.le_of_ble_eq_true rfl, Nat.le_of_ble_eq_true rfl⟩ rfl rfl rfl ?_
        refine J_seg ok_X6_faultOf 49 1 (pc' := 95) (ls' := [(0, .inr (.inr (.inl k0))), (2, .inl s60)]) (st' := [.inl q39.1]) rfl ?_
        refine J_sub (ls' := [(0, .inr (.inr (.inl k0)))]) [0] rfl ?_
        exact k_X6_faultOf_b60_j95 d _ _ h hR hX hN
def f_X6_faultOf_j131 (x0 : Option Nat) (ah : AH) : Option (Int32 × AH) :=
  (gI ah x0 6 17).bind fun v46 => some (v46, ah)
set_option maxRecDepth 100000 in
set_option maxHeartbeats 4000000 in
theorem k_X6_faultOf_j131 {l : Launch} {g : GX} (d : Nat) {Q : jQ} {x0 : Option Nat} (ah : AH) (out : Int32 × AH) (h : f_X6_faultOf_j131 x0 ah = some out) (hR : jRetI l g md_X6_faultOf (jRm (d + 3) md_X6_faultOf) Q (0, 0) out.1 out.2) : J l g md_X6_faultOf (jRm (d + 3) md_X6_faultOf) Q 131 [(0, .inr (.inr (.inl x0)))] [] ah (0, 0) := by
  unfold f_X6_faultOf_j131 at h
  refine J_seg ok_X6_faultOf 69 1 (pc' := 132) (ls' := [(0, .inr (.inr (.inl x0)))]) (st' := [.inr (.inr (.inl x0))]) rfl ?_
  obtain ⟨v46, h47, h⟩ := Option.bind_eq_some_iff.mp h
  refine J_getI (jat ok_X6_faultOf 70 (pc := 132) (i := .getfield 106) (n := 3) rfl rfl) fl_RX6_106 h47 ?_
  have h := Option.some.inj h
  subst h
  exact hR _ _ (jat ok_X6_faultOf 71 (pc := 135) (i := .ireturn) (n := 1) rfl rfl)
def f_X6_faultOf_j107 (x0 : Option Nat) (x2 : Int32) (ah : AH) : Option (Int32 × AH) :=
  if x2 = 0 then (f_X6_faultOf_j131 x0 ah) else ((gI ah x0 6 20).bind fun v48 => if v48 ≤ 1 then (f_X6_faultOf_j131 x0 ah) else (if qO ah x0 6 = true then ((f_X6_areVictims x0 ah).bind fun q50 => if q50.1 = 0 then (f_X6_faultOf_j131 x0 q50.2) else (some ((-9), q50.2))) else none))
set_option maxRecDepth 100000 in
set_option maxHeartbeats 4000000 in
theorem k_X6_faultOf_j107 {l : Launch} {g : GX} (d : Nat) {Q : jQ} {x0 : Option Nat} {x2 : Int32} (ah : AH) (out : Int32 × AH) (h : f_X6_faultOf_j107 x0 x2 ah = some out) (hR : jRetI l g md_X6_faultOf (jRm (d + 3) md_X6_faultOf) Q (0, 0) out.1 out.2) : J l g md_X6_faultOf (jRm (d + 3) md_X6_faultOf) Q 107 [(0, .inr (.inr (.inl x0))), (2, .inl x2)] [] ah (0, 0) := by
  unfold f_X6_faultOf_j107 at h
  refine J_seg ok_X6_faultOf 58 1 (pc' := 108) (ls' := [(0, .inr (.inr (.inl x0))), (2, .inl x2)]) (st' := [.inl x2]) rfl ?_
  refine J_eq0 (jat ok_X6_faultOf 59 (pc := 108) (i := .ifCond .eq 23) (n := 3) rfl rfl) (tgt := 131) (by decide) (fun c => ?_) (fun c => ?_)
  · have h := (if_pos c).symm.trans h
    refine J_sub (ls' := [(0, .inr (.inr (.inl x0)))]) [0] rfl ?_
    exact k_X6_faultOf_j131 d _ _ h hR
  · have h := (if_neg c).symm.trans h
    refine J_seg ok_X6_faultOf 60 1 (pc' := 112) (ls' := [(0, .inr (.inr (.inl x0))), (2, .inl x2)]) (st' := [.inr (.inr (.inl x0))]) rfl ?_
    obtain ⟨v48, h49, h⟩ := Option.bind_eq_some_iff.mp h
    refine J_getI (jat ok_X6_faultOf 61 (pc := 112) (i := .getfield 119) (n := 3) rfl rfl) fl_RX6_119 h49 ?_
    refine J_seg ok_X6_faultOf 62 1 (pc' := 116) (ls' := [(0, .inr (.inr (.inl x0))), (2, .inl x2)]) (st' := [.inl 1, .inl v48]) rfl ?_
    refine J_le (jat ok_X6_faultOf 63 (pc := 116) (i := .if_icmp .le 15) (n := 3) rfl rfl) (tgt := 131) (by decide) (fun c => ?_) (fun c => ?_)
    · have h := (if_pos c).symm.trans h
      refine J_sub (ls' := [(0, .inr (.inr (.inl x0)))]) [0] rfl ?_
      exact k_X6_faultOf_j131 d _ _ h hR
    · have h := (if_neg c).symm.trans h
      refine J_seg ok_X6_faultOf 64 1 (pc' := 120) (ls' := [(0, .inr (.inr (.inl x0))), (2, .inl x2)]) (st' := [.inr (.inr (.inl x0))]) rfl ?_
      by_cases c52 : qO ah x0 6 = true
      case neg => exact absurd ((if_neg c52).symm.trans h) (by simp)
      have h := (if_pos c52).symm.trans h
      obtain ⟨q50, h51, h⟩ := Option.bind_eq_some_iff.mp h
      refine J_callV (md' := md_X6_areVictims) (As := []) (st := []) (cs' := (0, 0)) (st' := [.inl q50.1]) (jat ok_X6_faultOf 65 (pc := 120) (i := .invokevirtual 142) (n := 3) rfl rfl) ml_RX6_142 yv_X6_areVictims c52 (c_X6_areVictims l g (d + 1) h51) (jRo_of (by decide)) (Nat.le_of_ble_eq_true rfl) ⟨Nat.le_of_ble_eq_true rfl, Nat.le_of_ble_eq_true rfl⟩ rfl rfl rfl ?_
      refine J_eq0 (jat ok_X6_faultOf 66 (pc := 123) (i := .ifCond .eq 8) (n := 3) rfl rfl) (tgt := 131) (by decide) (fun c => ?_) (fun c => ?_)
      · have h := (if_pos c).symm.trans h
        refine J_sub (ls' := [(0, .inr (.inr (.inl x0)))]) [0] rfl ?_
        exact k_X6_faultOf_j131 d _ _ h hR
      · have h := (if_neg c).symm.trans h
        refine J_seg ok_X6_faultOf 67 2 (pc' := 135) (ls' := [(0, .inr (.inr (.inl x0))), (2, .inl x2)]) (st' := [.inl (-9)]) rfl ?_
        have h := Option.some.inj h
        subst h
        exact hR _ _ (jat ok_X6_faultOf 71 (pc := 135) (i := .ireturn) (n := 1) rfl rfl)
def f_X6_faultOf (x0 : Option Nat) (x1 : Int32) (ah : AH) : Option (Int32 × AH) :=
  (sF ah x0 6 16 (.inl (60 * x1))).bind fun a1 => (sF a1 x0 6 17 (.inl 0)).bind fun a3 => (gR a3 x0 6 9).bind fun v5 => (gA a3 v5 x1).bind fun v7 => (sF a3 x0 6 18 (.inl v7)).bind fun a9 => (sF a9 x0 6 20 (.inl 0)).bind fun a11 => (sF a11 x0 6 22 (.inl 0)).bind fun a13 => (jloop (f_X6_faultOf_b35 x0) jfuel 0 a13).bind fun q19 => match q19 with | .inl r => none | .inr z21 => if qO z21.2 x0 6 = true then ((f_X6_skip x0 z21.2).bind fun q23 => (jloop (f_X6_faultOf_b60 x0) jfuel 1 q23.2).bind fun q42 => match q42 with | .inl r => none | .inr z44 => f_X6_faultOf_j107 x0 z44.1 z44.2) else none
set_option maxRecDepth 100000 in
set_option maxHeartbeats 4000000 in
theorem k_X6_faultOf {l : Launch} {g : GX} (d : Nat) {Q : jQ} {x0 : Option Nat} {x1 : Int32} (ah : AH) (out : Int32 × AH) (h : f_X6_faultOf x0 x1 ah = some out) (hR : jRetI l g md_X6_faultOf (jRm (d + 3) md_X6_faultOf) Q (0, 0) out.1 out.2) : J l g md_X6_faultOf (jRm (d + 3) md_X6_faultOf) Q 0 [(0, .inr (.inr (.inl x0))), (1, .inl x1)] [] ah (0, 0) := by
  unfold f_X6_faultOf at h
  refine J_seg ok_X6_faultOf 0 4 (pc' := 5) (ls' := [(0, .inr (.inr (.inl x0))), (1, .inl x1)]) (st' := [.inl (60 * x1), .inr (.inr (.inl x0))]) rfl ?_
  obtain ⟨a1, h2, h⟩ := Option.bind_eq_some_iff.mp h
  refine J_put (jat ok_X6_faultOf 4 (pc := 5) (i := .putfield 103) (n := 3) rfl rfl) (fp_RX6_103 _) (jPV_int _) h2 ?_
  refine J_seg ok_X6_faultOf 5 2 (pc' := 10) (ls' := [(0, .inr (.inr (.inl x0))), (1, .inl x1)]) (st' := [.inl 0, .inr (.inr (.inl x0))]) rfl ?_
  obtain ⟨a3, h4, h⟩ := Option.bind_eq_some_iff.mp h
  refine J_put (jat ok_X6_faultOf 7 (pc := 10) (i := .putfield 106) (n := 3) rfl rfl) (fp_RX6_106 _) (jPV_int _) h4 ?_
  refine J_seg ok_X6_faultOf 8 2 (pc' := 15) (ls' := [(0, .inr (.inr (.inl x0))), (1, .inl x1)]) (st' := [.inr (.inr (.inl x0)), .inr (.inr (.inl x0))]) rfl ?_
  obtain ⟨v5, h6, h⟩ := Option.bind_eq_some_iff.mp h
  refine J_getR (jat ok_X6_faultOf 10 (pc := 15) (i := .getfield 31) (n := 3) rfl rfl) fl_RX6_31 h6 ?_
  refine J_seg ok_X6_faultOf 11 1 (pc' := 19) (ls' := [(0, .inr (.inr (.inl x0))), (1, .inl x1)]) (st' := [.inl x1, .inr (.inr (.inl v5)), .inr (.inr (.inl x0))]) rfl ?_
  obtain ⟨v7, h8, h⟩ := Option.bind_eq_some_iff.mp h
  refine J_iald (jat ok_X6_faultOf 12 (pc := 19) (i := .iaload) (n := 1) rfl rfl) h8 ?_
  obtain ⟨a9, h10, h⟩ := Option.bind_eq_some_iff.mp h
  refine J_put (jat ok_X6_faultOf 13 (pc := 20) (i := .putfield 109) (n := 3) rfl rfl) (fp_RX6_109 _) (jPV_int _) h10 ?_
  refine J_seg ok_X6_faultOf 14 2 (pc' := 25) (ls' := [(0, .inr (.inr (.inl x0))), (1, .inl x1)]) (st' := [.inl 0, .inr (.inr (.inl x0))]) rfl ?_
  obtain ⟨a11, h12, h⟩ := Option.bind_eq_some_iff.mp h
  refine J_put (jat ok_X6_faultOf 16 (pc := 25) (i := .putfield 119) (n := 3) rfl rfl) (fp_RX6_119 _) (jPV_int _) h12 ?_
  refine J_seg ok_X6_faultOf 17 2 (pc' := 30) (ls' := [(0, .inr (.inr (.inl x0))), (1, .inl x1)]) (st' := [.inl 0, .inr (.inr (.inl x0))]) rfl ?_
  obtain ⟨a13, h14, h⟩ := Option.bind_eq_some_iff.mp h
  refine J_put (jat ok_X6_faultOf 19 (pc := 30) (i := .putfield 122) (n := 3) rfl rfl) (fp_RX6_122 _) (jPV_int _) h14 ?_
  refine J_seg ok_X6_faultOf 20 2 (pc' := 35) (ls' := [(2, .inl 0), (0, .inr (.inr (.inl x0))), (1, .inl x1)]) (st' := []) rfl ?_
  obtain ⟨q19, h20, h⟩ := Option.bind_eq_some_iff.mp h
  refine J_sub (ls' := [(0, .inr (.inr (.inl x0))), (2, .inl 0)]) [1, 0] rfl ?_
  refine J_loop (pE := 54) (lh := fun t22 => [(0, .inr (.inr (.inl x0))), (2, .inl t22)]) (lx := fun z21 => [(0, .inr (.inr (.inl x0)))]) (P := jRetN) (fun s ah out hb hR hX hN => k_X6_faultOf_b35 d s ah out hb hR hX hN) jfuel 0 _ _ h20 (fun r e => ?_) (fun z21 e => ?_)
  · subst e
    dsimp only at h
    cases h
  · subst e
    dsimp only at h
    refine J_seg ok_X6_faultOf 32 1 (pc' := 55) (ls' := [(0, .inr (.inr (.inl x0)))]) (st' := [.inr (.inr (.inl x0))]) rfl ?_
    by_cases c25 : qO z21.2 x0 6 = true
    case neg => exact absurd ((if_neg c25).symm.trans h) (by simp)
    have h := (if_pos c25).symm.trans h
    obtain ⟨q23, h24, h⟩ := Option.bind_eq_some_iff.mp h
    refine J_callV (md' := md_X6_skip) (As := []) (st := []) (cs' := (0, 0)) (st' := []) (jat ok_X6_faultOf 33 (pc := 55) (i := .invokevirtual 132) (n := 3) rfl rfl) ml_RX6_132 yv_X6_skip c25 (c_X6_skip l g (d + 1) h24) (jRo_of (by decide)) (Nat.le_of_ble_eq_true rfl) ⟨Nat.le_of_ble_eq_true rfl, Nat.le_of_ble_eq_true rfl⟩ rfl rfl rfl ?_
    refine J_seg ok_X6_faultOf 34 2 (pc' := 60) (ls' := [(2, .inl 1), (0, .inr (.inr (.inl x0)))]) (st' := []) rfl ?_
    obtain ⟨q42, h43, h⟩ := Option.bind_eq_some_iff.mp h
    refine J_sub (ls' := [(0, .inr (.inr (.inl x0))), (2, .inl 1)]) [1, 0] rfl ?_
    refine J_loop (pE := 107) (lh := fun t45 => [(0, .inr (.inr (.inl x0))), (2, .inl t45)]) (lx := fun z44 => [(0, .inr (.inr (.inl x0))), (2, .inl z44)]) (P := jRetN) (fun s ah out hb hR hX hN => k_X6_faultOf_b60 d s ah out hb hR hX hN) jfuel 1 _ _ h43 (fun r e => ?_) (fun z44 e => ?_)
    · subst e
      dsimp only at h
      cases h
    · subst e
      dsimp only at h
      refine J_sub (ls' := [(0, .inr (.inr (.inl x0))), (2, .inl z44.1)]) [0, 1] rfl ?_
      exact k_X6_faultOf_j107 d _ _ h hR
theorem c_X6_faultOf (l : Launch) (g : GX) (d : Nat) {x0 : Option Nat} {x1 : Int32} {ah : AH} {q : Int32 × AH} (h : f_X6_faultOf x0 x1 ah = some q) : jM l g (d + 3) md_X6_faultOf [.inr (.inr (.inl x0)), .inl x1] ah (some (.inl q.1)) q.2 :=
  jM_of (by decide) (Nat.le_of_ble_eq_true rfl) (k_X6_faultOf d ah q h (fun pc ls hd => J_reti hd rfl (jPV_int _) rfl (Nat.le_refl _) rfl rfl))
