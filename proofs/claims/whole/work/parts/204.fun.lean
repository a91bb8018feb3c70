def f_X5_find (x0 : Option Nat) (x1 : Int32) (ah : AH) : Option (Int32 × AH) :=
  if x1 < 1 then (some ((-3), ah)) else (if 5 < x1 then (some ((-3), ah)) else ((sF ah x0 5 10 (.inl x1)).bind fun a1 => (gR a1 x0 5 7).bind fun v3 => (gA a1 v3 x1).bind fun v5 => (sA a1 v3 x1 (v5 + 1)).bind fun a7 => some ((-3), a7)))
set_option maxRecDepth 100000 in
set_option maxHeartbeats 4000000 in
theorem k_X5_find {l : Launch} {g : GX} (d : Nat) {Q : jQ} {x0 : Option Nat} {x1 : Int32} (ah : AH) (out : Int32 × AH) (h : f_X5_find x0 x1 ah = some out) (hR : jRetI l g md_X5_find (jRm (d + 0) md_X5_find) Q (0, 0) out.1 out.2) : J l g md_X5_find (jRm (d + 0) md_X5_find) Q 0 [(0, .inr (.inr (.inl x0))), (1, .inl x1)] [] ah (0, 0) := by
  unfold f_X5_find at h
  refine J_seg ok_X5_find 0 2 (pc' := 2) (ls' := [(0, .inr (.inr (.inl x0))), (1, .inl x1)]) (st' := [.inl 1, .inl x1]) rfl ?_
  refine J_lt (jat ok_X5_find 2 (pc := 2) (i := .if_icmp .lt 23) (n := 3) rfl rfl) (tgt := 25) (by decide) (fun c => ?_) (fun c => ?_)
  · have h := (if_pos c).symm.trans h
    refine J_seg ok_X5_find 17 1 (pc' := 27) (ls' := [(0, .inr (.inr (.inl x0))), (1, .inl x1)]) (st' := [.inl (-3)]) rfl ?_
    have h := Option.some.inj h
    subst h
    exact hR _ _ (jat ok_X5_find 18 (pc := 27) (i := .ireturn) (n := 1) rfl rfl)
  · have h := (if_neg c).symm.trans h
    refine J_seg ok_X5_find 3 2 (pc' := 7) (ls' := [(0, .inr (.inr (.inl x0))), (1, .inl x1)]) (st' := [.inl 5, .inl x1]) rfl ?_
    refine J_gt (jat ok_X5_find 5 (pc := 7) (i := .if_icmp .gt 18) (n := 3) rfl rfl) (tgt := 25) (by decide) (fun c => ?_) (fun c => ?_)
    · have h := (if_pos c).symm.trans h
      refine J_seg ok_X5_find 17 1 (pc' := 27) (ls' := [(0, .inr (.inr (.inl x0))), (1, .inl x1)]) (st' := [.inl (-3)]) rfl ?_
      have h := Option.some.inj h
      subst h
      exact hR _ _ (jat ok_X5_find 18 (pc := 27) (i := .ireturn) (n := 1) rfl rfl)
    · have h := (if_neg c).symm.trans h
      refine J_seg ok_X5_find 6 2 (pc' := 12) (ls' := [(0, .inr (.inr (.inl x0))), (1, .inl x1)]) (st' := [.inl x1, .inr (.inr (.inl x0))]) rfl ?_
      obtain ⟨a1, h2, h⟩ := Option.bind_eq_some_iff.mp h
      refine J_put (jat ok_X5_find 8 (pc := 12) (i := .putfield 301) (n := 3) rfl rfl) (fp_RX5_301 _) (jPV_int _) h2 ?_
      refine J_seg ok_X5_find 9 1 (pc' := 16) (ls' := [(0, .inr (.inr (.inl x0))), (1, .inl x1)]) (st' := [.inr (.inr (.inl x0))]) rfl ?_
      obtain ⟨v3, h4, h⟩ := Option.bind_eq_some_iff.mp h
      refine J_getR (jat ok_X5_find 10 (pc := 16) (i := .getfield 47) (n := 3) rfl rfl) fl_RX5_47 h4 ?_
      refine J_seg ok_X5_find 11 2 (pc' := 21) (ls' := [(0, .inr (.inr (.inl x0))), (1, .inl x1)]) (st' := [.inl x1, .inr (.inr (.inl v3)), .inl x1, .inr (.inr (.inl v3))]) rfl ?_
      obtain ⟨v5, h6, h⟩ := Option.bind_eq_some_iff.mp h
      refine J_iald (jat ok_X5_find 13 (pc := 21) (i := .iaload) (n := 1) rfl rfl) h6 ?_
      refine J_seg ok_X5_find 14 2 (pc' := 24) (ls' := [(0, .inr (.inr (.inl x0))), (1, .inl x1)]) (st' := [.inl (v5 + 1), .inl x1, .inr (.inr (.inl v3))]) rfl ?_
      obtain ⟨a7, h8, h⟩ := Option.bind_eq_some_iff.mp h
      refine J_iast (jat ok_X5_find 16 (pc := 24) (i := .iastore) (n := 1) rfl rfl) h8 ?_
      refine J_seg ok_X5_find 17 1 (pc' := 27) (ls' := [(0, .inr (.inr (.inl x0))), (1, .inl x1)]) (st' := [.inl (-3)]) rfl ?_
      have h := Option.some.inj h
      subst h
      exact hR _ _ (jat ok_X5_find 18 (pc := 27) (i := .ireturn) (n := 1) rfl rfl)
theorem c_X5_find (l : Launch) (g : GX) (d : Nat) {x0 : Option Nat} {x1 : Int32} {ah : AH} {q : Int32 × AH} (h : f_X5_find x0 x1 ah = some q) : jM l g (d + 0) md_X5_find [.inr (.inr (.inl x0)), .inl x1] ah (some (.inl q.1)) q.2 :=
  jM_of (by decide) (Nat.le_of_ble_eq_true rfl) (k_X5_find d ah q h (fun pc ls hd => J_reti hd rfl (jPV_int _) rfl (Nat.le_refl _) rfl rfl))
def f_X5_lineAt (x0 : Option Nat) (x1 : Int32) (ah : AH) : Option (Option Nat × AH) :=
  if x1 < 0 then (some (none, ah)) else ((lA ah x0).bind fun v1 => if v1 ≤ x1 then (some (none, ah)) else ((gE ah x0 x1).bind fun v3 => some (v3, ah)))
set_option maxRecDepth 100000 in
set_option maxHeartbeats 4000000 in
theorem k_X5_lineAt {l : Launch} {g : GX} (d : Nat) {Q : jQ} {x0 : Option Nat} {x1 : Int32} (ah : AH) (out : Option Nat × AH) (h : f_X5_lineAt x0 x1 ah = some out) (hR : jRetA l g md_X5_lineAt (jRm (d + 0) md_X5_lineAt) Q (0, 0) out.1 out.2) : J l g md_X5_lineAt (jRm (d + 0) md_X5_lineAt) Q 0 [(0, .inr (.inr (.inl x0))), (1, .inl x1)] [] ah (0, 0) := by
  unfold f_X5_lineAt at h
  refine J_seg ok_X5_lineAt 0 1 (pc' := 1) (ls' := [(0, .inr (.inr (.inl x0))), (1, .inl x1)]) (st' := [.inl x1]) rfl ?_
  refine J_lt0 (jat ok_X5_lineAt 1 (pc := 1) (i := .ifCond .lt 15) (n := 3) rfl rfl) (tgt := 16) (by decide) (fun c => ?_) (fun c => ?_)
  · have h := (if_pos c).symm.trans h
    refine J_seg ok_X5_lineAt 10 1 (pc' := 17) (ls' := [(0, .inr (.inr (.inl x0))), (1, .inl x1)]) (st' := [.inr (.inr (.inl none))]) rfl ?_
    have h := Option.some.inj h
    subst h
    exact hR _ _ (jat ok_X5_lineAt 11 (pc := 17) (i := .areturn) (n := 1) rfl rfl)
  · have h := (if_neg c).symm.trans h
    refine J_seg ok_X5_lineAt 2 2 (pc' := 6) (ls' := [(0, .inr (.inr (.inl x0))), (1, .inl x1)]) (st' := [.inr (.inr (.inl x0)), .inl x1]) rfl ?_
    obtain ⟨v1, h2, h⟩ := Option.bind_eq_some_iff.mp h
    refine J_alen (jat ok_X5_lineAt 4 (pc := 6) (i := .arraylength) (n := 1) rfl rfl) h2 ?_
    refine J_ge (jat ok_X5_lineAt 5 (pc := 7) (i := .if_icmp .ge 9) (n := 3) rfl rfl) (tgt := 16) (by decide) (fun c => ?_) (fun c => ?_)
    · have h := (if_pos c).symm.trans h
      refine J_seg ok_X5_lineAt 10 1 (pc' := 17) (ls' := [(0, .inr (.inr (.inl x0))), (1, .inl x1)]) (st' := [.inr (.inr (.inl none))]) rfl ?_
      have h := Option.some.inj h
      subst h
      exact hR _ _ (jat ok_X5_lineAt 11 (pc := 17) (i := .areturn) (n := 1) rfl rfl)
    · have h := (if_neg c).symm.trans h
      refine J_seg ok_X5_lineAt 6 2 (pc' := 12) (ls' := [(0, .inr (.inr (.inl x0))), (1, .inl x1)]) (st' := [.inl x1, .inr (.inr (.inl x0))]) rfl ?_
      obtain ⟨v3, h4, h⟩ := Option.bind_eq_some_iff.mp h
      refine J_aald (jat ok_X5_lineAt 8 (pc := 12) (i := .aaload) (n := 1) rfl rfl) h4 ?_
      refine J_seg ok_X5_lineAt 9 1 (pc' := 17) (ls' := [(0, .inr (.inr (.inl x0))), (1, .inl x1)]) (st' := [.inr (.inr (.inl v3))]) rfl ?_
      have h := Option.some.inj h
      subst h
      exact hR _ _ (jat ok_X5_lineAt 11 (pc := 17) (i := .areturn) (n := 1) rfl rfl)
theorem c_X5_lineAt (l : Launch) (g : GX) (d : Nat) {x0 : Option Nat} {x1 : Int32} {ah : AH} {q : Option Nat × AH} (h : f_X5_lineAt x0 x1 ah = some q) : jM l g (d + 0) md_X5_lineAt [.inr (.inr (.inl x0)), .inl x1] ah (some (.inr (.inr (.inl q.1)))) q.2 :=
  jM_of (by decide) (Nat.le_of_ble_eq_true rfl) (k_X5_lineAt d ah q h (fun pc ls hd => J_reta hd rfl rfl (Nat.le_refl _) rfl rfl))
def f_X5_row (x0 : Option Nat) (x1 : Int32) (x2 : Int32) (ah : AH) : Option (Int32 × AH) :=
  (gR ah x0 5 0).bind fun v1 => (f_X5_lineAt v1 x1 ah).bind fun q3 => if q3.1 = none then (some ((-1), q3.2)) else (if x2 ≤ 40 then (if 0 ≤ x2 then (if qO q3.2 q3.1 2 = true then ((f_X2_renew q3.1 x2 0 q3.2).bind fun q5 => some (x2, q5.2)) else none) else (if qO q3.2 x0 5 = true then ((f_X5_find x0 5 q3.2).bind fun q8 => some (q8.1, q8.2)) else none)) else (some ((-1), q3.2)))
set_option maxRecDepth 100000 in
set_option maxHeartbeats 4000000 in
theorem k_X5_row {l : Launch} {g : GX} (d : Nat) {Q : jQ} {x0 : Option Nat} {x1 : Int32} {x2 : Int32} (ah : AH) (out : Int32 × AH) (h : f_X5_row x0 x1 x2 ah = some out) (hR : jRetI l g md_X5_row (jRm (d + 3) md_X5_row) Q (0, 0) out.1 out.2) : J l g md_X5_row (jRm (d + 3) md_X5_row) Q 0 [(0, .inr (.inr (.inl x0))), (1, .inl x1), (2, .inl x2)] [] ah (0, 0) := by
  unfold f_X5_row at h
  refine J_seg ok_X5_row 0 1 (pc' := 1) (ls' := [(0, .inr (.inr (.inl x0))), (1, .inl x1), (2, .inl x2)]) (st' := [.inr (.inr (.inl x0))]) rfl ?_
  obtain ⟨v1, h2, h⟩ := Option.bind_eq_some_iff.mp h
  refine J_getR (jat ok_X5_row 1 (pc := 1) (i := .getfield 11) (n := 3) rfl rfl) fl_RX5_11 h2 ?_
  refine J_seg ok_X5_row 2 1 (pc' := 5) (ls' := [(0, .inr (.inr (.inl x0))), (1, .inl x1), (2, .inl x2)]) (st' := [.inl x1, .inr (.inr (.inl v1))]) rfl ?_
  obtain ⟨q3, h4, h⟩ := Option.bind_eq_some_iff.mp h
  refine J_callS (md' := md_X5_lineAt) (As := [.inr (.inr (.inl v1)), .inl x1]) (st := []) (cs' := (0, 0)) (st' := [.inr (.inr (.inl q3.1))]) (jat ok_X5_row 3 (pc := 5) (i := .invokestatic 71) (n := 3) rfl rfl) (Or.inl ml_RX5_71) ys_X5_lineAt (c_X5_lineAt l g (d + 2) h4) (jRo_of (by decide)) (Nat.le_of_ble_eq_true rfl) ⟨Nat.le_of_ble_eq_true rfl, Nat.le_of_ble_eq_true rfl⟩ rfl rfl rfl ?_
  refine J_seg ok_X5_row 4 2 (pc' := 10) (ls' := [(3, .inr (.inr (.inl q3.1))), (0, .inr (.inr (.inl x0))), (1, .inl x1), (2, .inl x2)]) (st' := [.inr (.inr (.inl q3.1))]) rfl ?_
  refine J_null (jat ok_X5_row 6 (pc := 10) (i := .ifnull 9) (n := 3) rfl rfl) (tgt := 19) (by decide) (fun c => ?_) (fun c => ?_)
  · have h := (if_pos c).symm.trans h
    refine J_seg ok_X5_row 10 1 (pc' := 20) (ls' := [(3, .inr (.inr (.inl q3.1))), (0, .inr (.inr (.inl x0))), (1, .inl x1), (2, .inl x2)]) (st' := [.inl (-1)]) rfl ?_
    have h := Option.some.inj h
    subst h
    exact hR _ _ (jat ok_X5_row 11 (pc := 20) (i := .ireturn) (n := 1) rfl rfl)
  · have h := (if_neg c).symm.trans h
    refine J_seg ok_X5_row 7 2 (pc' := 16) (ls' := [(3, .inr (.inr (.inl q3.1))), (0, .inr (.inr (.inl x0))), (1, .inl x1), (2, .inl x2)]) (st' := [.inl 40, .inl x2]) rfl ?_
    refine J_le (jat ok_X5_row 9 (pc := 16) (i := .if_icmp .le 5) (n := 3) rfl rfl) (tgt := 21) (by decide) (fun c => ?_) (fun c => ?_)
    · have h := (if_pos c).symm.trans h
      refine J_seg ok_X5_row 12 1 (pc' := 22) (ls' := [(3, .inr (.inr (.inl q3.1))), (0, .inr (.inr (.inl x0))), (1, .inl x1), (2, .inl x2)]) (st' := [.inl x2]) rfl ?_
      refine J_ge0 (jat ok_X5_row 13 (pc := 22) (i := .ifCond .ge 9) (n := 3) rfl rfl) (tgt := 31) (by decide) (fun c => ?_) (fun c => ?_)
      · have h := (if_pos c).symm.trans h
        refine J_seg ok_X5_row 18 3 (pc' := 34) (ls' := [(3, .inr (.inr (.inl q3.1))), (0, .inr (.inr (.inl x0))), (1, .inl x1), (2, .inl x2)]) (st' := [.inl 0, .inl x2, .inr (.inr (.inl q3.1))]) rfl ?_
        by_cases c7 : qO q3.2 q3.1 2 = true
        case neg => exact absurd ((if_neg c7).symm.trans h) (by simp)
        have h := (if_pos c7).symm.trans h
        obtain ⟨q5, h6, h⟩ := Option.bind_eq_some_iff.mp h
        refine J_callV (md' := md_X2_renew) (As := [.inl x2, .inl 0]) (st := []) (cs' := (0, 0)) (st' := []) (jat ok_X5_row 21 (pc := 34) (i := .invokevirtual 79) (n := 3) rfl rfl) ml_RX5_79 yv_X2_renew c7 (c_X2_renew l g (d + 0) h6) (jRo_of (by decide)) (Nat.le_of_ble_eq_true rfl) ⟨Nat.le_of_ble_eq_true rfl, Nat.le_of_ble_eq_true rfl⟩ rfl rfl rfl ?_
        refine J_seg ok_X5_row 22 1 (pc' := 38) (ls' := [(3, .inr (.inr (.inl q3.1))), (0, .inr (.inr (.inl x0))), (1, .inl x1), (2, .inl x2)]) (st' := [.inl x2]) rfl ?_
        have h := Option.some.inj h
        subst h
        exact hR _ _ (jat ok_X5_row 23 (pc := 38) (i := .ireturn) (n := 1) rfl rfl)
      · have h := (if_neg c).symm.trans h
        refine J_seg ok_X5_row 14 2 (pc' := 27) (ls' := [(3, .inr (.inr (.inl q3.1))), (0, .inr (.inr (.inl x0))), (1, .inl x1), (2, .inl x2)]) (st' := [.inl 5, .inr (.inr (.inl x0))]) rfl ?_
        by_cases c10 : qO q3.2 x0 5 = true
        case neg => exact absurd ((if_neg c10).symm.trans h) (by simp)
        have h := (if_pos c10).symm.trans h
        obtain ⟨q8, h9, h⟩ := Option.bind_eq_some_iff.mp h
        refine J_callV (md' := md_X5_find) (As := [.inl 5]) (st := []) (cs' := (0, 0)) (st' := [.inl q8.1]) (jat ok_X5_row 16 (pc := 27) (i := .invokevirtual 75) (n := 3) rfl rfl) ml_RX5_75 yv_X5_find c10 (c_X5_find l g (d + 2) h9) (jRo_of (by decide)) (Nat.le_of_ble_eq_true rfl) ⟨Nat.le_of_ble_eq_true rfl, Nat.le_of_ble_eq_true rfl⟩ rfl rfl rfl ?_
        have h := Option.some.inj h
        subst h
        exact hR _ _ (jat ok_X5_row 17 (pc := 30) (i := .ireturn) (n := 1) rfl rfl)
    · have h := (if_neg c).symm.trans h
      refine J_seg ok_X5_row 10 1 (pc' := 20) (ls' := [(3, .inr (.inr (.inl q3.1))), (0, .inr (.inr (.inl x0))), (1, .inl x1), (2, .inl x2)]) (st' := [.inl (-1)]) rfl ?_
      have h := Option.some.inj h
      subst h
      exact hR _ _ (jat ok_X5_row 11 (pc := 20) (i := .ireturn) (n := 1) rfl rfl)
theorem c_X5_row (l : Launch) (g : GX) (d : Nat) {x0 : Option Nat} {x1 : Int32} {x2 : Int32} {ah : AH} {q : Int32 × AH} (h : f_X5_row x0 x1 x2 ah = some q) : jM l g (d + 3) md_X5_row [.inr (.inr (.inl x0)), .inl x1, .inl x2] ah (some (.inl q.1)) q.2 :=
  jM_of (by decide) (Nat.le_of_ble_eq_true rfl) (k_X5_row d ah q h (fun pc ls hd => J_reti hd rfl (jPV_int _) rfl (Nat.le_refl _) rfl rfl))
def f_X5_refusePlace (x0 : Option Nat) (x1 : Option Nat) (x2 : Int32) (ah : AH) : Option (Int32 × AH) :=
  if qO ah x1 2 = true then ((f_X2_isMissing x1 ah).bind fun q1 => if q1.1 = 0 then (if qO q1.2 x1 2 = true then ((f_X2_holds x1 x2 q1.2).bind fun q4 => if q4.1 = 0 then (if qO q4.2 x0 5 = true then ((f_X5_find x0 2 q4.2).bind fun q7 => some (q7.1, q7.2)) else none) else (some (0, q4.2))) else none) else (if qO q1.2 x0 5 = true then ((f_X5_find x0 1 q1.2).bind fun q10 => some (q10.1, q10.2)) else none)) else none
set_option maxRecDepth 100000 in
set_option maxHeartbeats 4000000 in
theorem k_X5_refusePlace {l : Launch} {g : GX} (d : Nat) {Q : jQ} {x0 : Option Nat} {x1 : Option Nat} {x2 : Int32} (ah : AH) (out : Int32 × AH) (h : f_X5_refusePlace x0 x1 x2 ah = some out) (hR : jRetI l g md_X5_refusePlace (jRm (d + 1) md_X5_refusePlace) Q (0, 0) out.1 out.2) : J l g md_X5_refusePlace (jRm (d + 1) md_X5_refusePlace) Q 0 [(0, .inr (.inr (.inl x0))), (1, .inr (.inr (.inl x1))), (2, .inl x2)] [] ah (0, 0) := by
  unfold f_X5_refusePlace at h
  refine J_seg ok_X5_refusePlace 0 1 (pc' := 1) (ls' := [(0, .inr (.inr (.inl x0))), (1, .inr (.inr (.inl x1))), (2, .inl x2)]) (st' := [.inr (.inr (.inl x1))]) rfl ?_
  by_cases c3 : qO ah x1 2 = true
  case neg => exact absurd ((if_neg c3).symm.trans h) (by simp)
  have h := (if_pos c3).symm.trans h
  obtain ⟨q1, h2, h⟩ := Option.bind_eq_some_iff.mp h
  refine J_callV (md' := md_X2_isMissing) (As := []) (st := []) (cs' := (0, 0)) (st' := [.inl q1.1]) (jat ok_X5_refusePlace 1 (pc := 1) (i := .invokevirtual 97) (n := 3) rfl rfl) ml_RX5_97 yv_X2_isMissing c3 (c_X2_isMissing l g (d + 0) h2) (jRo_of (by decide)) (Nat.le_of_ble_eq_true rfl) ⟨Nat.le_of_ble_eq_true rfl, Nat.le_of_ble_eq_true rfl⟩ rfl rfl rfl ?_
  refine J_eq0 (jat ok_X5_refusePlace 2 (pc := 4) (i := .ifCond .eq 9) (n := 3) rfl rfl) (tgt := 13) (by decide) (fun c => ?_) (fun c => ?_)
  · have h := (if_pos c).symm.trans h
    refine J_seg ok_X5_refusePlace 7 2 (pc' := 15) (ls' := [(0, .inr (.inr (.inl x0))), (1, .inr (.inr (.inl x1))), (2, .inl x2)]) (st' := [.inl x2, .inr (.inr (.inl x1))]) rfl ?_
    by_cases c6 : qO q1.2 x1 2 = true
    case neg => exact absurd ((if_neg c6).symm.trans h) (by simp)
    have h := (if_pos c6).symm.trans h
    obtain ⟨q4, h5, h⟩ := Option.bind_eq_some_iff.mp h
    refine J_callV (md' := md_X2_holds) (As := [.inl x2]) (st := []) (cs' := (0, 0)) (st' := [.inl q4.1]) (jat ok_X5_refusePlace 9 (pc := 15) (i := .invokevirtual 315) (n := 3) rfl rfl) ml_RX5_315 yv_X2_holds c6 (c_X2_holds l g (d + 0) h5) (jRo_of (by decide)) (Nat.le_of_ble_eq_true rfl) ⟨Nat.le_of_ble_eq_true rfl, Nat.le_of_ble_eq_true rfl⟩ rfl rfl rfl ?_
    refine J_eq0 (jat ok_X5_refusePlace 10 (pc := 18) (i := .ifCond .eq 7) (n := 3) rfl rfl) (tgt := 25) (by decide) (fun c => ?_) (fun c => ?_)
    · have h := (if_pos c).symm.trans h
      refine J_seg ok_X5_refusePlace 13 2 (pc' := 27) (ls' := [(0, .inr (.inr (.inl x0))), (1, .inr (.inr (.inl x1))), (2, .inl x2)]) (st' := [.inl 2, .inr (.inr (.inl x0))]) rfl ?_
      by_cases c9 : qO q4.2 x0 5 = true
      case neg => exact absurd ((if_neg c9).symm.trans h) (by simp)
      have h := (if_pos c9).symm.trans h
      obtain ⟨q7, h8, h⟩ := Option.bind_eq_some_iff.mp h
      refine J_callV (md' := md_X5_find) (As := [.inl 2]) (st := []) (cs' := (0, 0)) (st' := [.inl q7.1]) (jat ok_X5_refusePlace 15 (pc := 27) (i := .invokevirtual 75) (n := 3) rfl rfl) ml_RX5_75 yv_X5_find c9 (c_X5_find l g (d + 0) h8) (jRo_of (by decide)) (Nat.le_of_ble_eq_true rfl) ⟨Nat.le_of_ble_eq_true rfl, Nat.le_of_ble_eq_true rfl⟩ rfl rfl rfl ?_
      have h := Option.some.inj h
      subst h
      exact hR _ _ (jat ok_X5_refusePlace 16 (pc := 30) (i := .ireturn) (n := 1) rfl rfl)
    · have h := (if_neg c).symm.trans h
      refine J_seg ok_X5_refusePlace 11 2 (pc' := 30) (ls' := [(0, .inr (.inr (.inl x0))), (1, .inr (.inr (.inl x1))), (2, .inl x2)]) (st' := [.inl 0]) rfl ?_
      have h := Option.some.inj h
      subst h
      exact hR _ _ (jat ok_X5_refusePlace 16 (pc := 30) (i := .ireturn) (n := 1) rfl rfl)
  · have h := (if_neg c).symm.trans h
    refine J_seg ok_X5_refusePlace 3 2 (pc' := 9) (ls' := [(0, .inr (.inr (.inl x0))), (1, .inr (.inr (.inl x1))), (2, .inl x2)]) (st' := [.inl 1, .inr (.inr (.inl x0))]) rfl ?_
    by_cases c12 : qO q1.2 x0 5 = true
    case neg => exact absurd ((if_neg c12).symm.trans h) (by simp)
    have h := (if_pos c12).symm.trans h
    obtain ⟨q10, h11, h⟩ := Option.bind_eq_some_iff.mp h
    refine J_callV (md' := md_X5_find) (As := [.inl 1]) (st := []) (cs' := (0, 0)) (st' := [.inl q10.1]) (jat ok_X5_refusePlace 5 (pc := 9) (i := .invokevirtual 75) (n := 3) rfl rfl) ml_RX5_75 yv_X5_find c12 (c_X5_find l g (d + 0) h11) (jRo_of (by decide)) (Nat.le_of_ble_eq_true rfl) ⟨Nat.le_of_ble_eq_true rfl, Nat.le_of_ble_eq_true rfl⟩ rfl rfl rfl ?_
    have h := Option.some.inj h
    subst h
    exact hR _ _ (jat ok_X5_refusePlace 6 (pc := 12) (i := .ireturn) (n := 1) rfl rfl)
theorem c_X5_refusePlace (l : Launch) (g : GX) (d : Nat) {x0 : Option Nat} {x1 : Option Nat} {x2 : Int32} {ah : AH} {q : Int32 × AH} (h : f_X5_refusePlace x0 x1 x2 ah = some q) : jM l g (d + 1) md_X5_refusePlace [.inr (.inr (.inl x0)), .inr (.inr (.inl x1)), .inl x2] ah (some (.inl q.1)) q.2 :=
  jM_of (by decide) (Nat.le_of_ble_eq_true rfl) (k_X5_refusePlace d ah q h (fun pc ls hd => J_reti hd rfl (jPV_int _) rfl (Nat.le_refl _) rfl rfl))
def f_X5_lay (x0 : Option Nat) (x1 : Int32) (x2 : Int32) (x3 : Int32) (ah : AH) : Option (Int32 × AH) :=
  (gR ah x0 5 0).bind fun v1 => (f_X5_lineAt v1 x1 ah).bind fun q3 => if q3.1 = none then (some ((-1), q3.2)) else (if qO q3.2 x0 5 = true then ((f_X5_refusePlace x0 q3.1 x2 q3.2).bind fun q5 => if q5.1 = 0 then (if qO q5.2 q3.1 2 = true then ((f_X2_get q3.1 x2 q5.2).bind fun q8 => (sF q8.2 x0 5 11 (.inl q8.1)).bind fun a11 => if qO a11 q3.1 2 = true then ((f_X2_set q3.1 x2 x3 a11).bind fun q13 => some (1, q13.2)) else none) else none) else (some (q5.1, q5.2))) else none)
set_option maxRecDepth 100000 in
set_option maxHeartbeats 4000000 in
theorem k_X5_lay {l : Launch} {g : GX} (d : Nat) {Q : jQ} {x0 : Option Nat} {x1 : Int32} {x2 : Int32} {x3 : Int32} (ah : AH) (out : Int32 × AH) (h : f_X5_lay x0 x1 x2 x3 ah = some out) (hR : jRetI l g md_X5_lay (jRm (d + 2) md_X5_lay) Q (0, 0) out.1 out.2) : J l g md_X5_lay (jRm (d + 2) md_X5_lay) Q 0 [(0, .inr (.inr (.inl x0))), (1, .inl x1), (2, .inl x2), (3, .inl x3)] [] ah (0, 0) := by
  unfold f_X5_lay at h
  refine J_seg ok_X5_lay 0 1 (pc' := 1) (ls' := [(0, .inr (.inr (.inl x0))), (1, .inl x1), (2, .inl x2), (3, .inl x3)]) (st' := [.inr (.inr (.inl x0))]) rfl ?_
  obtain ⟨v1, h2, h⟩ := Option.bind_eq_some_iff.mp h
  refine J_getR (jat ok_X5_lay 1 (pc := 1) (i := .getfield 11) (n := 3) rfl rfl) fl_RX5_11 h2 ?_
  refine J_seg ok_X5_lay 2 1 (pc' := 5) (ls' := [(0, .inr (.inr (.inl x0))), (1, .inl x1), (2, .inl x2), (3, .inl x3)]) (st' := [.inl x1, .inr (.inr (.inl v1))]) rfl ?_
  obtain ⟨q3, h4, h⟩ := Option.bind_eq_some_iff.mp h
  refine J_callS (md' := md_X5_lineAt) (As := [.inr (.inr (.inl v1)), .inl x1]) (st := []) (cs' := (0, 0)) (st' := [.inr (.inr (.inl q3.1))]) (jat ok_X5_lay 3 (pc := 5) (i := .invokestatic 71) (n := 3) rfl rfl) (Or.inl ml_RX5_71) ys_X5_lineAt (c_X5_lineAt l g (d + 1) h4) (jRo_of (by decide)) (Nat.le_of_ble_eq_true rfl) ⟨Nat.le_of_ble_eq_true rfl, Nat.le_of_ble_eq_true rfl⟩ rfl rfl rfl ?_
  refine J_seg ok_X5_lay 4 2 (pc' := 12) (ls' := [(4, .inr (.inr (.inl q3.1))), (0, .inr (.inr (.inl x0))), (1, .inl x1), (2, .inl x2), (3, .inl x3)]) (st' := [.inr (.inr (.inl q3.1))]) rfl ?_
  refine J_nonnull (jat ok_X5_lay 6 (pc := 12) (i := .ifnonnull 5) (n := 3) rfl rfl) (tgt := 17) (by decide) (fun c => ?_) (fun c => ?_)
  · have h := (if_neg c).symm.trans h
    refine J_seg ok_X5_lay 9 3 (pc' := 21) (ls' := [(4, .inr (.inr (.inl q3.1))), (0, .inr (.inr (.inl x0))), (1, .inl x1), (2, .inl x2), (3, .inl x3)]) (st' := [.inl x2, .inr (.inr (.inl q3.1)), .inr (.inr (.inl x0))]) rfl ?_
    by_cases c7 : qO q3.2 x0 5 = true
    case neg => exact absurd ((if_neg c7).symm.trans h) (by simp)
    have h := (if_pos c7).symm.trans h
    obtain ⟨q5, h6, h⟩ := Option.bind_eq_some_iff.mp h
    refine J_callV (md' := md_X5_refusePlace) (As := [.inr (.inr (.inl q3.1)), .inl x2]) (st := []) (cs' := (0, 0)) (st' := [.inl q5.1]) (jat ok_X5_lay 12 (pc := 21) (i := .invokevirtual 83) (n := 3) rfl rfl) ml_RX5_83 yv_X5_refusePlace c7 (c_X5_refusePlace l g (d + 0) h6) (jRo_of (by decide)) (Nat.le_of_ble_eq_true rfl) ⟨Nat.le_of_ble_eq_true rfl, Nat.le_of_ble_eq_true rfl⟩ rfl rfl rfl ?_
    refine J_seg ok_X5_lay 13 2 (pc' := 28) (ls' := [(5, .inl q5.1), (4, .inr (.inr (.inl q3.1))), (0, .inr (.inr (.inl x0))), (1, .inl x1), (2, .inl x2), (3, .inl x3)]) (st' := [.inl q5.1]) rfl ?_
    refine J_eq0 (jat ok_X5_lay 15 (pc := 28) (i := .ifCond .eq 6) (n := 3) rfl rfl) (tgt := 34) (by decide) (fun c => ?_) (fun c => ?_)
    · have h := (if_pos c).symm.trans h
      refine J_seg ok_X5_lay 18 3 (pc' := 38) (ls' := [(5, .inl q5.1), (4, .inr (.inr (.inl q3.1))), (0, .inr (.inr (.inl x0))), (1, .inl x1), (2, .inl x2), (3, .inl x3)]) (st' := [.inl x2, .inr (.inr (.inl q3.1)), .inr (.inr (.inl x0))]) rfl ?_
      by_cases c10 : qO q5.2 q3.1 2 = true
      case neg => exact absurd ((if_neg c10).symm.trans h) (by simp)
      have h := (if_pos c10).symm.trans h
      obtain ⟨q8, h9, h⟩ := Option.bind_eq_some_iff.mp h
      refine J_callV (md' := md_X2_get) (As := [.inl x2]) (st := [.inr (.inr (.inl x0))]) (cs' := (0, 0)) (st' := [.inl q8.1, .inr (.inr (.inl x0))]) (jat ok_X5_lay 21 (pc := 38) (i := .invokevirtual 87) (n := 3) rfl rfl) ml_RX5_87 yv_X2_get c10 (c_X2_get l g (d + 0) h9) (jRo_of (by decide)) (Nat.le_of_ble_eq_true rfl) ⟨Nat.le_of_ble_eq_true rfl, Nat.le_of_ble_eq_true rfl⟩ rfl rfl rfl ?_
      obtain ⟨a11, h12, h⟩ := Option.bind_eq_some_iff.mp h
      refine J_put (jat ok_X5_lay 22 (pc := 41) (i := .putfield 90) (n := 3) rfl rfl) (fp_RX5_90 _) (jPV_int _) h12 ?_
      refine J_seg ok_X5_lay 23 3 (pc' := 48) (ls' := [(5, .inl q5.1), (4, .inr (.inr (.inl q3.1))), (0, .inr (.inr (.inl x0))), (1, .inl x1), (2, .inl x2), (3, .inl x3)]) (st' := [.inl x3, .inl x2, .inr (.inr (.inl q3.1))]) rfl ?_
      by_cases c15 : qO a11 q3.1 2 = true
      case neg => exact absurd ((if_neg c15).symm.trans h) (by simp)
      have h := (if_pos c15).symm.trans h
      obtain ⟨q13, h14, h⟩ := Option.bind_eq_some_iff.mp h
      refine J_callV (md' := md_X2_set) (As := [.inl x2, .inl x3]) (st := []) (cs' := (0, 0)) (st' := []) (jat ok_X5_lay 26 (pc := 48) (i := .invokevirtual 94) (n := 3) rfl rfl) ml_RX5_94 yv_X2_set c15 (c_X2_set l g (d + 0) h14) (jRo_of (by decide)) (Nat.le_of_ble_eq_true rfl) ⟨Nat.le_of_ble_eq_true rfl, Nat.le_of_ble_eq_true rfl⟩ rfl rfl rfl ?_
      refine J_seg ok_X5_lay 27 1 (pc' := 52) (ls' := [(5, .inl q5.1), (4, .inr (.inr (.inl q3.1))), (0, .inr (.inr (.inl x0))), (1, .inl x1), (2, .inl x2), (3, .inl x3)]) (st' := [.inl 1]) rfl ?_
      have h := Option.some.inj h
      subst h
      exact hR _ _ (jat ok_X5_lay 28 (pc := 52) (i := .ireturn) (n := 1) rfl rfl)
    · have h := (if_neg c).symm.trans h
      refine J_seg ok_X5_lay 16 1 (pc' := 33) (ls' := [(5, .inl q5.1), (4, .inr (.inr (.inl q3.1))), (0, .inr (.inr (.inl x0))), (1, .inl x1), (2, .inl x2), (3, .inl x3)]) (st' := [.inl q5.1]) rfl ?_
      have h := Option.some.inj h
      subst h
      exact hR _ _ (jat ok_X5_lay 17 (pc := 33) (i := .ireturn) (n := 1) rfl rfl)
  · have h := (if_pos c).symm.trans h
    refine J_seg ok_X5_lay 7 1 (pc' := 16) (ls' := [(4, .inr (.inr (.inl q3.1))), (0, .inr (.inr (.inl x0))), (1, .inl x1), (2, .inl x2), (3, .inl x3)]) (st' := [.inl (-1)]) rfl ?_
    have h := Option.some.inj h
    subst h
    exact hR _ _ (jat ok_X5_lay 8 (pc := 16) (i := .ireturn) (n := 1) rfl rfl)
theorem c_X5_lay (l : Launch) (g : GX) (d : Nat) {x0 : Option Nat} {x1 : Int32} {x2 : Int32} {x3 : Int32} {ah : AH} {q : Int32 × AH} (h : f_X5_lay x0 x1 x2 x3 ah = some q) : jM l g (d + 2) md_X5_lay [.inr (.inr (.inl x0)), .inl x1, .inl x2, .inl x3] ah (some (.inl q.1)) q.2 :=
  jM_of (by decide) (Nat.le_of_ble_eq_true rfl) (k_X5_lay d ah q h (fun pc ls hd => J_reti hd rfl (jPV_int _) rfl (Nat.le_refl _) rfl rfl))
def f_X5_at (x0 : Option Nat) (x1 : Int32) (x2 : Int32) (ah : AH) : Option (Int32 × AH) :=
  (gR ah x0 5 0).bind fun v1 => (f_X5_lineAt v1 x1 ah).bind fun q3 => if q3.1 = none then (some ((-1), q3.2)) else (if qO q3.2 x0 5 = true then ((f_X5_refusePlace x0 q3.1 x2 q3.2).bind fun q5 => if q5.1 = 0 then (if qO q5.2 q3.1 2 = true then ((f_X2_get q3.1 x2 q5.2).bind fun q8 => (sF q8.2 x0 5 11 (.inl q8.1)).bind fun a11 => some (1, a11)) else none) else (some (q5.1, q5.2))) else none)
set_option maxRecDepth 100000 in
set_option maxHeartbeats 4000000 in
theorem k_X5_at {l : Launch} {g : GX} (d : Nat) {Q : jQ} {x0 : Option Nat} {x1 : Int32} {x2 : Int32} (ah : AH) (out : Int32 × AH) (h : f_X5_at x0 x1 x2 ah = some out) (hR : jRetI l g md_X5_at (jRm (d + 2) md_X5_at) Q (0, 0) out.1 out.2) : J l g md_X5_at (jRm (d + 2) md_X5_at) Q 0 [(0, .inr (.inr (.inl x0))), (1, .inl x1), (2, .inl x2)] [] ah (0, 0) := by
  unfold f_X5_at at h
  refine J_seg ok_X5_at 0 1 (pc' := 1) (ls' := [(0, .inr (.inr (.inl x0))), (1, .inl x1), (2, .inl x2)]) (st' := [.inr (.inr (.inl x0))]) rfl ?_
  obtain ⟨v1, h2, h⟩ := Option.bind_eq_some_iff.mp h
  refine J_getR (jat ok_X5_at 1 (pc := 1) (i := .getfield 11) (n := 3) rfl rfl) fl_RX5_11 h2 ?_
  refine J_seg ok_X5_at 2 1 (pc' := 5) (ls' := [(0, .inr (.inr (.inl x0))), (1, .inl x1), (2, .inl x2)]) (st' := [.inl x1, .inr (.inr (.inl v1))]) rfl ?_
  obtain ⟨q3, h4, h⟩ := Option.bind_eq_some_iff.mp h
  refine J_callS (md' := md_X5_lineAt) (As := [.inr (.inr (.inl v1)), .inl x1]) (st := []) (cs' := (0, 0)) (st' := [.inr (.inr (.inl q3.1))]) (jat ok_X5_at 3 (pc := 5) (i := .invokestatic 71) (n := 3) rfl rfl) (Or.inl ml_RX5_71) ys_X5_lineAt (c_X5_lineAt l g (d + 1) h4) (jRo_of (by decide)) (Nat.le_of_ble_eq_true rfl) ⟨Nat.le_of_ble_eq_true rfl, Nat.le_of_ble_eq_true rfl⟩ rfl rfl rfl ?_
  refine J_seg ok_X5_at 4 2 (pc' := 10) (ls' := [(3, .inr (.inr (.inl q3.1))), (0, .inr (.inr (.inl x0))), (1, .inl x1), (2, .inl x2)]) (st' := [.inr (.inr (.inl q3.1))]) rfl ?_
  refine J_nonnull (jat ok_X5_at 6 (pc := 10) (i := .ifnonnull 5) (n := 3) rfl rfl) (tgt := 15) (by decide) (fun c => ?_) (fun c => ?_)
  · have h := (if_neg c).symm.trans h
    refine J_seg ok_X5_at 9 3 (pc' := 18) (ls' := [(3, .inr (.inr (.inl q3.1))), (0, .inr (.inr (.inl x0))), (1, .inl x1), (2, .inl x2)]) (st' := [.inl x2, .inr (.inr (.inl q3.1)), .inr (.inr (.inl x0))]) rfl ?_
    by_cases c7 : qO q3.2 x0 5 = true
    case neg => exact absurd ((if_neg c7).symm.trans h) (by simp)
    have h := (if_pos c7).symm.trans h
    obtain ⟨q5, h6, h⟩ := Option.bind_eq_some_iff.mp h
    refine J_callV (md' := md_X5_refusePlace) (As := [.inr (.inr (.inl q3.1)), .inl x2]) (st := []) (cs' := (0, 0)) (st' := [.inl q5.1]) (jat ok_X5_at 12 (pc := 18) (i := .invokevirtual 83) (n := 3) rfl rfl) ml_RX5_83 yv_X5_refusePlace c7 (c_X5_refusePlace l g (d + 0) h6) (jRo_of (by decide)) (Nat.le_of_ble_eq_true rfl) ⟨Nat.le_of_ble_eq_true rfl, Nat.le_of_ble_eq_true rfl⟩ rfl rfl rfl ?_
    refine J_seg ok_X5_at 13 2 (pc' := 25) (ls' := [(4, .inl q5.1), (3, .inr (.inr (.inl q3.1))), (0, .inr (.inr (.inl x0))), (1, .inl x1), (2, .inl x2)]) (st' := [.inl q5.1]) rfl ?_
    refine J_eq0 (jat ok_X5_at 15 (pc := 25) (i := .ifCond .eq 6) (n := 3) rfl rfl) (tgt := 31) (by decide) (fun c => ?_) (fun c => ?_)
    · have h := (if_pos c).symm.trans h
      refine J_seg ok_X5_at 18 3 (pc' := 34) (ls' := [(4, .inl q5.1), (3, .inr (.inr (.inl q3.1))), (0, .inr (.inr (.inl x0))), (1, .inl x1), (2, .inl x2)]) (st' := [.inl x2, .inr (.inr (.inl q3.1)), .inr (.inr (.inl x0))]) rfl ?_
      by_cases c10 : qO q5.2 q3.1 2 = true
      case neg => exact absurd ((if_neg c10).symm.trans h) (by simp)
      have h := (if_pos c10).symm.trans h
      obtain ⟨q8, h9, h⟩ := Option.bind_eq_some_iff.mp h
      refine J_callV (md' := md_X2_get) (As := [.inl x2]) (st := [.inr (.inr (.inl x0))]) (cs' := (0, 0)) (st' := [.inl q8.1, .inr (.inr (.inl x0))]) (jat ok_X5_at 21 (pc := 34) (i := .invokevirtual 87) (n := 3) rfl rfl) ml_RX5_87 yv_X2_get c10 (c_X2_get l g (d + 0) h9) (jRo_of (by decide)) (Nat.le_of_ble_eq_true rfl) ⟨Nat.le_of_ble_eq_true rfl, Nat.le_of_ble_eq_true rfl⟩ rfl rfl rfl ?_
      obtain ⟨a11, h12, h⟩ := Option.bind_eq_some_iff.mp h
      refine J_put (jat ok_X5_at 22 (pc := 37) (i := .putfield 90) (n := 3) rfl rfl) (fp_RX5_90 _) (jPV_int _) h12 ?_
      refine J_seg ok_X5_at 23 1 (pc' := 41) (ls' := [(4, .inl q5.1), (3, .inr (.inr (.inl q3.1))), (0, .inr (.inr (.inl x0))), (1, .inl x1), (2, .inl x2)]) (st' := [.inl 1]) rfl ?_
      have h := Option.some.inj h
      subst h
      exact hR _ _ (jat ok_X5_at 24 (pc := 41) (i := .ireturn) (n := 1) rfl rfl)
    · have h := (if_neg c).symm.trans h
      refine J_seg ok_X5_at 16 1 (pc' := 30) (ls' := [(4, .inl q5.1), (3, .inr (.inr (.inl q3.1))), (0, .inr (.inr (.inl x0))), (1, .inl x1), (2, .inl x2)]) (st' := [.inl q5.1]) rfl ?_
      have h := Option.some.inj h
      subst h
      exact hR _ _ (jat ok_X5_at 17 (pc := 30) (i := .ireturn) (n := 1) rfl rfl)
  · have h := (if_pos c).symm.trans h
    refine J_seg ok_X5_at 7 1 (pc' := 14) (ls' := [(3, .inr (.inr (.inl q3.1))), (0, .inr (.inr (.inl x0))), (1, .inl x1), (2, .inl x2)]) (st' := [.inl (-1)]) rfl ?_
    have h := Option.some.inj h
    subst h
    exact hR _ _ (jat ok_X5_at 8 (pc := 14) (i := .ireturn) (n := 1) rfl rfl)
theorem c_X5_at (l : Launch) (g : GX) (d : Nat) {x0 : Option Nat} {x1 : Int32} {x2 : Int32} {ah : AH} {q : Int32 × AH} (h : f_X5_at x0 x1 x2 ah = some q) : jM l g (d + 2) md_X5_at [.inr (.inr (.inl x0)), .inl x1, .inl x2] ah (some (.inl q.1)) q.2 :=
  jM_of (by decide) (Nat.le_of_ble_eq_true rfl) (k_X5_at d ah q h (fun pc ls hd => J_reti hd rfl (jPV_int _) rfl (Nat.le_refl _) rfl rfl))
def f_X5_tear (x0 : Option Nat) (x1 : Int32) (ah : AH) : Option (Int32 × AH) :=
  (gR ah x0 5 0).bind fun v1 => (f_X5_lineAt v1 x1 ah).bind fun q3 => if q3.1 = none then (some ((-1), q3.2)) else (if qO q3.2 q3.1 2 = true then ((f_X2_isMissing q3.1 q3.2).bind fun q5 => if q5.1 = 0 then (if qO q5.2 q3.1 2 = true then ((f_X2_discard q3.1 q5.2).bind fun q8 => some (1, q8.2)) else none) else (if qO q5.2 x0 5 = true then ((f_X5_find x0 1 q5.2).bind fun q11 => some (q11.1, q11.2)) else none)) else none)
set_option maxRecDepth 100000 in
set_option maxHeartbeats 4000000 in
theorem k_X5_tear {l : Launch} {g : GX} (d : Nat) {Q : jQ} {x0 : Option Nat} {x1 : Int32} (ah : AH) (out : Int32 × AH) (h : f_X5_tear x0 x1 ah = some out) (hR : jRetI l g md_X5_tear (jRm (d + 1) md_X5_tear) Q (0, 0) out.1 out.2) : J l g md_X5_tear (jRm (d + 1) md_X5_tear) Q 0 [(0, .inr (.inr (.inl x0))), (1, .inl x1)] [] ah (0, 0) := by
  unfold f_X5_tear at h
  refine J_seg ok_X5_tear 0 1 (pc' := 1) (ls' := [(0, .inr (.inr (.inl x0))), (1, .inl x1)]) (st' := [.inr (.inr (.inl x0))]) rfl ?_
  obtain ⟨v1, h2, h⟩ := Option.bind_eq_some_iff.mp h
  refine J_getR (jat ok_X5_tear 1 (pc := 1) (i := .getfield 11) (n := 3) rfl rfl) fl_RX5_11 h2 ?_
  refine J_seg ok_X5_tear 2 1 (pc' := 5) (ls' := [(0, .inr (.inr (.inl x0))), (1, .inl x1)]) (st' := [.inl x1, .inr (.inr (.inl v1))]) rfl ?_
  obtain ⟨q3, h4, h⟩ := Option.bind_eq_some_iff.mp h
  refine J_callS (md' := md_X5_lineAt) (As := [.inr (.inr (.inl v1)), .inl x1]) (st := []) (cs' := (0, 0)) (st' := [.inr (.inr (.inl q3.1))]) (jat ok_X5_tear 3 (pc := 5) (i := .invokestatic 71) (n := 3) rfl rfl) (Or.inl ml_RX5_71) ys_X5_lineAt (c_X5_lineAt l g (d + 0) h4) (jRo_of (by decide)) (Nat.le_of_ble_eq_true rfl) ⟨Nat.le_of_ble_eq_true rfl, Nat.le_of_ble_eq_true rfl⟩ rfl rfl rfl ?_
  refine J_seg ok_X5_tear 4 2 (pc' := 10) (ls' := [(2, .inr (.inr (.inl q3.1))), (0, .inr (.inr (.inl x0))), (1, .inl x1)]) (st' := [.inr (.inr (.inl q3.1))]) rfl ?_
  refine J_nonnull (jat ok_X5_tear 6 (pc := 10) (i := .ifnonnull 5) (n := 3) rfl rfl) (tgt := 15) (by decide) (fun c => ?_) (fun c => ?_)
  · have h := (if_neg c).symm.trans h
    refine J_seg ok_X5_tear 9 1 (pc' := 16) (ls' := [(2, .inr (.inr (.inl q3.1))), (0, .inr (.inr (.inl x0))), (1, .inl x1)]) (st' := [.inr (.inr (.inl q3.1))]) rfl ?_
    by_cases c7 : qO q3.2 q3.1 2 = true
    case neg => exact absurd ((if_neg c7).symm.trans h) (by simp)
    have h := (if_pos c7).symm.trans h
    obtain ⟨q5, h6, h⟩ := Option.bind_eq_some_iff.mp h
    refine J_callV (md' := md_X2_isMissing) (As := []) (st := []) (cs' := (0, 0)) (st' := [.inl q5.1]) (jat ok_X5_tear 10 (pc := 16) (i := .invokevirtual 97) (n := 3) rfl rfl) ml_RX5_97 yv_X2_isMissing c7 (c_X2_isMissing l g (d + 0) h6) (jRo_of (by decide)) (Nat.le_of_ble_eq_true rfl) ⟨Nat.le_of_ble_eq_true rfl, Nat.le_of_ble_eq_true rfl⟩ rfl rfl rfl ?_
    refine J_eq0 (jat ok_X5_tear 11 (pc := 19) (i := .ifCond .eq 9) (n := 3) rfl rfl) (tgt := 28) (by decide) (fun c => ?_) (fun c => ?_)
    · have h := (if_pos c).symm.trans h
      refine J_seg ok_X5_tear 16 1 (pc' := 29) (ls' := [(2, .inr (.inr (.inl q3.1))), (0, .inr (.inr (.inl x0))), (1, .inl x1)]) (st' := [.inr (.inr (.inl q3.1))]) rfl ?_
      by_cases c10 : qO q5.2 q3.1 2 = true
      case neg => exact absurd ((if_neg c10).symm.trans h) (by simp)
      have h := (if_pos c10).symm.trans h
      obtain ⟨q8, h9, h⟩ := Option.bind_eq_some_iff.mp h
      refine J_callV (md' := md_X2_discard) (As := []) (st := []) (cs' := (0, 0)) (st' := []) (jat ok_X5_tear 17 (pc := 29) (i := .invokevirtual 101) (n := 3) rfl rfl) ml_RX5_101 yv_X2_discard c10 (c_X2_discard l g (d + 0) h9) (jRo_of (by decide)) (Nat.le_of_ble_eq_true rfl) ⟨Nat.le_of_ble_eq_true rfl, Nat.le_of_ble_eq_true rfl⟩ rfl rfl rfl ?_
      refine J_seg ok_X5_tear 18 1 (pc' := 33) (ls' := [(2, .inr (.inr (.inl q3.1))), (0, .inr (.inr (.inl x0))), (1, .inl x1)]) (st' := [.inl 1]) rfl ?_
      have h := Option.some.inj h
      subst h
      exact hR _ _ (jat ok_X5_tear 19 (pc := 33) (i := .ireturn) (n := 1) rfl rfl)
    · have h := (if_neg c).symm.trans h
      refine J_seg ok_X5_tear 12 2 (pc' := 24) (ls' := [(2, .inr (.inr (.inl q3.1))), (0, .inr (.inr (.inl x0))), (1, .inl x1)]) (st' := [.inl 1, .inr (.inr (.inl x0))]) rfl ?_
      by_cases c13 : qO q5.2 x0 5 = true
      case neg => exact absurd ((if_neg c13).symm.trans h) (by simp)
      have h := (if_pos c13).symm.trans h
      obtain ⟨q11, h12, h⟩ := Option.bind_eq_some_iff.mp h
      refine J_callV (md' := md_X5_find) (As := [.inl 1]) (st := []) (cs' := (0, 0)) (st' := [.inl q11.1]) (jat ok_X5_tear 14 (pc := 24) (i := .invokevirtual 75) (n := 3) rfl rfl) ml_RX5_75 yv_X5_find c13 (c_X5_find l g (d + 0) h12) (jRo_of (by decide)) (Nat.le_of_ble_eq_true rfl) ⟨Nat.le_of_ble_eq_true rfl, Nat.le_of_ble_eq_true rfl⟩ rfl rfl rfl ?_
      have h := Option.some.inj h
      subst h
      exact hR _ _ (jat ok_X5_tear 15 (pc := 27) (i := .ireturn) (n := 1) rfl rfl)
  · have h := (if_pos c).symm.trans h
    refine J_seg ok_X5_tear 7 1 (pc' := 14) (ls' := [(2, .inr (.inr (.inl q3.1))), (0, .inr (.inr (.inl x0))), (1, .inl x1)]) (st' := [.inl (-1)]) rfl ?_
    have h := Option.some.inj h
    subst h
    exact hR _ _ (jat ok_X5_tear 8 (pc := 14) (i := .ireturn) (n := 1) rfl rfl)
theorem c_X5_tear (l : Launch) (g : GX) (d : Nat) {x0 : Option Nat} {x1 : Int32} {ah : AH} {q : Int32 × AH} (h : f_X5_tear x0 x1 ah = some q) : jM l g (d + 1) md_X5_tear [.inr (.inr (.inl x0)), .inl x1] ah (some (.inl q.1)) q.2 :=
  jM_of (by decide) (Nat.le_of_ble_eq_true rfl) (k_X5_tear d ah q h (fun pc ls hd => J_reti hd rfl (jPV_int _) rfl (Nat.le_refl _) rfl rfl))
def f_X5_copy_j59 (x0 : Option Nat) (ah : AH) : Option (Int32 × AH) :=
  if qO ah x0 5 = true then ((f_X5_find x0 1 ah).bind fun q12 => some (q12.1, q12.2)) else none
set_option maxRecDepth 100000 in
set_option maxHeartbeats 4000000 in
theorem k_X5_copy_j59 {l : Launch} {g : GX} (d : Nat) {Q : jQ} {x0 : Option Nat} (ah : AH) (out : Int32 × AH) (h : f_X5_copy_j59 x0 ah = some out) (hR : jRetI l g md_X5_copy (jRm (d + 3) md_X5_copy) Q (0, 0) out.1 out.2) : J l g md_X5_copy (jRm (d + 3) md_X5_copy) Q 59 [(0, .inr (.inr (.inl x0)))] [] ah (0, 0) := by
  unfold f_X5_copy_j59 at h
  refine J_seg ok_X5_copy 28 2 (pc' := 61) (ls' := [(0, .inr (.inr (.inl x0)))]) (st' := [.inl 1, .inr (.inr (.inl x0))]) rfl ?_
  by_cases c14 : qO ah x0 5 = true
  case neg => exact absurd ((if_neg c14).symm.trans h) (by simp)
  have h := (if_pos c14).symm.trans h
  obtain ⟨q12, h13, h⟩ := Option.bind_eq_some_iff.mp h
  refine J_callV (md' := md_X5_find) (As := [.inl 1]) (st := []) (cs' := (0, 0)) (st' := [.inl q12.1]) (jat ok_X5_copy 30 (pc := 61) (i := .invokevirtual 75) (n := 3) rfl rfl) ml_RX5_75 yv_X5_find c14 (c_X5_find l g (d + 2) h13) (jRo_of (by decide)) (Nat.le_of_ble_eq_true rfl) ⟨Nat.le_of_ble_eq_true rfl, Nat.le_of_ble_eq_true rfl⟩ rfl rfl rfl ?_
  have h := Option.some.inj h
  subst h
  exact hR _ _ (jat ok_X5_copy 31 (pc := 64) (i := .ireturn) (n := 1) rfl rfl)
def f_X5_copy_j88 (x0 : Option Nat) (ah : AH) : Option (Int32 × AH) :=
  if qO ah x0 5 = true then ((f_X5_find x0 2 ah).bind fun q21 => some (q21.1, q21.2)) else none
set_option maxRecDepth 100000 in
set_option maxHeartbeats 4000000 in
theorem k_X5_copy_j88 {l : Launch} {g : GX} (d : Nat) {Q : jQ} {x0 : Option Nat} (ah : AH) (out : Int32 × AH) (h : f_X5_copy_j88 x0 ah = some out) (hR : jRetI l g md_X5_copy (jRm (d + 3) md_X5_copy) Q (0, 0) out.1 out.2) : J l g md_X5_copy (jRm (d + 3) md_X5_copy) Q 88 [(0, .inr (.inr (.inl x0)))] [] ah (0, 0) := by
  unfold f_X5_copy_j88 at h
  refine J_seg ok_X5_copy 42 2 (pc' := 90) (ls' := [(0, .inr (.inr (.inl x0)))]) (st' := [.inl 2, .inr (.inr (.inl x0))]) rfl ?_
  by_cases c23 : qO ah x0 5 = true
  case neg => exact absurd ((if_neg c23).symm.trans h) (by simp)
  have h := (if_pos c23).symm.trans h
  obtain ⟨q21, h22, h⟩ := Option.bind_eq_some_iff.mp h
  refine J_callV (md' := md_X5_find) (As := [.inl 2]) (st := []) (cs' := (0, 0)) (st' := [.inl q21.1]) (jat ok_X5_copy 44 (pc := 90) (i := .invokevirtual 75) (n := 3) rfl rfl) ml_RX5_75 yv_X5_find c23 (c_X5_find l g (d + 2) h22) (jRo_of (by decide)) (Nat.le_of_ble_eq_true rfl) ⟨Nat.le_of_ble_eq_true rfl, Nat.le_of_ble_eq_true rfl⟩ rfl rfl rfl ?_
  have h := Option.some.inj h
  subst h
  exact hR _ _ (jat ok_X5_copy 45 (pc := 93) (i := .ireturn) (n := 1) rfl rfl)
def f_X5_copy (x0 : Option Nat) (x1 : Int32) (x2 : Int32) (x3 : Int32) (x4 : Int32) (x5 : Int32) (ah : AH) : Option (Int32 × AH) :=
  (gR ah x0 5 0).bind fun v1 => (f_X5_lineAt v1 x1 ah).bind fun q3 => (gR q3.2 x0 5 0).bind fun v5 => (f_X5_lineAt v5 x3 q3.2).bind fun q7 => if q3.1 = none then (some ((-1), q7.2)) else (if q7.1 = none then (some ((-1), q7.2)) else (if 0 ≤ x5 then (if qO q7.2 q3.1 2 = true then ((f_X2_isMissing q3.1 q7.2).bind fun q9 => if q9.1 = 0 then (if qO q9.2 q7.1 2 = true then ((f_X2_isMissing q7.1 q9.2).bind fun q15 => if q15.1 = 0 then (if qO q15.2 q3.1 2 = true then ((f_X2_holdsSpan q3.1 x2 x5 q15.2).bind fun q18 => if q18.1 = 0 then (f_X5_copy_j88 x0 q18.2) else (if qO q18.2 q7.1 2 = true then ((f_X2_holdsSpan q7.1 x4 x5 q18.2).bind fun q24 => if q24.1 = 0 then (f_X5_copy_j88 x0 q24.2) else (if qO q24.2 q7.1 2 = true then ((f_X2_take q7.1 q3.1 x2 x4 x5 q24.2).bind fun q27 => some (1, q27.2)) else none)) else none)) else none) else (f_X5_copy_j59 x0 q15.2)) else none) else (f_X5_copy_j59 x0 q9.2)) else none) else (if qO q7.2 x0 5 = true then ((f_X5_find x0 5 q7.2).bind fun q30 => some (q30.1, q30.2)) else none)))
set_option maxRecDepth 100000 in
set_option maxHeartbeats 4000000 in
theorem k_X5_copy {l : Launch} {g : GX} (d : Nat) {Q : jQ} {x0 : Option Nat} {x1 : Int32} {x2 : Int32} {x3 : Int32} {x4 : Int32} {x5 : Int32} (ah : AH) (out : Int32 × AH) (h : f_X5_copy x0 x1 x2 x3 x4 x5 ah = some out) (hR : jRetI l g md_X5_copy (jRm (d + 3) md_X5_copy) Q (0, 0) out.1 out.2) : J l g md_X5_copy (jRm (d + 3) md_X5_copy) Q 0 [(0, .inr (.inr (.inl x0))), (1, .inl x1), (2, .inl x2), (3, .inl x3), (4, .inl x4), (5, .inl x5)] [] ah (0, 0) := by
  unfold f_X5_copy at h
  refine J_seg ok_X5_copy 0 1 (pc' := 1) (ls' := [(0, .inr (.inr (.inl x0))), (1, .inl x1), (2, .inl x2), (3, .inl x3), (4, .inl x4), (5, .inl x5)]) (st' := [.inr (.inr (.inl x0))]) rfl ?_
  obtain ⟨v1, h2, h⟩ := Option.bind_eq_some_iff.mp h
  refine J_getR (jat ok_X5_copy 1 (pc := 1) (i := .getfield 11) (n := 3) rfl rfl) fl_RX5_11 h2 ?_
  refine J_seg ok_X5_copy 2 1 (pc' := 5) (ls' := [(0, .inr (.inr (.inl x0))), (1, .inl x1), (2, .inl x2), (3, .inl x3), (4, .inl x4), (5, .inl x5)]) (st' := [.inl x1, .inr (.inr (.inl v1))]) rfl ?_
  obtain ⟨q3, h4, h⟩ := Option.bind_eq_some_iff.mp h
  refine J_callS (md' := md_X5_lineAt) (As := [.inr (.inr (.inl v1)), .inl x1]) (st := []) (cs' := (0, 0)) (st' := [.inr (.inr (.inl q3.1))]) (jat ok_X5_copy 3 (pc := 5) (i := .invokestatic 71) (n := 3) rfl rfl) (Or.inl ml_RX5_71) ys_X5_lineAt (c_X5_lineAt l g (d + 2) h4) (jRo_of (by decide)) (Nat.le_of_ble_eq_true rfl) ⟨Nat.le_of_ble_eq_true rfl, Nat.le_of_ble_eq_true rfl⟩ rfl rfl rfl ?_
  refine J_seg ok_X5_copy 4 2 (pc' := 11) (ls' := [(6, .inr (.inr (.inl q3.1))), (0, .inr (.inr (.inl x0))), (1, .inl x1), (2, .inl x2), (3, .inl x3), (4, .inl x4), (5, .inl x5)]) (st' := [.inr (.inr (.inl x0))]) rfl ?_
  obtain ⟨v5, h6, h⟩ := Option.bind_eq_some_iff.mp h
  refine J_getR (jat ok_X5_copy 6 (pc := 11) (i := .getfield 11) (n := 3) rfl rfl) fl_RX5_11 h6 ?_
  refine J_seg ok_X5_copy 7 1 (pc' := 15) (ls' := [(6, .inr (.inr (.inl q3.1))), (0, .inr (.inr (.inl x0))), (1, .inl x1), (2, .inl x2), (3, .inl x3), (4, .inl x4), (5, .inl x5)]) (st' := [.inl x3, .inr (.inr (.inl v5))]) rfl ?_
  obtain ⟨q7, h8, h⟩ := Option.bind_eq_some_iff.mp h
  refine J_callS (md' := md_X5_lineAt) (As := [.inr (.inr (.inl v5)), .inl x3]) (st := []) (cs' := (0, 0)) (st' := [.inr (.inr (.inl q7.1))]) (jat ok_X5_copy 8 (pc := 15) (i := .invokestatic 71) (n := 3) rfl rfl) (Or.inl ml_RX5_71) ys_X5_lineAt (c_X5_lineAt l g (d + 2) h8) (jRo_of (by decide)) (Nat.le_of_ble_eq_true rfl) ⟨Nat.le_of_ble_eq_true rfl, Nat.le_of_ble_eq_true rfl⟩ rfl rfl rfl ?_
  refine J_seg ok_X5_copy 9 2 (pc' := 22) (ls' := [(7, .inr (.inr (.inl q7.1))), (6, .inr (.inr (.inl q3.1))), (0, .inr (.inr (.inl x0))), (1, .inl x1), (2, .inl x2), (3, .inl x3), (4, .inl x4), (5, .inl x5)]) (st' := [.inr (.inr (.inl q3.1))]) rfl ?_
  refine J_null (jat ok_X5_copy 11 (pc := 22) (i := .ifnull 8) (n := 3) rfl rfl) (tgt := 30) (by decide) (fun c => ?_) (fun c => ?_)
  · have h := (if_pos c).symm.trans h
    refine J_seg ok_X5_copy 14 1 (pc' := 31) (ls' := [(7, .inr (.inr (.inl q7.1))), (6, .inr (.inr (.inl q3.1))), (0, .inr (.inr (.inl x0))), (1, .inl x1), (2, .inl x2), (3, .inl x3), (4, .inl x4), (5, .inl x5)]) (st' := [.inl (-1)]) rfl ?_
    have h := Option.some.inj h
    subst h
    exact hR _ _ (jat ok_X5_copy 15 (pc := 31) (i := .ireturn) (n := 1) rfl rfl)
  · have h := (if_neg c).symm.trans h
    refine J_seg ok_X5_copy 12 1 (pc' := 27) (ls' := [(7, .inr (.inr (.inl q7.1))), (6, .inr (.inr (.inl q3.1))), (0, .inr (.inr (.inl x0))), (1, .inl x1), (2, .inl x2), (3, .inl x3), (4, .inl x4), (5, .inl x5)]) (st' := [.inr (.inr (.inl q7.1))]) rfl ?_
    refine J_nonnull (jat ok_X5_copy 13 (pc := 27) (i := .ifnonnull 5) (n := 3) rfl rfl) (tgt := 32) (by decide) (fun c => ?_) (fun c => ?_)
    · have h := (if_neg c).symm.trans h
      refine J_seg ok_X5_copy 16 1 (pc' := 34) (ls' := [(7, .inr (.inr (.inl q7.1))), (6, .inr (.inr (.inl q3.1))), (0, .inr (.inr (.inl x0))), (1, .inl x1), (2, .inl x2), (3, .inl x3), (4, .inl x4), (5, .inl x5)]) (st' := [.inl x5]) rfl ?_
      refine J_ge0 (jat ok_X5_copy 17 (pc := 34) (i := .ifCond .ge 9) (n := 3) rfl rfl) (tgt := 43) (by decide) (fun c => ?_) (fun c => ?_)
      · have h := (if_pos c).symm.trans h
        refine J_seg ok_X5_copy 22 1 (pc' := 45) (ls' := [(7, .inr (.inr (.inl q7.1))), (6, .inr (.inr (.inl q3.1))), (0, .inr (.inr (.inl x0))), (1, .inl x1), (2, .inl x2), (3, .inl x3), (4, .inl x4), (5, .inl x5)]) (st' := [.inr (.inr (.inl q3.1))]) rfl ?_
        by_cases c11 : qO q7.2 q3.1 2 = true
        case neg => exact absurd ((if_neg c11).symm.trans h) (by simp)
        have h := (if_pos c11).symm.trans h
        obtain ⟨q9, h10, h⟩ := Option.bind_eq_some_iff.mp h
        refine J_callV (md' := md_X2_isMissing) (As := []) (st := []) (cs' := (0, 0)) (st' := [.inl q9.1]) (jat ok_X5_copy 23 (pc := 45) (i := .invokevirtual 97) (n := 3) rfl rfl) ml_RX5_97 yv_X2_isMissing c11 (c_X2_isMissing l g (d + 2) h10) (jRo_of (by decide)) (Nat.le_of_ble_eq_true rfl) ⟨Nat.le_of_ble_eq_true rfl, Nat.le_of_ble_eq_true rfl⟩ rfl rfl rfl ?_
        refine J_ne0 (jat ok_X5_copy 24 (pc := 48) (i := .ifCond .ne 11) (n := 3) rfl rfl) (tgt := 59) (by decide) (fun c => ?_) (fun c => ?_)
        · have h := (if_neg c).symm.trans h
          refine J_sub (ls' := [(0, .inr (.inr (.inl x0)))]) [2] rfl ?_
          exact k_X5_copy_j59 d _ _ h hR
        · have h := (if_pos c).symm.trans h
          refine J_seg ok_X5_copy 25 1 (pc' := 53) (ls' := [(7, .inr (.inr (.inl q7.1))), (6, .inr (.inr (.inl q3.1))), (0, .inr (.inr (.inl x0))), (1, .inl x1), (2, .inl x2), (3, .inl x3), (4, .inl x4), (5, .inl x5)]) (st' := [.inr (.inr (.inl q7.1))]) rfl ?_
          by_cases c17 : qO q9.2 q7.1 2 = true
          case neg => exact absurd ((if_neg c17).symm.trans h) (by simp)
          have h := (if_pos c17).symm.trans h
          obtain ⟨q15, h16, h⟩ := Option.bind_eq_some_iff.mp h
          refine J_callV (md' := md_X2_isMissing) (As := []) (st := []) (cs' := (0, 0)) (st' := [.inl q15.1]) (jat ok_X5_copy 26 (pc := 53) (i := .invokevirtual 97) (n := 3) rfl rfl) ml_RX5_97 yv_X2_isMissing c17 (c_X2_isMissing l g (d + 2) h16) (jRo_of (by decide)) (Nat.le_of_ble_eq_true rfl) ⟨Nat.le_of_ble_eq_true rfl, Nat.le_of_ble_eq_true rfl⟩ rfl rfl rfl ?_
          refine J_eq0 (jat ok_X5_copy 27 (pc := 56) (i := .ifCond .eq 9) (n := 3) rfl rfl) (tgt := 65) (by decide) (fun c => ?_) (fun c => ?_)
          · have h := (if_pos c).symm.trans h
            refine J_seg ok_X5_copy 32 3 (pc' := 70) (ls' := [(7, .inr (.inr (.inl q7.1))), (6, .inr (.inr (.inl q3.1))), (0, .inr (.inr (.inl x0))), (1, .inl x1), (2, .inl x2), (3, .inl x3), (4, .inl x4), (5, .inl x5)]) (st' := [.inl x5, .inl x2, .inr (.inr (.inl q3.1))]) rfl ?_
            by_cases c20 : qO q15.2 q3.1 2 = true
            case neg => exact absurd ((if_neg c20).symm.trans h) (by simp)
            have h := (if_pos c20).symm.trans h
            obtain ⟨q18, h19, h⟩ := Option.bind_eq_some_iff.mp h
            refine J_callV (md' := md_X2_holdsSpan) (As := [.inl x2, .inl x5]) (st := []) (cs' := (0, 0)) (st' := [.inl q18.1]) (jat ok_X5_copy 35 (pc := 70) (i := .invokevirtual 104) (n := 3) rfl rfl) ml_RX5_104 yv_X2_holdsSpan c20 (c_X2_holdsSpan l g (d + 1) h19) (jRo_of (by decide)) (Nat.le_of_ble_eq_true rfl) ⟨Nat.le_of_ble_eq_true rfl, Nat.le_of_ble_eq_true rfl⟩ rfl rfl rfl ?_
            refine J_eq0 (jat ok_X5_copy 36 (pc := 73) (i := .ifCond .eq 15) (n := 3) rfl rfl) (tgt := 88) (by decide) (fun c => ?_) (fun c => ?_)
            · have h := (if_pos c).symm.trans h
              refine J_sub (ls' := [(0, .inr (.inr (.inl x0)))]) [2] rfl ?_
              exact k_X5_copy_j88 d _ _ h hR
            · have h := (if_neg c).symm.trans h
              refine J_seg ok_X5_copy 37 3 (pc' := 82) (ls' := [(7, .inr (.inr (.inl q7.1))), (6, .inr (.inr (.inl q3.1))), (0, .inr (.inr (.inl x0))), (1, .inl x1), (2, .inl x2), (3, .inl x3), (4, .inl x4), (5, .inl x5)]) (st' := [.inl x5, .inl x4, .inr (.inr (.inl q7.1))]) rfl ?_
              by_cases c26 : qO q18.2 q7.1 2 = true
              case neg => exact absurd ((if_neg c26).symm.trans h) (by simp)
              have h := (if_pos c26).symm.trans h
              obtain ⟨q24, h25, h⟩ := Option.bind_eq_some_iff.mp h
              refine J_callV (md' := md_X2_holdsSpan) (As := [.inl x4, .inl x5]) (st := []) (cs' := (0, 0)) (st' := [.inl q24.1]) (jat ok_X5_copy 40 (pc := 82) (i := .invokevirtual 104) (n := 3) rfl rfl) ml_RX5_104 yv_X2_holdsSpan c26 (c_X2_holdsSpan l g (d + 1) h25) (jRo_of (by decide)) (Nat.le_of_ble_eq_true rfl) ⟨Nat.le_of_ble_eq_true rfl, Nat.le_of_ble_eq_true rfl⟩ rfl rfl rfl ?_
              refine J_ne0 (jat ok_X5_copy 41 (pc := 85) (i := .ifCond .ne 9) (n := 3) rfl rfl) (tgt := 94) (by decide) (fun c => ?_) (fun c => ?_)
              · have h := (if_neg c).symm.trans h
                refine J_seg ok_X5_copy 46 5 (pc' := 103) (ls' := [(7, .inr (.inr (.inl q7.1))), (6, .inr (.inr (.inl q3.1))), (0, .inr (.inr (.inl x0))), (1, .inl x1), (2, .inl x2), (3, .inl x3), (4, .inl x4), (5, .inl x5)]) (st' := [.inl x5, .inl x4, .inl x2, .inr (.inr (.inl q3.1)), .inr (.inr (.inl q7.1))]) rfl ?_
                by_cases c29 : qO q24.2 q7.1 2 = true
                case neg => exact absurd ((if_neg c29).symm.trans h) (by simp)
                have h := (if_pos c29).symm.trans h
                obtain ⟨q27, h28, h⟩ := Option.bind_eq_some_iff.mp h
                refine J_callV (md' := md_X2_take) (As := [.inr (.inr (.inl q3.1)), .inl x2, .inl x4, .inl x5]) (st := []) (cs' := (0, 0)) (st' := []) (jat ok_X5_copy 51 (pc := 103) (i := .invokevirtual 108) (n := 3) rfl rfl) ml_RX5_108 yv_X2_take c29 (c_X2_take l g (d + 0) h28) (jRo_of (by decide)) (Nat.le_of_ble_eq_true rfl) ⟨Nat.le_of_ble_eq_true rfl, Nat.le_of_ble_eq_true rfl⟩ rfl rfl rfl ?_
                refine J_seg ok_X5_copy 52 1 (pc' := 107) (ls' := [(7, .inr (.inr (.inl q7.1))), (6, .inr (.inr (.inl q3.1))), (0, .inr (.inr (.inl x0))), (1, .inl x1), (2, .inl x2), (3, .inl x3), (4, .inl x4), (5, .inl x5)]) (st' := [.inl 1]) rfl ?_
                have h := Option.some.inj h
                subst h
                exact hR _ _ (jat ok_X5_copy 53 (pc := 107) (i := .ireturn) (n := 1) rfl rfl)
              · have h := (if_pos c).symm.trans h
                refine J_sub (ls' := [(0, .inr (.inr (.inl x0)))]) [2] rfl ?_
                exact k_X5_copy_j88 d _ _ h hR
          · have h := (if_neg c).symm.trans h
            refine J_sub (ls' := [(0, .inr (.inr (.inl x0)))]) [2] rfl ?_
            exact k_X5_copy_j59 d _ _ h hR
      · have h := (if_neg c).symm.trans h
        refine J_seg ok_X5_copy 18 2 (pc' := 39) (ls' := [(7, .inr (.inr (.inl q7.1))), (6, .inr (.inr (.inl q3.1))), (0, .inr (.inr (.inl x0))), (1, .inl x1), (2, .inl x2), (3, .inl x3), (4, .inl x4), (5, .inl x5)]) (st' := [.inl 5, .inr (.inr (.inl x0))]) rfl ?_
        by_cases c32 : qO q7.2 x0 5 = true
        case neg => exact absurd ((if_neg c32).symm.trans h) (by simp)
        have h := (if_pos c32).symm.trans h
        obtain ⟨q30, h31, h⟩ := Option.bind_eq_some_iff.mp h
        refine J_callV (md' := md_X5_find) (As := [.inl 5]) (st := []) (cs' := (0, 0)) (st' := [.inl q30.1]) (jat ok_X5_copy 20 (pc := 39) (i := .invokevirtual 75) (n := 3) rfl rfl) ml_RX5_75 yv_X5_find c32 (c_X5_find l g (d + 2) h31) (jRo_of (by decide)) (Nat.le_of_ble_eq_true rfl) ⟨Nat.le_of_ble_eq_true rfl, Nat.le_of_ble_eq_true rfl⟩ rfl rfl rfl ?_
        have h := Option.some.inj h
        subst h
        exact hR _ _ (jat ok_X5_copy 21 (pc := 42) (i := .ireturn) (n := 1) rfl rfl)
    · have h := (if_pos c).symm.trans h
      refine J_seg ok_X5_copy 14 1 (pc' := 31) (ls' := [(7, .inr (.inr (.inl q7.1))), (6, .inr (.inr (.inl q3.1))), (0, .inr (.inr (.inl x0))), (1, .inl x1), (2, .inl x2), (3, .inl x3), (4, .inl x4), (5, .inl x5)]) (st' := [.inl (-1)]) rfl ?_
      have h := Option.some.inj h
      subst h
      exact hR _ _ (jat ok_X5_copy 15 (pc := 31) (i := .ireturn) (n := 1) rfl rfl)
theorem c_X5_copy (l : Launch) (g : GX) (d : Nat) {x0 : Option Nat} {x1 : Int32} {x2 : Int32} {x3 : Int32} {x4 : Int32} {x5 : Int32} {ah : AH} {q : Int32 × AH} (h : f_X5_copy x0 x1 x2 x3 x4 x5 ah = some q) : jM l g (d + 3) md_X5_copy [.inr (.inr (.inl x0)), .inl x1, .inl x2, .inl x3, .inl x4, .inl x5] ah (some (.inl q.1)) q.2 :=
  jM_of (by decide) (Nat.le_of_ble_eq_true rfl) (k_X5_copy d ah q h (fun pc ls hd => J_reti hd rfl (jPV_int _) rfl (Nat.le_refl _) rfl rfl))
def f_X5_mean (x0 : Option Nat) (x1 : Int32) (ah : AH) : Option (Int32 × AH) :=
  (gR ah x0 5 0).bind fun v1 => (f_X5_lineAt v1 x1 ah).bind fun q3 => if q3.1 = none then (some ((-1), q3.2)) else (if qO q3.2 q3.1 2 = true then ((f_X2_isMissing q3.1 q3.2).bind fun q5 => if q5.1 = 0 then ((gI q5.2 q3.1 2 1).bind fun v8 => if v8 = 0 then (if qO q5.2 x0 5 = true then ((f_X5_find x0 4 q5.2).bind fun q15 => some (q15.1, q15.2)) else none) else (if qO q5.2 q3.1 2 = true then ((f_X2_meanCut q3.1 q5.2).bind fun q10 => (sF q10.2 x0 5 11 (.inl q10.1)).bind fun a13 => some (1, a13)) else none)) else (if qO q5.2 x0 5 = true then ((f_X5_find x0 1 q5.2).bind fun q18 => some (q18.1, q18.2)) else none)) else none)
set_option maxRecDepth 100000 in
set_option maxHeartbeats 4000000 in
theorem k_X5_mean {l : Launch} {g : GX} (d : Nat) {Q : jQ} {x0 : Option Nat} {x1 : Int32} (ah : AH) (out : Int32 × AH) (h : f_X5_mean x0 x1 ah = some out) (hR : jRetI l g md_X5_mean (jRm (d + 3) md_X5_mean) Q (0, 0) out.1 out.2) : J l g md_X5_mean (jRm (d + 3) md_X5_mean) Q 0 [(0, .inr (.inr (.inl x0))), (1, .inl x1)] [] ah (0, 0) := by
  unfold f_X5_mean at h
  refine J_seg ok_X5_mean 0 1 (pc' := 1) (ls' := [(0, .inr (.inr (.inl x0))), (1, .inl x1)]) (st' := [.inr (.inr (.inl x0))]) rfl ?_
  obtain ⟨v1, h2, h⟩ := Option.bind_eq_some_iff.mp h
  refine J_getR (jat ok_X5_mean 1 (pc := 1) (i := .getfield 11) (n := 3) rfl rfl) fl_RX5_11 h2 ?_
  refine J_seg ok_X5_mean 2 1 (pc' := 5) (ls' := [(0, .inr (.inr (.inl x0))), (1, .inl x1)]) (st' := [.inl x1, .inr (.inr (.inl v1))]) rfl ?_
  obtain ⟨q3, h4, h⟩ := Option.bind_eq_some_iff.mp h
  refine J_callS (md' := md_X5_lineAt) (As := [.inr (.inr (.inl v1)), .inl x1]) (st := []) (cs' := (0, 0)) (st' := [.inr (.inr (.inl q3.1))]) (jat ok_X5_mean 3 (pc := 5) (i := .invokestatic 71) (n := 3) rfl rfl) (Or.inl ml_RX5_71) ys_X5_lineAt (c_X5_lineAt l g (d + 2) h4) (jRo_of (by decide)) (Nat.le_of_ble_eq_true rfl) ⟨Nat.le_of_ble_eq_true rfl, Nat.le_of_ble_eq_true rfl⟩ rfl rfl rfl ?_
  refine J_seg ok_X5_mean 4 2 (pc' := 10) (ls' := [(2, .inr (.inr (.inl q3.1))), (0, .inr (.inr (.inl x0))), (1, .inl x1)]) (st' := [.inr (.inr (.inl q3.1))]) rfl ?_
  refine J_nonnull (jat ok_X5_mean 6 (pc := 10) (i := .ifnonnull 5) (n := 3) rfl rfl) (tgt := 15) (by decide) (fun c => ?_) (fun c => ?_)
  · have h := (if_neg c).symm.trans h
    refine J_seg ok_X5_mean 9 1 (pc' := 16) (ls' := [(2, .inr (.inr (.inl q3.1))), (0, .inr (.inr (.inl x0))), (1, .inl x1)]) (st' := [.inr (.inr (.inl q3.1))]) rfl ?_
    by_cases c7 : qO q3.2 q3.1 2 = true
    case neg => exact absurd ((if_neg c7).symm.trans h) (by simp)
    have h := (if_pos c7).symm.trans h
    obtain ⟨q5, h6, h⟩ := Option.bind_eq_some_iff.mp h
    refine J_callV (md' := md_X2_isMissing) (As := []) (st := []) (cs' := (0, 0)) (st' := [.inl q5.1]) (jat ok_X5_mean 10 (pc := 16) (i := .invokevirtual 97) (n := 3) rfl rfl) ml_RX5_97 yv_X2_isMissing c7 (c_X2_isMissing l g (d + 2) h6) (jRo_of (by decide)) (Nat.le_of_ble_eq_true rfl) ⟨Nat.le_of_ble_eq_true rfl, Nat.le_of_ble_eq_true rfl⟩ rfl rfl rfl ?_
    refine J_eq0 (jat ok_X5_mean 11 (pc := 19) (i := .ifCond .eq 9) (n := 3) rfl rfl) (tgt := 28) (by decide) (fun c => ?_) (fun c => ?_)
    · have h := (if_pos c).symm.trans h
      refine J_seg ok_X5_mean 16 1 (pc' := 29) (ls' := [(2, .inr (.inr (.inl q3.1))), (0, .inr (.inr (.inl x0))), (1, .inl x1)]) (st' := [.inr (.inr (.inl q3.1))]) rfl ?_
      obtain ⟨v8, h9, h⟩ := Option.bind_eq_some_iff.mp h
      refine J_getI (jat ok_X5_mean 17 (pc := 29) (i := .getfield 112) (n := 3) rfl rfl) fl_RX5_112 h9 ?_
      refine J_ne0 (jat ok_X5_mean 18 (pc := 32) (i := .ifCond .ne 9) (n := 3) rfl rfl) (tgt := 41) (by decide) (fun c => ?_) (fun c => ?_)
      · have h := (if_neg c).symm.trans h
        refine J_seg ok_X5_mean 23 2 (pc' := 43) (ls' := [(2, .inr (.inr (.inl q3.1))), (0, .inr (.inr (.inl x0))), (1, .inl x1)]) (st' := [.inr (.inr (.inl q3.1)), .inr (.inr (.inl x0))]) rfl ?_
        by_cases c12 : qO q5.2 q3.1 2 = true
        case neg => exact absurd ((if_neg c12).symm.trans h) (by simp)
        have h := (if_pos c12).symm.trans h
        obtain ⟨q10, h11, h⟩ := Option.bind_eq_some_iff.mp h
        refine J_callV (md' := md_X2_meanCut) (As := []) (st := [.inr (.inr (.inl x0))]) (cs' := (0, 0)) (st' := [.inl q10.1, .inr (.inr (.inl x0))]) (jat ok_X5_mean 25 (pc := 43) (i := .invokevirtual 115) (n := 3) rfl rfl) ml_RX5_115 yv_X2_meanCut c12 (c_X2_meanCut l g (d + 0) h11) (jRo_of (by decide)) (Nat.le_of_ble_eq_true rfl) ⟨Nat.le_of_ble_eq_true rfl, Nat.le_of_ble_eq_true rfl⟩ rfl rfl rfl ?_
        obtain ⟨a13, h14, h⟩ := Option.bind_eq_some_iff.mp h
        refine J_put (jat ok_X5_mean 26 (pc := 46) (i := .putfield 90) (n := 3) rfl rfl) (fp_RX5_90 _) (jPV_int _) h14 ?_
        refine J_seg ok_X5_mean 27 1 (pc' := 50) (ls' := [(2, .inr (.inr (.inl q3.1))), (0, .inr (.inr (.inl x0))), (1, .inl x1)]) (st' := [.inl 1]) rfl ?_
        have h := Option.some.inj h
        subst h
        exact hR _ _ (jat ok_X5_mean 28 (pc := 50) (i := .ireturn) (n := 1) rfl rfl)
      · have h := (if_pos c).symm.trans h
        refine J_seg ok_X5_mean 19 2 (pc' := 37) (ls' := [(2, .inr (.inr (.inl q3.1))), (0, .inr (.inr (.inl x0))), (1, .inl x1)]) (st' := [.inl 4, .inr (.inr (.inl x0))]) rfl ?_
        by_cases c17 : qO q5.2 x0 5 = true
        case neg => exact absurd ((if_neg c17).symm.trans h) (by simp)
        have h := (if_pos c17).symm.trans h
        obtain ⟨q15, h16, h⟩ := Option.bind_eq_some_iff.mp h
        refine J_callV (md' := md_X5_find) (As := [.inl 4]) (st := []) (cs' := (0, 0)) (st' := [.inl q15.1]) (jat ok_X5_mean 21 (pc := 37) (i := .invokevirtual 75) (n := 3) rfl rfl) ml_RX5_75 yv_X5_find c17 (c_X5_find l g (d + 2) h16) (jRo_of (by decide)) (Nat.le_of_ble_eq_true rfl) ⟨Nat.le_of_ble_eq_true rfl, Nat.le_of_ble_eq_true rfl⟩ rfl rfl rfl ?_
        have h := Option.some.inj h
        subst h
        exact hR _ _ (jat ok_X5_mean 22 (pc := 40) (i := .ireturn) (n := 1) rfl rfl)
    · have h := (if_neg c).symm.trans h
      refine J_seg ok_X5_mean 12 2 (pc' := 24) (ls' := [(2, .inr (.inr (.inl q3.1))), (0, .inr (.inr (.inl x0))), (1, .inl x1)]) (st' := [.inl 1, .inr (.inr (.inl x0))]) rfl ?_
      by_cases c20 : qO q5.2 x0 5 = true
      case neg => exact absurd ((if_neg c20).symm.trans h) (by simp)
      have h := (if_pos c20).symm.trans h
      obtain ⟨q18, h19, h⟩ := Option.bind_eq_some_iff.mp h
      refine J_callV (md' := md_X5_find) (As := [.inl 1]) (st := []) (cs' := (0, 0)) (st' := [.inl q18.1]) (jat ok_X5_mean 14 (pc := 24) (i := .invokevirtual 75) (n := 3) rfl rfl) ml_RX5_75 yv_X5_find c20 (c_X5_find l g (d + 2) h19) (jRo_of (by decide)) (Nat.le_of_ble_eq_true rfl) ⟨Nat.le_of_ble_eq_true rfl, Nat.le_of_ble_eq_true rfl⟩ rfl rfl rfl ?_
      have h := Option.some.inj h
      subst h
      exact hR _ _ (jat ok_X5_mean 15 (pc := 27) (i := .ireturn) (n := 1) rfl rfl)
  · have h := (if_pos c).symm.trans h
    refine J_seg ok_X5_mean 7 1 (pc' := 14) (ls' := [(2, .inr (.inr (.inl q3.1))), (0, .inr (.inr (.inl x0))), (1, .inl x1)]) (st' := [.inl (-1)]) rfl ?_
    have h := Option.some.inj h
    subst h
    exact hR _ _ (jat ok_X5_mean 8 (pc := 14) (i := .ireturn) (n := 1) rfl rfl)
theorem c_X5_mean (l : Launch) (g : GX) (d : Nat) {x0 : Option Nat} {x1 : Int32} {ah : AH} {q : Int32 × AH} (h : f_X5_mean x0 x1 ah = some q) : jM l g (d + 3) md_X5_mean [.inr (.inr (.inl x0)), .inl x1] ah (some (.inl q.1)) q.2 :=
  jM_of (by decide) (Nat.le_of_ble_eq_true rfl) (k_X5_mean d ah q h (fun pc ls hd => J_reti hd rfl (jPV_int _) rfl (Nat.le_refl _) rfl rfl))
def f_X5_text (x0 : Option Nat) (x1 : Int32) (x2 : Int32) (ah : AH) : Option (Int32 × AH) :=
  (gR ah x0 5 1).bind fun v1 => (f_X5_lineAt v1 x1 ah).bind fun q3 => if q3.1 = none then (some ((-1), q3.2)) else (if x2 ≤ 60 then (if 0 ≤ x2 then (if qO q3.2 q3.1 2 = true then ((f_X2_renew q3.1 x2 32 q3.2).bind fun q5 => some (x2, q5.2)) else none) else (if qO q3.2 x0 5 = true then ((f_X5_find x0 5 q3.2).bind fun q8 => some (q8.1, q8.2)) else none)) else (some ((-1), q3.2)))
set_option maxRecDepth 100000 in
set_option maxHeartbeats 4000000 in
theorem k_X5_text {l : Launch} {g : GX} (d : Nat) {Q : jQ} {x0 : Option Nat} {x1 : Int32} {x2 : Int32} (ah : AH) (out : Int32 × AH) (h : f_X5_text x0 x1 x2 ah = some out) (hR : jRetI l g md_X5_text (jRm (d + 3) md_X5_text) Q (0, 0) out.1 out.2) : J l g md_X5_text (jRm (d + 3) md_X5_text) Q 0 [(0, .inr (.inr (.inl x0))), (1, .inl x1), (2, .inl x2)] [] ah (0, 0) := by
  unfold f_X5_text at h
  refine J_seg ok_X5_text 0 1 (pc' := 1) (ls' := [(0, .inr (.inr (.inl x0))), (1, .inl x1), (2, .inl x2)]) (st' := [.inr (.inr (.inl x0))]) rfl ?_
  obtain ⟨v1, h2, h⟩ := Option.bind_eq_some_iff.mp h
  refine J_getR (jat ok_X5_text 1 (pc := 1) (i := .getfield 15) (n := 3) rfl rfl) fl_RX5_15 h2 ?_
  refine J_seg ok_X5_text 2 1 (pc' := 5) (ls' := [(0, .inr (.inr (.inl x0))), (1, .inl x1), (2, .inl x2)]) (st' := [.inl x1, .inr (.inr (.inl v1))]) rfl ?_
  obtain ⟨q3, h4, h⟩ := Option.bind_eq_some_iff.mp h
  refine J_callS (md' := md_X5_lineAt) (As := [.inr (.inr (.inl v1)), .inl x1]) (st := []) (cs' := (0, 0)) (st' := [.inr (.inr (.inl q3.1))]) (jat ok_X5_text 3 (pc := 5) (i := .invokestatic 71) (n := 3) rfl rfl) (Or.inl ml_RX5_71) ys_X5_lineAt (c_X5_lineAt l g (d + 2) h4) (jRo_of (by decide)) (Nat.le_of_ble_eq_true rfl) ⟨Nat.le_of_ble_eq_true rfl, Nat.le_of_ble_eq_true rfl⟩ rfl rfl rfl ?_
  refine J_seg ok_X5_text 4 2 (pc' := 10) (ls' := [(3, .inr (.inr (.inl q3.1))), (0, .inr (.inr (.inl x0))), (1, .inl x1), (2, .inl x2)]) (st' := [.inr (.inr (.inl q3.1))]) rfl ?_
  refine J_null (jat ok_X5_text 6 (pc := 10) (i := .ifnull 9) (n := 3) rfl rfl) (tgt := 19) (by decide) (fun c => ?_) (fun c => ?_)
  · have h := (if_pos c).symm.trans h
    refine J_seg ok_X5_text 10 1 (pc' := 20) (ls' := [(3, .inr (.inr (.inl q3.1))), (0, .inr (.inr (.inl x0))), (1, .inl x1), (2, .inl x2)]) (st' := [.inl (-1)]) rfl ?_
    have h := Option.some.inj h
    subst h
    exact hR _ _ (jat ok_X5_text 11 (pc := 20) (i := .ireturn) (n := 1) rfl rfl)
  · have h := (if_neg c).symm.trans h
    refine J_seg ok_X5_text 7 2 (pc' := 16) (ls' := [(3, .inr (.inr (.inl q3.1))), (0, .inr (.inr (.inl x0))), (1, .inl x1), (2, .inl x2)]) (st' := [.inl 60, .inl x2]) rfl ?_
    refine J_le (jat ok_X5_text 9 (pc := 16) (i := .if_icmp .le 5) (n := 3) rfl rfl) (tgt := 21) (by decide) (fun c => ?_) (fun c => ?_)
    · have h := (if_pos c).symm.trans h
      refine J_seg ok_X5_text 12 1 (pc' := 22) (ls' := [(3, .inr (.inr (.inl q3.1))), (0, .inr (.inr (.inl x0))), (1, .inl x1), (2, .inl x2)]) (st' := [.inl x2]) rfl ?_
      refine J_ge0 (jat ok_X5_text 13 (pc := 22) (i := .ifCond .ge 9) (n := 3) rfl rfl) (tgt := 31) (by decide) (fun c => ?_) (fun c => ?_)
      · have h := (if_pos c).symm.trans h
        refine J_seg ok_X5_text 18 3 (pc' := 35) (ls' := [(3, .inr (.inr (.inl q3.1))), (0, .inr (.inr (.inl x0))), (1, .inl x1), (2, .inl x2)]) (st' := [.inl 32, .inl x2, .inr (.inr (.inl q3.1))]) rfl ?_
        by_cases c7 : qO q3.2 q3.1 2 = true
        case neg => exact absurd ((if_neg c7).symm.trans h) (by simp)
        have h := (if_pos c7).symm.trans h
        obtain ⟨q5, h6, h⟩ := Option.bind_eq_some_iff.mp h
        refine J_callV (md' := md_X2_renew) (As := [.inl x2, .inl 32]) (st := []) (cs' := (0, 0)) (st' := []) (jat ok_X5_text 21 (pc := 35) (i := .invokevirtual 79) (n := 3) rfl rfl) ml_RX5_79 yv_X2_renew c7 (c_X2_renew l g (d + 0) h6) (jRo_of (by decide)) (Nat.le_of_ble_eq_true rfl) ⟨Nat.le_of_ble_eq_true rfl, Nat.le_of_ble_eq_true rfl⟩ rfl rfl rfl ?_
        refine J_seg ok_X5_text 22 1 (pc' := 39) (ls' := [(3, .inr (.inr (.inl q3.1))), (0, .inr (.inr (.inl x0))), (1, .inl x1), (2, .inl x2)]) (st' := [.inl x2]) rfl ?_
        have h := Option.some.inj h
        subst h
        exact hR _ _ (jat ok_X5_text 23 (pc := 39) (i := .ireturn) (n := 1) rfl rfl)
      · have h := (if_neg c).symm.trans h
        refine J_seg ok_X5_text 14 2 (pc' := 27) (ls' := [(3, .inr (.inr (.inl q3.1))), (0, .inr (.inr (.inl x0))), (1, .inl x1), (2, .inl x2)]) (st' := [.inl 5, .inr (.inr (.inl x0))]) rfl ?_
        by_cases c10 : qO q3.2 x0 5 = true
        case neg => exact absurd ((if_neg c10).symm.trans h) (by simp)
        have h := (if_pos c10).symm.trans h
        obtain ⟨q8, h9, h⟩ := Option.bind_eq_some_iff.mp h
        refine J_callV (md' := md_X5_find) (As := [.inl 5]) (st := []) (cs' := (0, 0)) (st' := [.inl q8.1]) (jat ok_X5_text 16 (pc := 27) (i := .invokevirtual 75) (n := 3) rfl rfl) ml_RX5_75 yv_X5_find c10 (c_X5_find l g (d + 2) h9) (jRo_of (by decide)) (Nat.le_of_ble_eq_true rfl) ⟨Nat.le_of_ble_eq_true rfl, Nat.le_of_ble_eq_true rfl⟩ rfl rfl rfl ?_
        have h := Option.some.inj h
        subst h
        exact hR _ _ (jat ok_X5_text 17 (pc := 30) (i := .ireturn) (n := 1) rfl rfl)
    · have h := (if_neg c).symm.trans h
      refine J_seg ok_X5_text 10 1 (pc' := 20) (ls' := [(3, .inr (.inr (.inl q3.1))), (0, .inr (.inr (.inl x0))), (1, .inl x1), (2, .inl x2)]) (st' := [.inl (-1)]) rfl ?_
      have h := Option.some.inj h
      subst h
      exact hR _ _ (jat ok_X5_text 11 (pc := 20) (i := .ireturn) (n := 1) rfl rfl)
theorem c_X5_text (l : Launch) (g : GX) (d : Nat) {x0 : Option Nat} {x1 : Int32} {x2 : Int32} {ah : AH} {q : Int32 × AH} (h : f_X5_text x0 x1 x2 ah = some q) : jM l g (d + 3) md_X5_text [.inr (.inr (.inl x0)), .inl x1, .inl x2] ah (some (.inl q.1)) q.2 :=
  jM_of (by decide) (Nat.le_of_ble_eq_true rfl) (k_X5_text d ah q h (fun pc ls hd => J_reti hd rfl (jPV_int _) rfl (Nat.le_refl _) rfl rfl))
def f_X5_put (x0 : Option Nat) (x1 : Int32) (x2 : Int32) (x3 : Int32) (ah : AH) : Option (Int32 × AH) :=
  (gR ah x0 5 1).bind fun v1 => (f_X5_lineAt v1 x1 ah).bind fun q3 => if q3.1 = none then (some ((-1), q3.2)) else (if qO q3.2 x0 5 = true then ((f_X5_refusePlace x0 q3.1 x2 q3.2).bind fun q5 => if q5.1 = 0 then (if qO q5.2 q3.1 2 = true then ((f_X2_get q3.1 x2 q5.2).bind fun q8 => if qO q8.2 q3.1 2 = true then ((f_X2_set q3.1 x2 ((Int32.toInt8 x3).toInt32) q8.2).bind fun q11 => some (q8.1 + 1000, q11.2)) else none) else none) else (some (q5.1, q5.2))) else none)
set_option maxRecDepth 100000 in
set_option maxHeartbeats 4000000 in
theorem k_X5_put {l : Launch} {g : GX} (d : Nat) {Q : jQ} {x0 : Option Nat} {x1 : Int32} {x2 : Int32} {x3 : Int32} (ah : AH) (out : Int32 × AH) (h : f_X5_put x0 x1 x2 x3 ah = some out) (hR : jRetI l g md_X5_put (jRm (d + 2) md_X5_put) Q (0, 0) out.1 out.2) : J l g md_X5_put (jRm (d + 2) md_X5_put) Q 0 [(0, .inr (.inr (.inl x0))), (1, .inl x1), (2, .inl x2), (3, .inl x3)] [] ah (0, 0) := by
  unfold f_X5_put at h
  refine J_seg ok_X5_put 0 1 (pc' := 1) (ls' := [(0, .inr (.inr (.inl x0))), (1, .inl x1), (2, .inl x2), (3, .inl x3)]) (st' := [.inr (.inr (.inl x0))]) rfl ?_
  obtain ⟨v1, h2, h⟩ := Option.bind_eq_some_iff.mp h
  refine J_getR (jat ok_X5_put 1 (pc := 1) (i := .getfield 15) (n := 3) rfl rfl) fl_RX5_15 h2 ?_
  refine J_seg ok_X5_put 2 1 (pc' := 5) (ls' := [(0, .inr (.inr (.inl x0))), (1, .inl x1), (2, .inl x2), (3, .inl x3)]) (st' := [.inl x1, .inr (.inr (.inl v1))]) rfl ?_
  obtain ⟨q3, h4, h⟩ := Option.bind_eq_some_iff.mp h
  refine J_callS (md' := md_X5_lineAt) (As := [.inr (.inr (.inl v1)), .inl x1]) (st := []) (cs' := (0, 0)) (st' := [.inr (.inr (.inl q3.1))]) (jat ok_X5_put 3 (pc := 5) (i := .invokestatic 71) (n := 3) rfl rfl) (Or.inl ml_RX5_71) ys_X5_lineAt (c_X5_lineAt l g (d + 1) h4) (jRo_of (by decide)) (Nat.le_of_ble_eq_true rfl) ⟨Nat.le_of_ble_eq_true rfl, Nat.le_of_ble_eq_true rfl⟩ rfl rfl rfl ?_
  refine J_seg ok_X5_put 4 2 (pc' := 12) (ls' := [(4, .inr (.inr (.inl q3.1))), (0, .inr (.inr (.inl x0))), (1, .inl x1), (2, .inl x2), (3, .inl x3)]) (st' := [.inr (.inr (.inl q3.1))]) rfl ?_
  refine J_nonnull (jat ok_X5_put 6 (pc := 12) (i := .ifnonnull 5) (n := 3) rfl rfl) (tgt := 17) (by decide) (fun c => ?_) (fun c => ?_)
  · have h := (if_neg c).symm.trans h
    refine J_seg ok_X5_put 9 3 (pc' := 21) (ls' := [(4, .inr (.inr (.inl q3.1))), (0, .inr (.inr (.inl x0))), (1, .inl x1), (2, .inl x2), (3, .inl x3)]) (st' := [.inl x2, .inr (.inr (.inl q3.1)), .inr (.inr (.inl x0))]) rfl ?_
    by_cases c7 : qO q3.2 x0 5 = true
    case neg => exact absurd ((if_neg c7).symm.trans h) (by simp)
    have h := (if_pos c7).symm.trans h
    obtain ⟨q5, h6, h⟩ := Option.bind_eq_some_iff.mp h
    refine J_callV (md' := md_X5_refusePlace) (As := [.inr (.inr (.inl q3.1)), .inl x2]) (st := []) (cs' := (0, 0)) (st' := [.inl q5.1]) (jat ok_X5_put 12 (pc := 21) (i := .invokevirtual 83) (n := 3) rfl rfl) ml_RX5_83 yv_X5_refusePlace c7 (c_X5_refusePlace l g (d + 0) h6) (jRo_of (by decide)) (Nat.le_of_ble_eq_true rfl) ⟨Nat.le_of_ble_eq_true rfl, Nat.le_of_ble_eq_true rfl⟩ rfl rfl rfl ?_
    refine J_seg ok_X5_put 13 2 (pc' := 28) (ls' := [(5, .inl q5.1), (4, .inr (.inr (.inl q3.1))), (0, .inr (.inr (.inl x0))), (1, .inl x1), (2, .inl x2), (3, .inl x3)]) (st' := [.inl q5.1]) rfl ?_
    refine J_eq0 (jat ok_X5_put 15 (pc := 28) (i := .ifCond .eq 6) (n := 3) rfl rfl) (tgt := 34) (by decide) (fun c => ?_) (fun c => ?_)
    · have h := (if_pos c).symm.trans h
      refine J_seg ok_X5_put 18 2 (pc' := 37) (ls' := [(5, .inl q5.1), (4, .inr (.inr (.inl q3.1))), (0, .inr (.inr (.inl x0))), (1, .inl x1), (2, .inl x2), (3, .inl x3)]) (st' := [.inl x2, .inr (.inr (.inl q3.1))]) rfl ?_
      by_cases c10 : qO q5.2 q3.1 2 = true
      case neg => exact absurd ((if_neg c10).symm.trans h) (by simp)
      have h := (if_pos c10).symm.trans h
      obtain ⟨q8, h9, h⟩ := Option.bind_eq_some_iff.mp h
      refine J_callV (md' := md_X2_get) (As := [.inl x2]) (st := []) (cs' := (0, 0)) (st' := [.inl q8.1]) (jat ok_X5_put 20 (pc := 37) (i := .invokevirtual 87) (n := 3) rfl rfl) ml_RX5_87 yv_X2_get c10 (c_X2_get l g (d + 0) h9) (jRo_of (by decide)) (Nat.le_of_ble_eq_true rfl) ⟨Nat.le_of_ble_eq_true rfl, Nat.le_of_ble_eq_true rfl⟩ rfl rfl rfl ?_
      refine J_seg ok_X5_put 21 5 (pc' := 47) (ls' := [(6, .inl q8.1), (5, .inl q5.1), (4, .inr (.inr (.inl q3.1))), (0, .inr (.inr (.inl x0))), (1, .inl x1), (2, .inl x2), (3, .inl x3)]) (st' := [.inl ((Int32.toInt8 x3).toInt32), .inl x2, .inr (.inr (.inl q3.1))]) rfl ?_
      by_cases c13 : qO q8.2 q3.1 2 = true
      case neg => exact absurd ((if_neg c13).symm.trans h) (by simp)
      have h := (if_pos c13).symm.trans h
      obtain ⟨q11, h12, h⟩ := Option.bind_eq_some_iff.mp h
      refine J_callV (md' := md_X2_set) (As := [.inl x2, .inl ((Int32.toInt8 x3).toInt32)]) (st := []) (cs' := (0, 0)) (st' := []) (jat ok_X5_put 26 (pc := 47) (i := .invokevirtual 94) (n := 3) rfl rfl) ml_RX5_94 yv_X2_set c13 (c_X2_set l g (d + 0) h12) (jRo_of (by decide)) (Nat.le_of_ble_eq_true rfl) ⟨Nat.le_of_ble_eq_true rfl, Nat.le_of_ble_eq_true rfl⟩ rfl rfl rfl ?_
      refine J_seg ok_X5_put 27 3 (pc' := 56) (ls' := [(6, .inl q8.1), (5, .inl q5.1), (4, .inr (.inr (.inl q3.1))), (0, .inr (.inr (.inl x0))), (1, .inl x1), (2, .inl x2), (3, .inl x3)]) (st' := [.inl (q8.1 + 1000)]) rfl ?_
      have h := Option.some.inj h
      subst h
      exact hR _ _ (jat ok_X5_put 30 (pc := 56) (i := .ireturn) (n := 1) rfl rfl)
    · have h := (if_neg c).symm.trans h
      refine J_seg ok_X5_put 16 1 (pc' := 33) (ls' := [(5, .inl q5.1), (4, .inr (.inr (.inl q3.1))), (0, .inr (.inr (.inl x0))), (1, .inl x1), (2, .inl x2), (3, .inl x3)]) (st' := [.inl q5.1]) rfl ?_
      have h := Option.some.inj h
      subst h
      exact hR _ _ (jat ok_X5_put 17 (pc := 33) (i := .ireturn) (n := 1) rfl rfl)
  · have h := (if_pos c).symm.trans h
    refine J_seg ok_X5_put 7 1 (pc' := 16) (ls' := [(4, .inr (.inr (.inl q3.1))), (0, .inr (.inr (.inl x0))), (1, .inl x1), (2, .inl x2), (3, .inl x3)]) (st' := [.inl (-1)]) rfl ?_
    have h := Option.some.inj h
    subst h
    exact hR _ _ (jat ok_X5_put 8 (pc := 16) (i := .ireturn) (n := 1) rfl rfl)
theorem c_X5_put (l : Launch) (g : GX) (d : Nat) {x0 : Option Nat} {x1 : Int32} {x2 : Int32} {x3 : Int32} {ah : AH} {q : Int32 × AH} (h : f_X5_put x0 x1 x2 x3 ah = some q) : jM l g (d + 2) md_X5_put [.inr (.inr (.inl x0)), .inl x1, .inl x2, .inl x3] ah (some (.inl q.1)) q.2 :=
  jM_of (by decide) (Nat.le_of_ble_eq_true rfl) (k_X5_put d ah q h (fun pc ls hd => J_reti hd rfl (jPV_int _) rfl (Nat.le_refl _) rfl rfl))
def f_X5_fault (x0 : Option Nat) (x1 : Int32) (ah : AH) : Option (Int32 × AH) :=
  (gR ah x0 5 1).bind fun v1 => (f_X5_lineAt v1 x1 ah).bind fun q3 => if q3.1 = none then (some ((-1), q3.2)) else (if qO q3.2 q3.1 2 = true then ((f_X2_isMissing q3.1 q3.2).bind fun q5 => if q5.1 = 0 then ((gR q5.2 x0 5 2).bind fun v8 => (gR q5.2 x0 5 9).bind fun v10 => if qO q5.2 v8 3 = true then ((f_X3_read v8 q3.1 v10 q5.2).bind fun q12 => some (q12.1, q12.2)) else none) else (if qO q5.2 x0 5 = true then ((f_X5_find x0 1 q5.2).bind fun q15 => some (q15.1, q15.2)) else none)) else none)
set_option maxRecDepth 100000 in
set_option maxHeartbeats 4000000 in
theorem k_X5_fault {l : Launch} {g : GX} (d : Nat) {Q : jQ} {x0 : Option Nat} {x1 : Int32} (ah : AH) (out : Int32 × AH) (h : f_X5_fault x0 x1 ah = some out) (hR : jRetI l g md_X5_fault (jRm (d + 6) md_X5_fault) Q (0, 0) out.1 out.2) : J l g md_X5_fault (jRm (d + 6) md_X5_fault) Q 0 [(0, .inr (.inr (.inl x0))), (1, .inl x1)] [] ah (0, 0) := by
  unfold f_X5_fault at h
  refine J_seg ok_X5_fault 0 1 (pc' := 1) (ls' := [(0, .inr (.inr (.inl x0))), (1, .inl x1)]) (st' := [.inr (.inr (.inl x0))]) rfl ?_
  obtain ⟨v1, h2, h⟩ := Option.bind_eq_some_iff.mp h
  refine J_getR (jat ok_X5_fault 1 (pc := 1) (i := .getfield 15) (n := 3) rfl rfl) fl_RX5_15 h2 ?_
  refine J_seg ok_X5_fault 2 1 (pc' := 5) (ls' := [(0, .inr (.inr (.inl x0))), (1, .inl x1)]) (st' := [.inl x1, .inr (.inr (.inl v1))]) rfl ?_
  obtain ⟨q3, h4, h⟩ := Option.bind_eq_some_iff.mp h
  refine J_callS (md' := md_X5_lineAt) (As := [.inr (.inr (.inl v1)), .inl x1]) (st := []) (cs' := (0, 0)) (st' := [.inr (.inr (.inl q3.1))]) (jat ok_X5_fault 3 (pc := 5) (i := .invokestatic 71) (n := 3) rfl rfl) (Or.inl ml_RX5_71) ys_X5_lineAt (c_X5_lineAt l g (d + 5) h4) (jRo_of (by decide)) (Nat.le_of_ble_eq_true rfl) ⟨Nat.le_of_ble_eq_true rfl, Nat.le_of_ble_eq_true rfl⟩ rfl rfl rfl ?_
  refine J_seg ok_X5_fault 4 2 (pc' := 10) (ls' := [(2, .inr (.inr (.inl q3.1))), (0, .inr (.inr (.inl x0))), (1, .inl x1)]) (st' := [.inr (.inr (.inl q3.1))]) rfl ?_
  refine J_nonnull (jat ok_X5_fault 6 (pc := 10) (i := .ifnonnull 5) (n := 3) rfl rfl) (tgt := 15) (by decide) (fun c => ?_) (fun c => ?_)
  · have h := (if_neg c).symm.trans h
    refine J_seg ok_X5_fault 9 1 (pc' := 16) (ls' := [(2, .inr (.inr (.inl q3.1))), (0, .inr (.inr (.inl x0))), (1, .inl x1)]) (st' := [.inr (.inr (.inl q3.1))]) rfl ?_
    by_cases c7 : qO q3.2 q3.1 2 = true
    case neg => exact absurd ((if_neg c7).symm.trans h) (by simp)
    have h := (if_pos c7).symm.trans h
    obtain ⟨q5, h6, h⟩ := Option.bind_eq_some_iff.mp h
    refine J_callV (md' := md_X2_isMissing) (As := []) (st := []) (cs' := (0, 0)) (st' := [.inl q5.1]) (jat ok_X5_fault 10 (pc := 16) (i := .invokevirtual 97) (n := 3) rfl rfl) ml_RX5_97 yv_X2_isMissing c7 (c_X2_isMissing l g (d + 5) h6) (jRo_of (by decide)) (Nat.le_of_ble_eq_true rfl) ⟨Nat.le_of_ble_eq_true rfl, Nat.le_of_ble_eq_true rfl⟩ rfl rfl rfl ?_
    refine J_eq0 (jat ok_X5_fault 11 (pc := 19) (i := .ifCond .eq 9) (n := 3) rfl rfl) (tgt := 28) (by decide) (fun c => ?_) (fun c => ?_)
    · have h := (if_pos c).symm.trans h
      refine J_seg ok_X5_fault 16 1 (pc' := 29) (ls' := [(2, .inr (.inr (.inl q3.1))), (0, .inr (.inr (.inl x0))), (1, .inl x1)]) (st' := [.inr (.inr (.inl x0))]) rfl ?_
      obtain ⟨v8, h9, h⟩ := Option.bind_eq_some_iff.mp h
      refine J_getR (jat ok_X5_fault 17 (pc := 29) (i := .getfield 21) (n := 3) rfl rfl) fl_RX5_21 h9 ?_
      refine J_seg ok_X5_fault 18 2 (pc' := 34) (ls' := [(2, .inr (.inr (.inl q3.1))), (0, .inr (.inr (.inl x0))), (1, .inl x1)]) (st' := [.inr (.inr (.inl x0)), .inr (.inr (.inl q3.1)), .inr (.inr (.inl v8))]) rfl ?_
      obtain ⟨v10, h11, h⟩ := Option.bind_eq_some_iff.mp h
      refine J_getR (jat ok_X5_fault 20 (pc := 34) (i := .getfield 57) (n := 3) rfl rfl) fl_RX5_57 h11 ?_
      by_cases c14 : qO q5.2 v8 3 = true
      case neg => exact absurd ((if_neg c14).symm.trans h) (by simp)
      have h := (if_pos c14).symm.trans h
      obtain ⟨q12, h13, h⟩ := Option.bind_eq_some_iff.mp h
      refine J_callV (md' := md_X3_read) (As := [.inr (.inr (.inl q3.1)), .inr (.inr (.inl v10))]) (st := []) (cs' := (0, 0)) (st' := [.inl q12.1]) (jat ok_X5_fault 21 (pc := 37) (i := .invokevirtual 119) (n := 3) rfl rfl) ml_RX5_119 yv_X3_read c14 (c_X3_read l g (d + 0) h13) (jRo_of (by decide)) (Nat.le_of_ble_eq_true rfl) ⟨Nat.le_of_ble_eq_true rfl, Nat.le_of_ble_eq_true rfl⟩ rfl rfl rfl ?_
      have h := Option.some.inj h
      subst h
      exact hR _ _ (jat ok_X5_fault 22 (pc := 40) (i := .ireturn) (n := 1) rfl rfl)
    · have h := (if_neg c).symm.trans h
      refine J_seg ok_X5_fault 12 2 (pc' := 24) (ls' := [(2, .inr (.inr (.inl q3.1))), (0, .inr (.inr (.inl x0))), (1, .inl x1)]) (st' := [.inl 1, .inr (.inr (.inl x0))]) rfl ?_
      by_cases c17 : qO q5.2 x0 5 = true
      case neg => exact absurd ((if_neg c17).symm.trans h) (by simp)
      have h := (if_pos c17).symm.trans h
      obtain ⟨q15, h16, h⟩ := Option.bind_eq_some_iff.mp h
      refine J_callV (md' := md_X5_find) (As := [.inl 1]) (st := []) (cs' := (0, 0)) (st' := [.inl q15.1]) (jat ok_X5_fault 14 (pc := 24) (i := .invokevirtual 75) (n := 3) rfl rfl) ml_RX5_75 yv_X5_find c17 (c_X5_find l g (d + 5) h16) (jRo_of (by decide)) (Nat.le_of_ble_eq_true rfl) ⟨Nat.le_of_ble_eq_true rfl, Nat.le_of_ble_eq_true rfl⟩ rfl rfl rfl ?_
      have h := Option.some.inj h
      subst h
      exact hR _ _ (jat ok_X5_fault 15 (pc := 27) (i := .ireturn) (n := 1) rfl rfl)
  · have h := (if_pos c).symm.trans h
    refine J_seg ok_X5_fault 7 1 (pc' := 14) (ls' := [(2, .inr (.inr (.inl q3.1))), (0, .inr (.inr (.inl x0))), (1, .inl x1)]) (st' := [.inl (-1)]) rfl ?_
    have h := Option.some.inj h
    subst h
    exact hR _ _ (jat ok_X5_fault 8 (pc := 14) (i := .ireturn) (n := 1) rfl rfl)
theorem c_X5_fault (l : Launch) (g : GX) (d : Nat) {x0 : Option Nat} {x1 : Int32} {ah : AH} {q : Int32 × AH} (h : f_X5_fault x0 x1 ah = some q) : jM l g (d + 6) md_X5_fault [.inr (.inr (.inl x0)), .inl x1] ah (some (.inl q.1)) q.2 :=
  jM_of (by decide) (Nat.le_of_ble_eq_true rfl) (k_X5_fault d ah q h (fun pc ls hd => J_reti hd rfl (jPV_int _) rfl (Nat.le_refl _) rfl rfl))
def f_X5_town_b91 (k0 : Option Nat) (k4 : Option Nat) (k5 : Int32) (s91 : Int32) (ah : AH) : Option ((Unit × AH) ⊕ (((Unit) × AH) ⊕ ((Int32) × AH))) :=
  if k5 ≤ s91 then (some (.inr (.inl ((), ah)))) else ((gE ah k4 s91).bind fun v34 => (sF ah v34 4 4 (.inl 0)).bind fun a36 => some (.inr (.inr (s91 + 1, a36))))
set_option maxRecDepth 100000 in
set_option maxHeartbeats 4000000 in
theorem k_X5_town_b91 {l : Launch} {g : GX} (d : Nat) {Q : jQ} {k0 : Option Nat} {k4 : Option Nat} {k5 : Int32} (s91 : Int32) (ah : AH) (out : (Unit × AH) ⊕ (((Unit) × AH) ⊕ ((Int32) × AH))) (h : f_X5_town_b91 k0 k4 k5 s91 ah = some out) (hR : ∀ q, out = .inl q → jRetN q.1 q.2) (hX : ∀ q, out = .inr (.inl q) → J l g md_X5_town (jRm (d + 6) md_X5_town) Q 117 [(0, .inr (.inr (.inl k0)))] [] q.2 (0, 0)) (hN : ∀ q, out = .inr (.inr q) → J l g md_X5_town (jRm (d + 6) md_X5_town) Q 91 [(0, .inr (.inr (.inl k0))), (4, .inr (.inr (.inl k4))), (5, .inl k5), (6, .inl q.1)] [] q.2 (0, 0)) : J l g md_X5_town (jRm (d + 6) md_X5_town) Q 91 [(0, .inr (.inr (.inl k0))), (4, .inr (.inr (.inl k4))), (5, .inl k5), (6, .inl s91)] [] ah (0, 0) := by
  unfold f_X5_town_b91 at h
  refine J_seg ok_X5_town 49 2 (pc' := 95) (ls' := [(0, .inr (.inr (.inl k0))), (4, .inr (.inr (.inl k4))), (5, .inl k5), (6, .inl s91)]) (st' := [.inl k5, .inl s91]) rfl ?_
  refine J_ge (jat ok_X5_town 51 (pc := 95) (i := .if_icmp .ge 22) (n := 3) rfl rfl) (tgt := 117) (by decide) (fun c => ?_) (fun c => ?_)
  · have h := (if_pos c).symm.trans h
    exact J_sub (ls' := [(0, .inr (.inr (.inl k0)))]) [0] rfl (hX ((), ah) (Option.some.inj h).symm)
  · have h := (if_neg c).symm.trans h
    refine J_seg ok_X5_town 52 2 (pc' := 102) (ls' := [(0, .inr (.inr (.inl k0))), (4, .inr (.inr (.inl k4))), (5, .inl k5), (6, .inl s91)]) (st' := [.inl s91, .inr (.inr (.inl k4))]) rfl ?_
    obtain ⟨v34, h35, h⟩ := Option.bind_eq_some_iff.mp h
    refine J_aald (jat ok_X5_town 54 (pc := 102) (i := .aaload) (n := 1) rfl rfl) h35 ?_
    refine J_seg ok_X5_town 55 3 (pc' := 108) (ls' := [(7, .inr (.inr (.inl v34))), (0, .inr (.inr (.inl k0))), (4, .inr (.inr (.inl k4))), (5, .inl k5), (6, .inl s91)]) (st' := [.inl 0, .inr (.inr (.inl v34))]) rfl ?_
    obtain ⟨a36, h37, h⟩ := Option.bind_eq_some_iff.mp h
    refine J_put (jat ok_X5_town 58 (pc := 108) (i := .putfield 123) (n := 3) rfl rfl) (fp_RX5_123 _) jPV_z0 h37 ?_
    refine J_seg ok_X5_town 59 2 (pc' := 91) (ls' := [(6, .inl (s91 + 1)), (7, .inr (.inr (.inl v34))), (0, .inr (.inr (.inl k0))), (4, .inr (.inr (.inl k4))), (5, .inl k5)]) (st' := []) rfl ?_
    exact J_sub (ls' := [(0, .inr (.inr (.inl k0))), (4, .inr (.inr (.inl k4))), (5, .inl k5), (6, .inl (s91 + 1))]) [2, 3, 4, 0] rfl (hN (s91 + 1, a36) (Option.some.inj h).symm)
def f_X5_town (x0 : Option Nat) (x1 : Int32) (ah : AH) : Option (Int32 × AH) :=
  (gR ah x0 5 1).bind fun v1 => (f_X5_lineAt v1 x1 ah).bind fun q3 => if q3.1 = none then (some ((-1), q3.2)) else (if qO q3.2 q3.1 2 = true then ((f_X2_isMissing q3.1 q3.2).bind fun q5 => if q5.1 = 0 then ((gR q5.2 x0 5 2).bind fun v8 => (gR q5.2 x0 5 9).bind fun v10 => if qO q5.2 v8 3 = true then ((f_X3_read v8 q3.1 v10 q5.2).bind fun q12 => if q12.1 = (-9) then ((gR q12.2 x0 5 8).bind fun v15 => (gR q12.2 x0 5 9).bind fun v17 => (sF q12.2 x0 5 8 (.inr (.inr (.inl v17)))).bind fun a19 => (sF a19 x0 5 9 (.inr (.inr (.inl v15)))).bind fun a21 => (gR a21 x0 5 3).bind fun v23 => (gR a21 x0 5 8).bind fun v25 => if qO a21 v23 4 = true then ((f_X4_begin v23 v25 a21).bind fun q27 => (gR q27.2 x0 5 4).bind fun v30 => (lA q27.2 v30).bind fun v32 => (jloop (f_X5_town_b91 x0 v30 v32) jfuel 0 q27.2).bind fun q38 => match q38 with | .inl r => none | .inr z40 => (gR z40.2 x0 5 8).bind fun v42 => (gI z40.2 v42 1 5).bind fun v44 => some (v44, z40.2)) else none) else (some ((-4), q12.2))) else none) else (if qO q5.2 x0 5 = true then ((f_X5_find x0 1 q5.2).bind fun q46 => some (q46.1, q46.2)) else none)) else none)
set_option maxRecDepth 100000 in
set_option maxHeartbeats 4000000 in
theorem k_X5_town {l : Launch} {g : GX} (d : Nat) {Q : jQ} {x0 : Option Nat} {x1 : Int32} (ah : AH) (out : Int32 × AH) (h : f_X5_town x0 x1 ah = some out) (hR : jRetI l g md_X5_town (jRm (d + 6) md_X5_town) Q (0, 0) out.1 out.2) : J l g md_X5_town (jRm (d + 6) md_X5_town) Q 0 [(0, .inr (.inr (.inl x0))), (1, .inl x1)] [] ah (0, 0) := by
  unfold f_X5_town at h
  refine J_seg ok_X5_town 0 1 (pc' := 1) (ls' := [(0, .inr (.inr (.inl x0))), (1, .inl x1)]) (st' := [.inr (.inr (.inl x0))]) rfl ?_
  obtain ⟨v1, h2, h⟩ := Option.bind_eq_some_iff.mp h
  refine J_getR (jat ok_X5_town 1 (pc := 1) (i := .getfield 15) (n := 3) rfl rfl) fl_RX5_15 h2 ?_
  refine J_seg ok_X5_town 2 1 (pc' := 5) (ls' := [(0, .inr (.inr (.inl x0))), (1, .inl x1)]) (st' := [.inl x1, .inr (.inr (.inl v1))]) rfl ?_
  obtain ⟨q3, h4, h⟩ := Option.bind_eq_some_iff.mp h
  refine J_callS (md' := md_X5_lineAt) (As := [.inr (.inr (.inl v1)), .inl x1]) (st := []) (cs' := (0, 0)) (st' := [.inr (.inr (.inl q3.1))]) (jat ok_X5_town 3 (pc := 5) (i := .invokestatic 71) (n := 3) rfl rfl) (Or.inl ml_RX5_71) ys_X5_lineAt (c_X5_lineAt l g (d + 5) h4) (jRo_of (by decide)) (Nat.le_of_ble_eq_true rfl) ⟨Nat.le_of_ble_eq_true rfl, Nat.le_of_ble_eq_true rfl⟩ rfl rfl rfl ?_
  refine J_seg ok_X5_town 4 2 (pc' := 10) (ls' := [(2, .inr (.inr (.inl q3.1))), (0, .inr (.inr (.inl x0))), (1, .inl x1)]) (st' := [.inr (.inr (.inl q3.1))]) rfl ?_
  refine J_nonnull (jat ok_X5_town 6 (pc := 10) (i := .ifnonnull 5) (n := 3) rfl rfl) (tgt := 15) (by decide) (fun c => ?_) (fun c => ?_)
  · have h := (if_neg c).symm.trans h
    refine J_seg ok_X5_town 9 1 (pc' := 16) (ls' := [(2, .inr (.inr (.inl q3.1))), (0, .inr (.inr (.inl x0))), (1, .inl x1)]) (st' := [.inr (.inr (.inl q3.1))]) rfl ?_
    by_cases c7 : qO q3.2 q3.1 2 = true
    case neg => exact absurd ((if_neg c7).symm.trans h) (by simp)
    have h := (if_pos c7).symm.trans h
    obtain ⟨q5, h6, h⟩ := Option.bind_eq_some_iff.mp h
    refine J_callV (md' := md_X2_isMissing) (As := []) (st := []) (cs' := (0, 0)) (st' := [.inl q5.1]) (jat ok_X5_town 10 (pc := 16) (i := .invokevirtual 97) (n := 3) rfl rfl) ml_RX5_97 yv_X2_isMissing c7 (c_X2_isMissing l g (d + 5) h6) (jRo_of (by decide)) (Nat.le_of_ble_eq_true rfl) ⟨Nat.le_of_ble_eq_true rfl, Nat.le_of_ble_eq_true rfl⟩ rfl rfl rfl ?_
    refine J_eq0 (jat ok_X5_town 11 (pc := 19) (i := .ifCond .eq 9) (n := 3) rfl rfl) (tgt := 28) (by decide) (fun c => ?_) (fun c => ?_)
    · have h := (if_pos c).symm.trans h
      refine J_seg ok_X5_town 16 1 (pc' := 29) (ls' := [(2, .inr (.inr (.inl q3.1))), (0, .inr (.inr (.inl x0))), (1, .inl x1)]) (st' := [.inr (.inr (.inl x0))]) rfl ?_
      obtain ⟨v8, h9, h⟩ := Option.bind_eq_some_iff.mp h
      refine J_getR (jat ok_X5_town 17 (pc := 29) (i := .getfield 21) (n := 3) rfl rfl) fl_RX5_21 h9 ?_
      refine J_seg ok_X5_town 18 2 (pc' := 34) (ls' := [(2, .inr (.inr (.inl q3.1))), (0, .inr (.inr (.inl x0))), (1, .inl x1)]) (st' := [.inr (.inr (.inl x0)), .inr (.inr (.inl q3.1)), .inr (.inr (.inl v8))]) rfl ?_
      obtain ⟨v10, h11, h⟩ := Option.bind_eq_some_iff.mp h
      refine J_getR (jat ok_X5_town 20 (pc := 34) (i := .getfield 57) (n := 3) rfl rfl) fl_RX5_57 h11 ?_
      by_cases c14 : qO q5.2 v8 3 = true
      case neg => exact absurd ((if_neg c14).symm.trans h) (by simp)
      have h := (if_pos c14).symm.trans h
      obtain ⟨q12, h13, h⟩ := Option.bind_eq_some_iff.mp h
      refine J_callV (md' := md_X3_read) (As := [.inr (.inr (.inl q3.1)), .inr (.inr (.inl v10))]) (st := []) (cs' := (0, 0)) (st' := [.inl q12.1]) (jat ok_X5_town 21 (pc := 37) (i := .invokevirtual 119) (n := 3) rfl rfl) ml_RX5_119 yv_X3_read c14 (c_X3_read l g (d + 0) h13) (jRo_of (by decide)) (Nat.le_of_ble_eq_true rfl) ⟨Nat.le_of_ble_eq_true rfl, Nat.le_of_ble_eq_true rfl⟩ rfl rfl rfl ?_
      refine J_seg ok_X5_town 22 1 (pc' := 42) (ls' := [(2, .inr (.inr (.inl q3.1))), (0, .inr (.inr (.inl x0))), (1, .inl x1)]) (st' := [.inl (-9), .inl q12.1]) rfl ?_
      refine J_eq (jat ok_X5_town 23 (pc := 42) (i := .if_icmp .eq 6) (n := 3) rfl rfl) (tgt := 48) (by decide) (fun c => ?_) (fun c => ?_)
      · have h := (if_pos c).symm.trans h
        refine J_seg ok_X5_town 26 1 (pc' := 49) (ls' := [(2, .inr (.inr (.inl q3.1))), (0, .inr (.inr (.inl x0))), (1, .inl x1)]) (st' := [.inr (.inr (.inl x0))]) rfl ?_
        obtain ⟨v15, h16, h⟩ := Option.bind_eq_some_iff.mp h
        refine J_getR (jat ok_X5_town 27 (pc := 49) (i := .getfield 53) (n := 3) rfl rfl) fl_RX5_53 h16 ?_
        refine J_seg ok_X5_town 28 3 (pc' := 55) (ls' := [(3, .inr (.inr (.inl v15))), (2, .inr (.inr (.inl q3.1))), (0, .inr (.inr (.inl x0))), (1, .inl x1)]) (st' := [.inr (.inr (.inl x0)), .inr (.inr (.inl x0))]) rfl ?_
        obtain ⟨v17, h18, h⟩ := Option.bind_eq_some_iff.mp h
        refine J_getR (jat ok_X5_town 31 (pc := 55) (i := .getfield 57) (n := 3) rfl rfl) fl_RX5_57 h18 ?_
        obtain ⟨a19, h20, h⟩ := Option.bind_eq_some_iff.mp h
        refine J_put (jat ok_X5_town 32 (pc := 58) (i := .putfield 53) (n := 3) rfl rfl) (fp_RX5_53 _) (jPV_obj _ _) h20 ?_
        refine J_seg ok_X5_town 33 2 (pc' := 63) (ls' := [(3, .inr (.inr (.inl v15))), (2, .inr (.inr (.inl q3.1))), (0, .inr (.inr (.inl x0))), (1, .inl x1)]) (st' := [.inr (.inr (.inl v15)), .inr (.inr (.inl x0))]) rfl ?_
        obtain ⟨a21, h22, h⟩ := Option.bind_eq_some_iff.mp h
        refine J_put (jat ok_X5_town 35 (pc := 63) (i := .putfield 57) (n := 3) rfl rfl) (fp_RX5_57 _) (jPV_obj _ _) h22 ?_
        refine J_seg ok_X5_town 36 1 (pc' := 67) (ls' := [(3, .inr (.inr (.inl v15))), (2, .inr (.inr (.inl q3.1))), (0, .inr (.inr (.inl x0))), (1, .inl x1)]) (st' := [.inr (.inr (.inl x0))]) rfl ?_
        obtain ⟨v23, h24, h⟩ := Option.bind_eq_some_iff.mp h
        refine J_getR (jat ok_X5_town 37 (pc := 67) (i := .getfield 28) (n := 3) rfl rfl) fl_RX5_28 h24 ?_
        refine J_seg ok_X5_town 38 1 (pc' := 71) (ls' := [(3, .inr (.inr (.inl v15))), (2, .inr (.inr (.inl q3.1))), (0, .inr (.inr (.inl x0))), (1, .inl x1)]) (st' := [.inr (.inr (.inl x0)), .inr (.inr (.inl v23))]) rfl ?_
        obtain ⟨v25, h26, h⟩ := Option.bind_eq_some_iff.mp h
        refine J_getR (jat ok_X5_town 39 (pc := 71) (i := .getfield 53) (n := 3) rfl rfl) fl_RX5_53 h26 ?_
        by_cases c29 : qO a21 v23 4 = true
        case neg => exact absurd ((if_neg c29).symm.trans h) (by simp)
        have h := (if_pos c29).symm.trans h
        obtain ⟨q27, h28, h⟩ := Option.bind_eq_some_iff.mp h
        refine J_callV (md' := md_X4_begin) (As := [.inr (.inr (.inl v25))]) (st := []) (cs' := (0, 0)) (st' := []) (jat ok_X5_town 40 (pc := 74) (i := .invokevirtual 63) (n := 3) rfl rfl) ml_RX5_63 yv_X4_begin c29 (c_X4_begin l g (d + 3) h28) (jRo_of (by decide)) (Nat.le_of_ble_eq_true rfl) ⟨Nat.le_of_ble_eq_true rfl, Nat.le_of_ble_eq_true rfl⟩ rfl rfl rfl ?_
        refine J_seg ok_X5_town 41 1 (pc' := 78) (ls' := [(3, .inr (.inr (.inl v15))), (2, .inr (.inr (.inl q3.1))), (0, .inr (.inr (.inl x0))), (1, .inl x1)]) (st' := [.inr (.inr (.inl x0))]) rfl ?_
        obtain ⟨v30, h31, h⟩ := Option.bind_eq_some_iff.mp h
        refine J_getR (jat ok_X5_town 42 (pc := 78) (i := .getfield 32) (n := 3) rfl rfl) fl_RX5_32 h31 ?_
        refine J_seg ok_X5_town 43 2 (pc' := 85) (ls' := [(4, .inr (.inr (.inl v30))), (3, .inr (.inr (.inl v15))), (2, .inr (.inr (.inl q3.1))), (0, .inr (.inr (.inl x0))), (1, .inl x1)]) (st' := [.inr (.inr (.inl v30))]) rfl ?_
        obtain ⟨v32, h33, h⟩ := Option.bind_eq_some_iff.mp h
        refine J_alen (jat ok_X5_town 45 (pc := 85) (i := .arraylength) (n := 1) rfl rfl) h33 ?_
        refine J_seg ok_X5_town 46 3 (pc' := 91) (ls' := [(6, .inl 0), (5, .inl v32), (4, .inr (.inr (.inl v30))), (3, .inr (.inr (.inl v15))), (2, .inr (.inr (.inl q3.1))), (0, .inr (.inr (.inl x0))), (1, .inl x1)]) (st' := []) rfl ?_
        obtain ⟨q38, h39, h⟩ := Option.bind_eq_some_iff.mp h
        refine J_sub (ls' := [(0, .inr (.inr (.inl x0))), (4, .inr (.inr (.inl v30))), (5, .inl v32), (6, .inl 0)]) [5, 2, 1, 0] rfl ?_
        refine J_loop (pE := 117) (lh := fun t41 => [(0, .inr (.inr (.inl x0))), (4, .inr (.inr (.inl v30))), (5, .inl v32), (6, .inl t41)]) (lx := fun z40 => [(0, .inr (.inr (.inl x0)))]) (P := jRetN) (fun s ah out hb hR hX hN => k_X5_town_b91 d s ah out hb hR hX hN) jfuel 0 _ _ h39 (fun r e => ?_) (fun z40 e => ?_)
        · subst e
          dsimp only at h
          cases h
        · subst e
          dsimp only at h
          refine J_seg ok_X5_town 61 1 (pc' := 118) (ls' := [(0, .inr (.inr (.inl x0)))]) (st' := [.inr (.inr (.inl x0))]) rfl ?_
          obtain ⟨v42, h43, h⟩ := Option.bind_eq_some_iff.mp h
          refine J_getR (jat ok_X5_town 62 (pc := 118) (i := .getfield 53) (n := 3) rfl rfl) fl_RX5_53 h43 ?_
          obtain ⟨v44, h45, h⟩ := Option.bind_eq_some_iff.mp h
          refine J_getI (jat ok_X5_town 63 (pc := 121) (i := .getfield 127) (n := 3) rfl rfl) fl_RX5_127 h45 ?_
          have h := Option.some.inj h
          subst h
          exact hR _ _ (jat ok_X5_town 64 (pc := 124) (i := .ireturn) (n := 1) rfl rfl)
      · have h := (if_neg c).symm.trans h
        refine J_seg ok_X5_town 24 1 (pc' := 47) (ls' := [(2, .inr (.inr (.inl q3.1))), (0, .inr (.inr (.inl x0))), (1, .inl x1)]) (st' := [.inl (-4)]) rfl ?_
        have h := Option.some.inj h
        subst h
        exact hR _ _ (jat ok_X5_town 25 (pc := 47) (i := .ireturn) (n := 1) rfl rfl)
    · have h := (if_neg c).symm.trans h
      refine J_seg ok_X5_town 12 2 (pc' := 24) (ls' := [(2, .inr (.inr (.inl q3.1))), (0, .inr (.inr (.inl x0))), (1, .inl x1)]) (st' := [.inl 1, .inr (.inr (.inl x0))]) rfl ?_
      by_cases c48 : qO q5.2 x0 5 = true
      case neg => exact absurd ((if_neg c48).symm.trans h) (by simp)
      have h := (if_pos c48).symm.trans h
      obtain ⟨q46, h47, h⟩ := Option.bind_eq_some_iff.mp h
      refine J_callV (md' := md_X5_find) (As := [.inl 1]) (st := []) (cs' := (0, 0)) (st' := [.inl q46.1]) (jat ok_X5_town 14 (pc := 24) (i := .invokevirtual 75) (n := 3) rfl rfl) ml_RX5_75 yv_X5_find c48 (c_X5_find l g (d + 5) h47) (jRo_of (by decide)) (Nat.le_of_ble_eq_true rfl) ⟨Nat.le_of_ble_eq_true rfl, Nat.le_of_ble_eq_true rfl⟩ rfl rfl rfl ?_
      have h := Option.some.inj h
      subst h
      exact hR _ _ (jat ok_X5_town 15 (pc := 27) (i := .ireturn) (n := 1) rfl rfl)
  · have h := (if_pos c).symm.trans h
    refine J_seg ok_X5_town 7 1 (pc' := 14) (ls' := [(2, .inr (.inr (.inl q3.1))), (0, .inr (.inr (.inl x0))), (1, .inl x1)]) (st' := [.inl (-1)]) rfl ?_
    have h := Option.some.inj h
    subst h
    exact hR _ _ (jat ok_X5_town 8 (pc := 14) (i := .ireturn) (n := 1) rfl rfl)
theorem c_X5_town (l : Launch) (g : GX) (d : Nat) {x0 : Option Nat} {x1 : Int32} {ah : AH} {q : Int32 × AH} (h : f_X5_town x0 x1 ah = some q) : jM l g (d + 6) md_X5_town [.inr (.inr (.inl x0)), .inl x1] ah (some (.inl q.1)) q.2 :=
  jM_of (by decide) (Nat.le_of_ble_eq_true rfl) (k_X5_town d ah q h (fun pc ls hd => J_reti hd rfl (jPV_int _) rfl (Nat.le_refl _) rfl rfl))
