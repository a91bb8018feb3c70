def f_L_law_b18_j212 (g : GX) (k1 : Option Nat) (k2 : Option Nat) (x3 : Int32) (ah : AH) : Option ((Int32 × AH) ⊕ (((Unit) × AH) ⊕ ((Int32) × AH))) :=
  (gS g (x3 + 1)).bind fun v7 => (gS g (x3 + 2)).bind fun v9 => if qO ah k1 5 = true then ((f_X5_row k1 v7 v9 ah).bind fun q11 => (gS g (x3 + 1)).bind fun v14 => (gS g (x3 + 2)).bind fun v16 => if qO q11.2 k2 6 = true then ((f_X6_row k2 v14 v16 q11.2).bind fun q18 => if q11.1 = q18.1 then (some (.inr (.inr (x3 + 6, q18.2)))) else (some (.inl (0, q18.2)))) else none) else none
set_option maxRecDepth 100000 in
set_option maxHeartbeats 4000000 in
theorem k_L_law_b18_j212 {l : Launch} {g : GX} {nm : String} (d : Nat) {Q : jQ} {k1 : Option Nat} {k2 : Option Nat} {x3 : Int32} (ah : AH) (out : (Int32 × AH) ⊕ (((Unit) × AH) ⊕ ((Int32) × AH))) (h : f_L_law_b18_j212 g k1 k2 x3 ah = some out) (hR : ∀ q, out = .inl q → jRetI l g (md_L_law nm) room_1 Q (77, 8152) q.1 q.2) (hX : ∀ q, out = .inr (.inl q) → J l g (md_L_law nm) room_1 Q 1294 [] [] q.2 (77, 8152)) (hN : ∀ q, out = .inr (.inr q) → J l g (md_L_law nm) room_1 Q 18 [(0, .inr (.inr (.inr false))), (1, .inr (.inr (.inl k1))), (2, .inr (.inr (.inl k2))), (3, .inl q.1)] [] q.2 (77, 8152)) : J l g (md_L_law nm) room_1 Q 212 [(0, .inr (.inr (.inr false))), (1, .inr (.inr (.inl k1))), (2, .inr (.inr (.inl k2))), (3, .inl x3)] [] ah (77, 8152) := by
  unfold f_L_law_b18_j212 at h
  refine J_seg ok_L_law_0 21 5 (pc' := 217) (ls' := [(0, .inr (.inr (.inr false))), (1, .inr (.inr (.inl k1))), (2, .inr (.inr (.inl k2))), (3, .inl x3)]) (st' := [.inl (x3 + 1), .inr (.inr (.inr false)), .inr (.inr (.inl k1))]) rfl ?_
  obtain ⟨v7, h8, h⟩ := Option.bind_eq_some_iff.mp h
  refine J_sget (jat ok_L_law_0 26 (pc := 217) (i := .iaload) (n := 1) rfl rfl) h8 ?_
  refine J_seg ok_L_law_0 27 4 (pc' := 222) (ls' := [(0, .inr (.inr (.inr false))), (1, .inr (.inr (.inl k1))), (2, .inr (.inr (.inl k2))), (3, .inl x3)]) (st' := [.inl (x3 + 2), .inr (.inr (.inr false)), .inl v7, .inr (.inr (.inl k1))]) rfl ?_
  obtain ⟨v9, h10, h⟩ := Option.bind_eq_some_iff.mp h
  refine J_sget (jat ok_L_law_0 31 (pc := 222) (i := .iaload) (n := 1) rfl rfl) h10 ?_
  by_cases c13 : qO ah k1 5 = true
  case neg => exact absurd ((if_neg c13).symm.trans h) (by simp)
  have h := (if_pos c13).symm.trans h
  obtain ⟨q11, h12, h⟩ := Option.bind_eq_some_iff.mp h
  refine J_callV (md' := md_X5_row) (As := [.inl v7, .inl v9]) (st := []) (cs' := (77, 8152)) (st' := [.inl q11.1]) (jat ok_L_law_0 32 (pc := 223) (i := .invokevirtual 13) (n := 3) rfl rfl) ml_RL_13 yv_X5_row c13 (c_X5_row l g 26 h12) (jRo_law (by decide) (by decide)) (Nat.le_of_ble_eq_true rfl) ⟨Nat.le_of_ble_eq_true rfl, Nat.le_of_ble_eq_true rfl⟩ rfl rfl rfl ?_
  refine J_seg ok_L_law_0 33 5 (pc' := 231) (ls' := [(0, .inr (.inr (.inr false))), (1, .inr (.inr (.inl k1))), (2, .inr (.inr (.inl k2))), (3, .inl x3)]) (st' := [.inl (x3 + 1), .inr (.inr (.inr false)), .inr (.inr (.inl k2)), .inl q11.1]) rfl ?_
  obtain ⟨v14, h15, h⟩ := Option.bind_eq_some_iff.mp h
  refine J_sget (jat ok_L_law_0 38 (pc := 231) (i := .iaload) (n := 1) rfl rfl) h15 ?_
  refine J_seg ok_L_law_0 39 4 (pc' := 236) (ls' := [(0, .inr (.inr (.inr false))), (1, .inr (.inr (.inl k1))), (2, .inr (.inr (.inl k2))), (3, .inl x3)]) (st' := [.inl (x3 + 2), .inr (.inr (.inr false)), .inl v14, .inr (.inr (.inl k2)), .inl q11.1]) rfl ?_
  obtain ⟨v16, h17, h⟩ := Option.bind_eq_some_iff.mp h
  refine J_sget (jat ok_L_law_0 43 (pc := 236) (i := .iaload) (n := 1) rfl rfl) h17 ?_
  by_cases c20 : qO q11.2 k2 6 = true
  case neg => exact absurd ((if_neg c20).symm.trans h) (by simp)
  have h := (if_pos c20).symm.trans h
  obtain ⟨q18, h19, h⟩ := Option.bind_eq_some_iff.mp h
  refine J_callV (md' := md_X6_row) (As := [.inl v14, .inl v16]) (st := [.inl q11.1]) (cs' := (77, 8152)) (st' := [.inl q18.1, .inl q11.1]) (jat ok_L_law_0 44 (pc := 237) (i := .invokevirtual 17) (n := 3) rfl rfl) ml_RL_17 yv_X6_row c20 (c_X6_row l g 27 h19) (jRo_law (by decide) (by decide)) (Nat.le_of_ble_eq_true rfl) ⟨Nat.le_of_ble_eq_true rfl, Nat.le_of_ble_eq_true rfl⟩ rfl rfl rfl ?_
  refine J_eq (jat ok_L_law_0 45 (pc := 240) (i := .if_icmp .eq 1048) (n := 3) rfl rfl) (tgt := 1288) (by decide) (fun c => ?_) (fun c => ?_)
  · have h := (if_pos c).symm.trans h
    refine J_seg ok_L_law_14 8 2 (pc' := 18) (ls' := [(3, .inl (x3 + 6)), (0, .inr (.inr (.inr false))), (1, .inr (.inr (.inl k1))), (2, .inr (.inr (.inl k2)))]) (st' := []) rfl ?_
    exact J_sub (ls' := [(0, .inr (.inr (.inr false))), (1, .inr (.inr (.inl k1))), (2, .inr (.inr (.inl k2))), (3, .inl (x3 + 6))]) [1, 2, 3, 0] rfl (hN (x3 + 6, q18.2) (Option.some.inj h).symm)
  · have h := (if_neg c).symm.trans h
    refine J_seg ok_L_law_0 46 1 (pc' := 244) (ls' := [(0, .inr (.inr (.inr false))), (1, .inr (.inr (.inl k1))), (2, .inr (.inr (.inl k2))), (3, .inl x3)]) (st' := [.inl 0]) rfl ?_
    exact hR _ (Option.some.inj h).symm _ _ (jat ok_L_law_0 47 (pc := 244) (i := .ireturn) (n := 1) rfl rfl)
def f_L_law_b18_j245 (g : GX) (k1 : Option Nat) (k2 : Option Nat) (x3 : Int32) (ah : AH) : Option ((Int32 × AH) ⊕ (((Unit) × AH) ⊕ ((Int32) × AH))) :=
  (gS g (x3 + 1)).bind fun v21 => (gS g (x3 + 2)).bind fun v23 => (gS g (x3 + 3)).bind fun v25 => if qO ah k1 5 = true then ((f_X5_lay k1 v21 v23 v25 ah).bind fun q27 => (gS g (x3 + 1)).bind fun v30 => (gS g (x3 + 2)).bind fun v32 => (gS g (x3 + 3)).bind fun v34 => if qO q27.2 k2 6 = true then ((f_X6_lay k2 v30 v32 v34 q27.2).bind fun q36 => if q27.1 = q36.1 then (some (.inr (.inr (x3 + 6, q36.2)))) else (some (.inl (0, q36.2)))) else none) else none
set_option maxRecDepth 100000 in
set_option maxHeartbeats 4000000 in
theorem k_L_law_b18_j245 {l : Launch} {g : GX} {nm : String} (d : Nat) {Q : jQ} {k1 : Option Nat} {k2 : Option Nat} {x3 : Int32} (ah : AH) (out : (Int32 × AH) ⊕ (((Unit) × AH) ⊕ ((Int32) × AH))) (h : f_L_law_b18_j245 g k1 k2 x3 ah = some out) (hR : ∀ q, out = .inl q → jRetI l g (md_L_law nm) room_1 Q (77, 8152) q.1 q.2) (hX : ∀ q, out = .inr (.inl q) → J l g (md_L_law nm) room_1 Q 1294 [] [] q.2 (77, 8152)) (hN : ∀ q, out = .inr (.inr q) → J l g (md_L_law nm) room_1 Q 18 [(0, .inr (.inr (.inr false))), (1, .inr (.inr (.inl k1))), (2, .inr (.inr (.inl k2))), (3, .inl q.1)] [] q.2 (77, 8152)) : J l g (md_L_law nm) room_1 Q 245 [(0, .inr (.inr (.inr false))), (1, .inr (.inr (.inl k1))), (2, .inr (.inr (.inl k2))), (3, .inl x3)] [] ah (77, 8152) := by
  unfold f_L_law_b18_j245 at h
  refine J_seg ok_L_law_1 0 5 (pc' := 250) (ls' := [(0, .inr (.inr (.inr false))), (1, .inr (.inr (.inl k1))), (2, .inr (.inr (.inl k2))), (3, .inl x3)]) (st' := [.inl (x3 + 1), .inr (.inr (.inr false)), .inr (.inr (.inl k1))]) rfl ?_
  obtain ⟨v21, h22, h⟩ := Option.bind_eq_some_iff.mp h
  refine J_sget (jat ok_L_law_1 5 (pc := 250) (i := .iaload) (n := 1) rfl rfl) h22 ?_
  refine J_seg ok_L_law_1 6 4 (pc' := 255) (ls' := [(0, .inr (.inr (.inr false))), (1, .inr (.inr (.inl k1))), (2, .inr (.inr (.inl k2))), (3, .inl x3)]) (st' := [.inl (x3 + 2), .inr (.inr (.inr false)), .inl v21, .inr (.inr (.inl k1))]) rfl ?_
  obtain ⟨v23, h24, h⟩ := Option.bind_eq_some_iff.mp h
  refine J_sget (jat ok_L_law_1 10 (pc := 255) (i := .iaload) (n := 1) rfl rfl) h24 ?_
  refine J_seg ok_L_law_1 11 4 (pc' := 260) (ls' := [(0, .inr (.inr (.inr false))), (1, .inr (.inr (.inl k1))), (2, .inr (.inr (.inl k2))), (3, .inl x3)]) (st' := [.inl (x3 + 3), .inr (.inr (.inr false)), .inl v23, .inl v21, .inr (.inr (.inl k1))]) rfl ?_
  obtain ⟨v25, h26, h⟩ := Option.bind_eq_some_iff.mp h
  refine J_sget (jat ok_L_law_1 15 (pc := 260) (i := .iaload) (n := 1) rfl rfl) h26 ?_
  by_cases c29 : qO ah k1 5 = true
  case neg => exact absurd ((if_neg c29).symm.trans h) (by simp)
  have h := (if_pos c29).symm.trans h
  obtain ⟨q27, h28, h⟩ := Option.bind_eq_some_iff.mp h
  refine J_callV (md' := md_X5_lay) (As := [.inl v21, .inl v23, .inl v25]) (st := []) (cs' := (77, 8152)) (st' := [.inl q27.1]) (jat ok_L_law_1 16 (pc := 261) (i := .invokevirtual 18) (n := 3) rfl rfl) ml_RL_18 yv_X5_lay c29 (c_X5_lay l g 27 h28) (jRo_law (by decide) (by decide)) (Nat.le_of_ble_eq_true rfl) ⟨Nat.le_of_ble_eq_true rfl, Nat.le_of_ble_eq_true rfl⟩ rfl rfl rfl ?_
  refine J_seg ok_L_law_1 17 5 (pc' := 269) (ls' := [(0, .inr (.inr (.inr false))), (1, .inr (.inr (.inl k1))), (2, .inr (.inr (.inl k2))), (3, .inl x3)]) (st' := [.inl (x3 + 1), .inr (.inr (.inr false)), .inr (.inr (.inl k2)), .inl q27.1]) rfl ?_
  obtain ⟨v30, h31, h⟩ := Option.bind_eq_some_iff.mp h
  refine J_sget (jat ok_L_law_1 22 (pc := 269) (i := .iaload) (n := 1) rfl rfl) h31 ?_
  refine J_seg ok_L_law_1 23 4 (pc' := 274) (ls' := [(0, .inr (.inr (.inr false))), (1, .inr (.inr (.inl k1))), (2, .inr (.inr (.inl k2))), (3, .inl x3)]) (st' := [.inl (x3 + 2), .inr (.inr (.inr false)), .inl v30, .inr (.inr (.inl k2)), .inl q27.1]) rfl ?_
  obtain ⟨v32, h33, h⟩ := Option.bind_eq_some_iff.mp h
  refine J_sget (jat ok_L_law_1 27 (pc := 274) (i := .iaload) (n := 1) rfl rfl) h33 ?_
  refine J_seg ok_L_law_1 28 4 (pc' := 279) (ls' := [(0, .inr (.inr (.inr false))), (1, .inr (.inr (.inl k1))), (2, .inr (.inr (.inl k2))), (3, .inl x3)]) (st' := [.inl (x3 + 3), .inr (.inr (.inr false)), .inl v32, .inl v30, .inr (.inr (.inl k2)), .inl q27.1]) rfl ?_
  obtain ⟨v34, h35, h⟩ := Option.bind_eq_some_iff.mp h
  refine J_sget (jat ok_L_law_1 32 (pc := 279) (i := .iaload) (n := 1) rfl rfl) h35 ?_
  by_cases c38 : qO q27.2 k2 6 = true
  case neg => exact absurd ((if_neg c38).symm.trans h) (by simp)
  have h := (if_pos c38).symm.trans h
  obtain ⟨q36, h37, h⟩ := Option.bind_eq_some_iff.mp h
  refine J_callV (md' := md_X6_lay) (As := [.inl v30, .inl v32, .inl v34]) (st := [.inl q27.1]) (cs' := (77, 8152)) (st' := [.inl q36.1, .inl q27.1]) (jat ok_L_law_1 33 (pc := 280) (i := .invokevirtual 22) (n := 3) rfl rfl) ml_RL_22 yv_X6_lay c38 (c_X6_lay l g 26 h37) (jRo_law (by decide) (by decide)) (Nat.le_of_ble_eq_true rfl) ⟨Nat.le_of_ble_eq_true rfl, Nat.le_of_ble_eq_true rfl⟩ rfl rfl rfl ?_
  refine J_eq (jat ok_L_law_1 34 (pc := 283) (i := .if_icmp .eq 1005) (n := 3) rfl rfl) (tgt := 1288) (by decide) (fun c => ?_) (fun c => ?_)
  · have h := (if_pos c).symm.trans h
    refine J_seg ok_L_law_14 8 2 (pc' := 18) (ls' := [(3, .inl (x3 + 6)), (0, .inr (.inr (.inr false))), (1, .inr (.inr (.inl k1))), (2, .inr (.inr (.inl k2)))]) (st' := []) rfl ?_
    exact J_sub (ls' := [(0, .inr (.inr (.inr false))), (1, .inr (.inr (.inl k1))), (2, .inr (.inr (.inl k2))), (3, .inl (x3 + 6))]) [1, 2, 3, 0] rfl (hN (x3 + 6, q36.2) (Option.some.inj h).symm)
  · have h := (if_neg c).symm.trans h
    refine J_seg ok_L_law_1 35 1 (pc' := 287) (ls' := [(0, .inr (.inr (.inr false))), (1, .inr (.inr (.inl k1))), (2, .inr (.inr (.inl k2))), (3, .inl x3)]) (st' := [.inl 0]) rfl ?_
    exact hR _ (Option.some.inj h).symm _ _ (jat ok_L_law_1 36 (pc := 287) (i := .ireturn) (n := 1) rfl rfl)
def f_L_law_b18_j288 (g : GX) (k1 : Option Nat) (k2 : Option Nat) (x3 : Int32) (ah : AH) : Option ((Int32 × AH) ⊕ (((Unit) × AH) ⊕ ((Int32) × AH))) :=
  (gS g (x3 + 1)).bind fun v39 => (gS g (x3 + 2)).bind fun v41 => if qO ah k1 5 = true then ((f_X5_at k1 v39 v41 ah).bind fun q43 => (gS g (x3 + 1)).bind fun v46 => (gS g (x3 + 2)).bind fun v48 => if qO q43.2 k2 6 = true then ((f_X6_at k2 v46 v48 q43.2).bind fun q50 => if q43.1 = q50.1 then (some (.inr (.inr (x3 + 6, q50.2)))) else (some (.inl (0, q50.2)))) else none) else none
set_option maxRecDepth 100000 in
set_option maxHeartbeats 4000000 in
theorem k_L_law_b18_j288 {l : Launch} {g : GX} {nm : String} (d : Nat) {Q : jQ} {k1 : Option Nat} {k2 : Option Nat} {x3 : Int32} (ah : AH) (out : (Int32 × AH) ⊕ (((Unit) × AH) ⊕ ((Int32) × AH))) (h : f_L_law_b18_j288 g k1 k2 x3 ah = some out) (hR : ∀ q, out = .inl q → jRetI l g (md_L_law nm) room_1 Q (77, 8152) q.1 q.2) (hX : ∀ q, out = .inr (.inl q) → J l g (md_L_law nm) room_1 Q 1294 [] [] q.2 (77, 8152)) (hN : ∀ q, out = .inr (.inr q) → J l g (md_L_law nm) room_1 Q 18 [(0, .inr (.inr (.inr false))), (1, .inr (.inr (.inl k1))), (2, .inr (.inr (.inl k2))), (3, .inl q.1)] [] q.2 (77, 8152)) : J l g (md_L_law nm) room_1 Q 288 [(0, .inr (.inr (.inr false))), (1, .inr (.inr (.inl k1))), (2, .inr (.inr (.inl k2))), (3, .inl x3)] [] ah (77, 8152) := by
  unfold f_L_law_b18_j288 at h
  refine J_seg ok_L_law_1 37 5 (pc' := 293) (ls' := [(0, .inr (.inr (.inr false))), (1, .inr (.inr (.inl k1))), (2, .inr (.inr (.inl k2))), (3, .inl x3)]) (st' := [.inl (x3 + 1), .inr (.inr (.inr false)), .inr (.inr (.inl k1))]) rfl ?_
  obtain ⟨v39, h40, h⟩ := Option.bind_eq_some_iff.mp h
  refine J_sget (jat ok_L_law_1 42 (pc := 293) (i := .iaload) (n := 1) rfl rfl) h40 ?_
  refine J_seg ok_L_law_1 43 4 (pc' := 298) (ls' := [(0, .inr (.inr (.inr false))), (1, .inr (.inr (.inl k1))), (2, .inr (.inr (.inl k2))), (3, .inl x3)]) (st' := [.inl (x3 + 2), .inr (.inr (.inr false)), .inl v39, .inr (.inr (.inl k1))]) rfl ?_
  obtain ⟨v41, h42, h⟩ := Option.bind_eq_some_iff.mp h
  refine J_sget (jat ok_L_law_1 47 (pc := 298) (i := .iaload) (n := 1) rfl rfl) h42 ?_
  by_cases c45 : qO ah k1 5 = true
  case neg => exact absurd ((if_neg c45).symm.trans h) (by simp)
  have h := (if_pos c45).symm.trans h
  obtain ⟨q43, h44, h⟩ := Option.bind_eq_some_iff.mp h
  refine J_callV (md' := md_X5_at) (As := [.inl v39, .inl v41]) (st := []) (cs' := (77, 8152)) (st' := [.inl q43.1]) (jat ok_L_law_1 48 (pc := 299) (i := .invokevirtual 23) (n := 3) rfl rfl) ml_RL_23 yv_X5_at c45 (c_X5_at l g 27 h44) (jRo_law (by decide) (by decide)) (Nat.le_of_ble_eq_true rfl) ⟨Nat.le_of_ble_eq_true rfl, Nat.le_of_ble_eq_true rfl⟩ rfl rfl rfl ?_
  refine J_seg ok_L_law_1 49 5 (pc' := 307) (ls' := [(0, .inr (.inr (.inr false))), (1, .inr (.inr (.inl k1))), (2, .inr (.inr (.inl k2))), (3, .inl x3)]) (st' := [.inl (x3 + 1), .inr (.inr (.inr false)), .inr (.inr (.inl k2)), .inl q43.1]) rfl ?_
  obtain ⟨v46, h47, h⟩ := Option.bind_eq_some_iff.mp h
  refine J_sget (jat ok_L_law_1 54 (pc := 307) (i := .iaload) (n := 1) rfl rfl) h47 ?_
  refine J_seg ok_L_law_1 55 4 (pc' := 312) (ls' := [(0, .inr (.inr (.inr false))), (1, .inr (.inr (.inl k1))), (2, .inr (.inr (.inl k2))), (3, .inl x3)]) (st' := [.inl (x3 + 2), .inr (.inr (.inr false)), .inl v46, .inr (.inr (.inl k2)), .inl q43.1]) rfl ?_
  obtain ⟨v48, h49, h⟩ := Option.bind_eq_some_iff.mp h
  refine J_sget (jat ok_L_law_1 59 (pc := 312) (i := .iaload) (n := 1) rfl rfl) h49 ?_
  by_cases c52 : qO q43.2 k2 6 = true
  case neg => exact absurd ((if_neg c52).symm.trans h) (by simp)
  have h := (if_pos c52).symm.trans h
  obtain ⟨q50, h51, h⟩ := Option.bind_eq_some_iff.mp h
  refine J_callV (md' := md_X6_at) (As := [.inl v46, .inl v48]) (st := [.inl q43.1]) (cs' := (77, 8152)) (st' := [.inl q50.1, .inl q43.1]) (jat ok_L_law_1 60 (pc := 313) (i := .invokevirtual 26) (n := 3) rfl rfl) ml_RL_26 yv_X6_at c52 (c_X6_at l g 26 h51) (jRo_law (by decide) (by decide)) (Nat.le_of_ble_eq_true rfl) ⟨Nat.le_of_ble_eq_true rfl, Nat.le_of_ble_eq_true rfl⟩ rfl rfl rfl ?_
  refine J_eq (jat ok_L_law_1 61 (pc := 316) (i := .if_icmp .eq 972) (n := 3) rfl rfl) (tgt := 1288) (by decide) (fun c => ?_) (fun c => ?_)
  · have h := (if_pos c).symm.trans h
    refine J_seg ok_L_law_14 8 2 (pc' := 18) (ls' := [(3, .inl (x3 + 6)), (0, .inr (.inr (.inr false))), (1, .inr (.inr (.inl k1))), (2, .inr (.inr (.inl k2)))]) (st' := []) rfl ?_
    exact J_sub (ls' := [(0, .inr (.inr (.inr false))), (1, .inr (.inr (.inl k1))), (2, .inr (.inr (.inl k2))), (3, .inl (x3 + 6))]) [1, 2, 3, 0] rfl (hN (x3 + 6, q50.2) (Option.some.inj h).symm)
  · have h := (if_neg c).symm.trans h
    refine J_seg ok_L_law_1 62 1 (pc' := 320) (ls' := [(0, .inr (.inr (.inr false))), (1, .inr (.inr (.inl k1))), (2, .inr (.inr (.inl k2))), (3, .inl x3)]) (st' := [.inl 0]) rfl ?_
    exact hR _ (Option.some.inj h).symm _ _ (jat ok_L_law_1 63 (pc := 320) (i := .ireturn) (n := 1) rfl rfl)
def f_L_law_b18_j321 (g : GX) (k1 : Option Nat) (k2 : Option Nat) (x3 : Int32) (ah : AH) : Option ((Int32 × AH) ⊕ (((Unit) × AH) ⊕ ((Int32) × AH))) :=
  (gS g (x3 + 1)).bind fun v53 => if qO ah k1 5 = true then ((f_X5_tear k1 v53 ah).bind fun q55 => (gS g (x3 + 1)).bind fun v58 => if qO q55.2 k2 6 = true then ((f_X6_tear k2 v58 q55.2).bind fun q60 => if q55.1 = q60.1 then (some (.inr (.inr (x3 + 6, q60.2)))) else (some (.inl (0, q60.2)))) else none) else none
set_option maxRecDepth 100000 in
set_option maxHeartbeats 4000000 in
theorem k_L_law_b18_j321 {l : Launch} {g : GX} {nm : String} (d : Nat) {Q : jQ} {k1 : Option Nat} {k2 : Option Nat} {x3 : Int32} (ah : AH) (out : (Int32 × AH) ⊕ (((Unit) × AH) ⊕ ((Int32) × AH))) (h : f_L_law_b18_j321 g k1 k2 x3 ah = some out) (hR : ∀ q, out = .inl q → jRetI l g (md_L_law nm) room_1 Q (77, 8152) q.1 q.2) (hX : ∀ q, out = .inr (.inl q) → J l g (md_L_law nm) room_1 Q 1294 [] [] q.2 (77, 8152)) (hN : ∀ q, out = .inr (.inr q) → J l g (md_L_law nm) room_1 Q 18 [(0, .inr (.inr (.inr false))), (1, .inr (.inr (.inl k1))), (2, .inr (.inr (.inl k2))), (3, .inl q.1)] [] q.2 (77, 8152)) : J l g (md_L_law nm) room_1 Q 321 [(0, .inr (.inr (.inr false))), (1, .inr (.inr (.inl k1))), (2, .inr (.inr (.inl k2))), (3, .inl x3)] [] ah (77, 8152) := by
  unfold f_L_law_b18_j321 at h
  refine J_seg ok_L_law_2 0 5 (pc' := 326) (ls' := [(0, .inr (.inr (.inr false))), (1, .inr (.inr (.inl k1))), (2, .inr (.inr (.inl k2))), (3, .inl x3)]) (st' := [.inl (x3 + 1), .inr (.inr (.inr false)), .inr (.inr (.inl k1))]) rfl ?_
  obtain ⟨v53, h54, h⟩ := Option.bind_eq_some_iff.mp h
  refine J_sget (jat ok_L_law_2 5 (pc := 326) (i := .iaload) (n := 1) rfl rfl) h54 ?_
  by_cases c57 : qO ah k1 5 = true
  case neg => exact absurd ((if_neg c57).symm.trans h) (by simp)
  have h := (if_pos c57).symm.trans h
  obtain ⟨q55, h56, h⟩ := Option.bind_eq_some_iff.mp h
  refine J_callV (md' := md_X5_tear) (As := [.inl v53]) (st := []) (cs' := (77, 8152)) (st' := [.inl q55.1]) (jat ok_L_law_2 6 (pc := 327) (i := .invokevirtual 27) (n := 3) rfl rfl) ml_RL_27 yv_X5_tear c57 (c_X5_tear l g 28 h56) (jRo_law (by decide) (by decide)) (Nat.le_of_ble_eq_true rfl) ⟨Nat.le_of_ble_eq_true rfl, Nat.le_of_ble_eq_true rfl⟩ rfl rfl rfl ?_
  refine J_seg ok_L_law_2 7 5 (pc' := 335) (ls' := [(0, .inr (.inr (.inr false))), (1, .inr (.inr (.inl k1))), (2, .inr (.inr (.inl k2))), (3, .inl x3)]) (st' := [.inl (x3 + 1), .inr (.inr (.inr false)), .inr (.inr (.inl k2)), .inl q55.1]) rfl ?_
  obtain ⟨v58, h59, h⟩ := Option.bind_eq_some_iff.mp h
  refine J_sget (jat ok_L_law_2 12 (pc := 335) (i := .iaload) (n := 1) rfl rfl) h59 ?_
  by_cases c62 : qO q55.2 k2 6 = true
  case neg => exact absurd ((if_neg c62).symm.trans h) (by simp)
  have h := (if_pos c62).symm.trans h
  obtain ⟨q60, h61, h⟩ := Option.bind_eq_some_iff.mp h
  refine J_callV (md' := md_X6_tear) (As := [.inl v58]) (st := [.inl q55.1]) (cs' := (77, 8152)) (st' := [.inl q60.1, .inl q55.1]) (jat ok_L_law_2 13 (pc := 336) (i := .invokevirtual 31) (n := 3) rfl rfl) ml_RL_31 yv_X6_tear c62 (c_X6_tear l g 27 h61) (jRo_law (by decide) (by decide)) (Nat.le_of_ble_eq_true rfl) ⟨Nat.le_of_ble_eq_true rfl, Nat.le_of_ble_eq_true rfl⟩ rfl rfl rfl ?_
  refine J_eq (jat ok_L_law_2 14 (pc := 339) (i := .if_icmp .eq 949) (n := 3) rfl rfl) (tgt := 1288) (by decide) (fun c => ?_) (fun c => ?_)
  · have h := (if_pos c).symm.trans h
    refine J_seg ok_L_law_14 8 2 (pc' := 18) (ls' := [(3, .inl (x3 + 6)), (0, .inr (.inr (.inr false))), (1, .inr (.inr (.inl k1))), (2, .inr (.inr (.inl k2)))]) (st' := []) rfl ?_
    exact J_sub (ls' := [(0, .inr (.inr (.inr false))), (1, .inr (.inr (.inl k1))), (2, .inr (.inr (.inl k2))), (3, .inl (x3 + 6))]) [1, 2, 3, 0] rfl (hN (x3 + 6, q60.2) (Option.some.inj h).symm)
  · have h := (if_neg c).symm.trans h
    refine J_seg ok_L_law_2 15 1 (pc' := 343) (ls' := [(0, .inr (.inr (.inr false))), (1, .inr (.inr (.inl k1))), (2, .inr (.inr (.inl k2))), (3, .inl x3)]) (st' := [.inl 0]) rfl ?_
    exact hR _ (Option.some.inj h).symm _ _ (jat ok_L_law_2 16 (pc := 343) (i := .ireturn) (n := 1) rfl rfl)
def f_L_law_b18_j344 (g : GX) (k1 : Option Nat) (k2 : Option Nat) (x3 : Int32) (ah : AH) : Option ((Int32 × AH) ⊕ (((Unit) × AH) ⊕ ((Int32) × AH))) :=
  (gS g (x3 + 1)).bind fun v63 => (gS g (x3 + 2)).bind fun v65 => (gS g (x3 + 3)).bind fun v67 => (gS g (x3 + 4)).bind fun v69 => (gS g (x3 + 5)).bind fun v71 => if qO ah k1 5 = true then ((f_X5_copy k1 v63 v65 v67 v69 v71 ah).bind fun q73 => (gS g (x3 + 1)).bind fun v76 => (gS g (x3 + 2)).bind fun v78 => (gS g (x3 + 3)).bind fun v80 => (gS g (x3 + 4)).bind fun v82 => (gS g (x3 + 5)).bind fun v84 => if qO q73.2 k2 6 = true then ((f_X6_copy k2 v76 v78 v80 v82 v84 q73.2).bind fun q86 => if q73.1 = q86.1 then (some (.inr (.inr (x3 + 6, q86.2)))) else (some (.inl (0, q86.2)))) else none) else none
set_option maxRecDepth 100000 in
set_option maxHeartbeats 4000000 in
theorem k_L_law_b18_j344 {l : Launch} {g : GX} {nm : String} (d : Nat) {Q : jQ} {k1 : Option Nat} {k2 : Option Nat} {x3 : Int32} (ah : AH) (out : (Int32 × AH) ⊕ (((Unit) × AH) ⊕ ((Int32) × AH))) (h : f_L_law_b18_j344 g k1 k2 x3 ah = some out) (hR : ∀ q, out = .inl q → jRetI l g (md_L_law nm) room_1 Q (77, 8152) q.1 q.2) (hX : ∀ q, out = .inr (.inl q) → J l g (md_L_law nm) room_1 Q 1294 [] [] q.2 (77, 8152)) (hN : ∀ q, out = .inr (.inr q) → J l g (md_L_law nm) room_1 Q 18 [(0, .inr (.inr (.inr false))), (1, .inr (.inr (.inl k1))), (2, .inr (.inr (.inl k2))), (3, .inl q.1)] [] q.2 (77, 8152)) : J l g (md_L_law nm) room_1 Q 344 [(0, .inr (.inr (.inr false))), (1, .inr (.inr (.inl k1))), (2, .inr (.inr (.inl k2))), (3, .inl x3)] [] ah (77, 8152) := by
  unfold f_L_law_b18_j344 at h
  refine J_seg ok_L_law_2 17 5 (pc' := 349) (ls' := [(0, .inr (.inr (.inr false))), (1, .inr (.inr (.inl k1))), (2, .inr (.inr (.inl k2))), (3, .inl x3)]) (st' := [.inl (x3 + 1), .inr (.inr (.inr false)), .inr (.inr (.inl k1))]) rfl ?_
  obtain ⟨v63, h64, h⟩ := Option.bind_eq_some_iff.mp h
  refine J_sget (jat ok_L_law_2 22 (pc := 349) (i := .iaload) (n := 1) rfl rfl) h64 ?_
  refine J_seg ok_L_law_2 23 4 (pc' := 354) (ls' := [(0, .inr (.inr (.inr false))), (1, .inr (.inr (.inl k1))), (2, .inr (.inr (.inl k2))), (3, .inl x3)]) (st' := [.inl (x3 + 2), .inr (.inr (.inr false)), .inl v63, .inr (.inr (.inl k1))]) rfl ?_
  obtain ⟨v65, h66, h⟩ := Option.bind_eq_some_iff.mp h
  refine J_sget (jat ok_L_law_2 27 (pc := 354) (i := .iaload) (n := 1) rfl rfl) h66 ?_
  refine J_seg ok_L_law_2 28 4 (pc' := 359) (ls' := [(0, .inr (.inr (.inr false))), (1, .inr (.inr (.inl k1))), (2, .inr (.inr (.inl k2))), (3, .inl x3)]) (st' := [.inl (x3 + 3), .inr (.inr (.inr false)), .inl v65, .inl v63, .inr (.inr (.inl k1))]) rfl ?_
  obtain ⟨v67, h68, h⟩ := Option.bind_eq_some_iff.mp h
  refine J_sget (jat ok_L_law_2 32 (pc := 359) (i := .iaload) (n := 1) rfl rfl) h68 ?_
  refine J_seg ok_L_law_2 33 4 (pc' := 364) (ls' := [(0, .inr (.inr (.inr false))), (1, .inr (.inr (.inl k1))), (2, .inr (.inr (.inl k2))), (3, .inl x3)]) (st' := [.inl (x3 + 4), .inr (.inr (.inr false)), .inl v67, .inl v65, .inl v63, .inr (.inr (.inl k1))]) rfl ?_
  obtain ⟨v69, h70, h⟩ := Option.bind_eq_some_iff.mp h
  refine J_sget (jat ok_L_law_2 37 (pc := 364) (i := .iaload) (n := 1) rfl rfl) h70 ?_
  refine J_seg ok_L_law_2 38 4 (pc' := 369) (ls' := [(0, .inr (.inr (.inr false))), (1, .inr (.inr (.inl k1))), (2, .inr (.inr (.inl k2))), (3, .inl x3)]) (st' := [.inl (x3 + 5), .inr (.inr (.inr false)), .inl v69, .inl v67, .inl v65, .inl v63, .inr (.inr (.inl k1))]) rfl ?_
  obtain ⟨v71, h72, h⟩ := Option.bind_eq_some_iff.mp h
  refine J_sget (jat ok_L_law_2 42 (pc := 369) (i := .iaload) (n := 1) rfl rfl) h72 ?_
  by_cases c75 : qO ah k1 5 = true
  case neg => exact absurd ((if_neg c75).symm.trans h) (by simp)
  have h := (if_pos c75).symm.trans h
  obtain ⟨q73, h74, h⟩ := Option.bind_eq_some_iff.mp h
  refine J_callV (md' := md_X5_copy) (As := [.inl v63, .inl v65, .inl v67, .inl v69, .inl v71]) (st := []) (cs' := (77, 8152)) (st' := [.inl q73.1]) (jat ok_L_law_2 43 (pc := 370) (i := .invokevirtual 32) (n := 3) rfl rfl) ml_RL_32 yv_X5_copy c75 (c_X5_copy l g 26 h74) (jRo_law (by decide) (by decide)) (Nat.le_of_ble_eq_true rfl) ⟨Nat.le_of_ble_eq_true rfl, Nat.le_of_ble_eq_true rfl⟩ rfl rfl rfl ?_
  refine J_seg ok_L_law_2 44 5 (pc' := 378) (ls' := [(0, .inr (.inr (.inr false))), (1, .inr (.inr (.inl k1))), (2, .inr (.inr (.inl k2))), (3, .inl x3)]) (st' := [.inl (x3 + 1), .inr (.inr (.inr false)), .inr (.inr (.inl k2)), .inl q73.1]) rfl ?_
  obtain ⟨v76, h77, h⟩ := Option.bind_eq_some_iff.mp h
  refine J_sget (jat ok_L_law_2 49 (pc := 378) (i := .iaload) (n := 1) rfl rfl) h77 ?_
  refine J_seg ok_L_law_2 50 4 (pc' := 383) (ls' := [(0, .inr (.inr (.inr false))), (1, .inr (.inr (.inl k1))), (2, .inr (.inr (.inl k2))), (3, .inl x3)]) (st' := [.inl (x3 + 2), .inr (.inr (.inr false)), .inl v76, .inr (.inr (.inl k2)), .inl q73.1]) rfl ?_
  obtain ⟨v78, h79, h⟩ := Option.bind_eq_some_iff.mp h
  refine J_sget (jat ok_L_law_2 54 (pc := 383) (i := .iaload) (n := 1) rfl rfl) h79 ?_
  refine J_seg ok_L_law_2 55 4 (pc' := 388) (ls' := [(0, .inr (.inr (.inr false))), (1, .inr (.inr (.inl k1))), (2, .inr (.inr (.inl k2))), (3, .inl x3)]) (st' := [.inl (x3 + 3), .inr (.inr (.inr false)), .inl v78, .inl v76, .inr (.inr (.inl k2)), .inl q73.1]) rfl ?_
  obtain ⟨v80, h81, h⟩ := Option.bind_eq_some_iff.mp h
  refine J_sget (jat ok_L_law_2 59 (pc := 388) (i := .iaload) (n := 1) rfl rfl) h81 ?_
  refine J_seg ok_L_law_2 60 4 (pc' := 393) (ls' := [(0, .inr (.inr (.inr false))), (1, .inr (.inr (.inl k1))), (2, .inr (.inr (.inl k2))), (3, .inl x3)]) (st' := [.inl (x3 + 4), .inr (.inr (.inr false)), .inl v80, .inl v78, .inl v76, .inr (.inr (.inl k2)), .inl q73.1]) rfl ?_
  obtain ⟨v82, h83, h⟩ := Option.bind_eq_some_iff.mp h
  refine J_sget (jat ok_L_law_2 64 (pc := 393) (i := .iaload) (n := 1) rfl rfl) h83 ?_
  refine J_seg ok_L_law_2 65 4 (pc' := 398) (ls' := [(0, .inr (.inr (.inr false))), (1, .inr (.inr (.inl k1))), (2, .inr (.inr (.inl k2))), (3, .inl x3)]) (st' := [.inl (x3 + 5), .inr (.inr (.inr false)), .inl v82, .inl v80, .inl v78, .inl v76, .inr (.inr (.inl k2)), .inl q73.1]) rfl ?_
  obtain ⟨v84, h85, h⟩ := Option.bind_eq_some_iff.mp h
  refine J_sget (jat ok_L_law_2 69 (pc := 398) (i := .iaload) (n := 1) rfl rfl) h85 ?_
  by_cases c88 : qO q73.2 k2 6 = true
  case neg => exact absurd ((if_neg c88).symm.trans h) (by simp)
  have h := (if_pos c88).symm.trans h
  obtain ⟨q86, h87, h⟩ := Option.bind_eq_some_iff.mp h
  refine J_callV (md' := md_X6_copy) (As := [.inl v76, .inl v78, .inl v80, .inl v82, .inl v84]) (st := [.inl q73.1]) (cs' := (77, 8152)) (st' := [.inl q86.1, .inl q73.1]) (jat ok_L_law_2 70 (pc := 399) (i := .invokevirtual 36) (n := 3) rfl rfl) ml_RL_36 yv_X6_copy c88 (c_X6_copy l g 27 h87) (jRo_law (by decide) (by decide)) (Nat.le_of_ble_eq_true rfl) ⟨Nat.le_of_ble_eq_true rfl, Nat.le_of_ble_eq_true rfl⟩ rfl rfl rfl ?_
  refine J_eq (jat ok_L_law_2 71 (pc := 402) (i := .if_icmp .eq 886) (n := 3) rfl rfl) (tgt := 1288) (by decide) (fun c => ?_) (fun c => ?_)
  · have h := (if_pos c).symm.trans h
    refine J_seg ok_L_law_14 8 2 (pc' := 18) (ls' := [(3, .inl (x3 + 6)), (0, .inr (.inr (.inr false))), (1, .inr (.inr (.inl k1))), (2, .inr (.inr (.inl k2)))]) (st' := []) rfl ?_
    exact J_sub (ls' := [(0, .inr (.inr (.inr false))), (1, .inr (.inr (.inl k1))), (2, .inr (.inr (.inl k2))), (3, .inl (x3 + 6))]) [1, 2, 3, 0] rfl (hN (x3 + 6, q86.2) (Option.some.inj h).symm)
  · have h := (if_neg c).symm.trans h
    refine J_seg ok_L_law_2 72 1 (pc' := 406) (ls' := [(0, .inr (.inr (.inr false))), (1, .inr (.inr (.inl k1))), (2, .inr (.inr (.inl k2))), (3, .inl x3)]) (st' := [.inl 0]) rfl ?_
    exact hR _ (Option.some.inj h).symm _ _ (jat ok_L_law_2 73 (pc := 406) (i := .ireturn) (n := 1) rfl rfl)
def f_L_law_b18_j407 (g : GX) (k1 : Option Nat) (k2 : Option Nat) (x3 : Int32) (ah : AH) : Option ((Int32 × AH) ⊕ (((Unit) × AH) ⊕ ((Int32) × AH))) :=
  (gS g (x3 + 1)).bind fun v89 => if qO ah k1 5 = true then ((f_X5_mean k1 v89 ah).bind fun q91 => (gS g (x3 + 1)).bind fun v94 => if qO q91.2 k2 6 = true then ((f_X6_mean k2 v94 q91.2).bind fun q96 => if q91.1 = q96.1 then (some (.inr (.inr (x3 + 6, q96.2)))) else (some (.inl (0, q96.2)))) else none) else none
set_option maxRecDepth 100000 in
set_option maxHeartbeats 4000000 in
theorem k_L_law_b18_j407 {l : Launch} {g : GX} {nm : String} (d : Nat) {Q : jQ} {k1 : Option Nat} {k2 : Option Nat} {x3 : Int32} (ah : AH) (out : (Int32 × AH) ⊕ (((Unit) × AH) ⊕ ((Int32) × AH))) (h : f_L_law_b18_j407 g k1 k2 x3 ah = some out) (hR : ∀ q, out = .inl q → jRetI l g (md_L_law nm) room_1 Q (77, 8152) q.1 q.2) (hX : ∀ q, out = .inr (.inl q) → J l g (md_L_law nm) room_1 Q 1294 [] [] q.2 (77, 8152)) (hN : ∀ q, out = .inr (.inr q) → J l g (md_L_law nm) room_1 Q 18 [(0, .inr (.inr (.inr false))), (1, .inr (.inr (.inl k1))), (2, .inr (.inr (.inl k2))), (3, .inl q.1)] [] q.2 (77, 8152)) : J l g (md_L_law nm) room_1 Q 407 [(0, .inr (.inr (.inr false))), (1, .inr (.inr (.inl k1))), (2, .inr (.inr (.inl k2))), (3, .inl x3)] [] ah (77, 8152) := by
  unfold f_L_law_b18_j407 at h
  refine J_seg ok_L_law_3 0 5 (pc' := 412) (ls' := [(0, .inr (.inr (.inr false))), (1, .inr (.inr (.inl k1))), (2, .inr (.inr (.inl k2))), (3, .inl x3)]) (st' := [.inl (x3 + 1), .inr (.inr (.inr false)), .inr (.inr (.inl k1))]) rfl ?_
  obtain ⟨v89, h90, h⟩ := Option.bind_eq_some_iff.mp h
  refine J_sget (jat ok_L_law_3 5 (pc := 412) (i := .iaload) (n := 1) rfl rfl) h90 ?_
  by_cases c93 : qO ah k1 5 = true
  case neg => exact absurd ((if_neg c93).symm.trans h) (by simp)
  have h := (if_pos c93).symm.trans h
  obtain ⟨q91, h92, h⟩ := Option.bind_eq_some_iff.mp h
  refine J_callV (md' := md_X5_mean) (As := [.inl v89]) (st := []) (cs' := (77, 8152)) (st' := [.inl q91.1]) (jat ok_L_law_3 6 (pc := 413) (i := .invokevirtual 37) (n := 3) rfl rfl) ml_RL_37 yv_X5_mean c93 (c_X5_mean l g 26 h92) (jRo_law (by decide) (by decide)) (Nat.le_of_ble_eq_true rfl) ⟨Nat.le_of_ble_eq_true rfl, Nat.le_of_ble_eq_true rfl⟩ rfl rfl rfl ?_
  refine J_seg ok_L_law_3 7 5 (pc' := 421) (ls' := [(0, .inr (.inr (.inr false))), (1, .inr (.inr (.inl k1))), (2, .inr (.inr (.inl k2))), (3, .inl x3)]) (st' := [.inl (x3 + 1), .inr (.inr (.inr false)), .inr (.inr (.inl k2)), .inl q91.1]) rfl ?_
  obtain ⟨v94, h95, h⟩ := Option.bind_eq_some_iff.mp h
  refine J_sget (jat ok_L_law_3 12 (pc := 421) (i := .iaload) (n := 1) rfl rfl) h95 ?_
  by_cases c98 : qO q91.2 k2 6 = true
  case neg => exact absurd ((if_neg c98).symm.trans h) (by simp)
  have h := (if_pos c98).symm.trans h
  obtain ⟨q96, h97, h⟩ := Option.bind_eq_some_iff.mp h
  refine J_callV (md' := md_X6_mean) (As := [.inl v94]) (st := [.inl q91.1]) (cs' := (77, 8152)) (st' := [.inl q96.1, .inl q91.1]) (jat ok_L_law_3 13 (pc := 422) (i := .invokevirtual 40) (n := 3) rfl rfl) ml_RL_40 yv_X6_mean c98 (c_X6_mean l g 27 h97) (jRo_law (by decide) (by decide)) (Nat.le_of_ble_eq_true rfl) ⟨Nat.le_of_ble_eq_true rfl, Nat.le_of_ble_eq_true rfl⟩ rfl rfl rfl ?_
  refine J_eq (jat ok_L_law_3 14 (pc := 425) (i := .if_icmp .eq 863) (n := 3) rfl rfl) (tgt := 1288) (by decide) (fun c => ?_) (fun c => ?_)
  · have h := (if_pos c).symm.trans h
    refine J_seg ok_L_law_14 8 2 (pc' := 18) (ls' := [(3, .inl (x3 + 6)), (0, .inr (.inr (.inr false))), (1, .inr (.inr (.inl k1))), (2, .inr (.inr (.inl k2)))]) (st' := []) rfl ?_
    exact J_sub (ls' := [(0, .inr (.inr (.inr false))), (1, .inr (.inr (.inl k1))), (2, .inr (.inr (.inl k2))), (3, .inl (x3 + 6))]) [1, 2, 3, 0] rfl (hN (x3 + 6, q96.2) (Option.some.inj h).symm)
  · have h := (if_neg c).symm.trans h
    refine J_seg ok_L_law_3 15 1 (pc' := 429) (ls' := [(0, .inr (.inr (.inr false))), (1, .inr (.inr (.inl k1))), (2, .inr (.inr (.inl k2))), (3, .inl x3)]) (st' := [.inl 0]) rfl ?_
    exact hR _ (Option.some.inj h).symm _ _ (jat ok_L_law_3 16 (pc := 429) (i := .ireturn) (n := 1) rfl rfl)
def f_L_law_b18_j430 (g : GX) (k1 : Option Nat) (k2 : Option Nat) (x3 : Int32) (ah : AH) : Option ((Int32 × AH) ⊕ (((Unit) × AH) ⊕ ((Int32) × AH))) :=
  (gS g (x3 + 1)).bind fun v99 => (gS g (x3 + 2)).bind fun v101 => if qO ah k1 5 = true then ((f_X5_text k1 v99 v101 ah).bind fun q103 => (gS g (x3 + 1)).bind fun v106 => (gS g (x3 + 2)).bind fun v108 => if qO q103.2 k2 6 = true then ((f_X6_text k2 v106 v108 q103.2).bind fun q110 => if q103.1 = q110.1 then (some (.inr (.inr (x3 + 6, q110.2)))) else (some (.inl (0, q110.2)))) else none) else none
set_option maxRecDepth 100000 in
set_option maxHeartbeats 4000000 in
theorem k_L_law_b18_j430 {l : Launch} {g : GX} {nm : String} (d : Nat) {Q : jQ} {k1 : Option Nat} {k2 : Option Nat} {x3 : Int32} (ah : AH) (out : (Int32 × AH) ⊕ (((Unit) × AH) ⊕ ((Int32) × AH))) (h : f_L_law_b18_j430 g k1 k2 x3 ah = some out) (hR : ∀ q, out = .inl q → jRetI l g (md_L_law nm) room_1 Q (77, 8152) q.1 q.2) (hX : ∀ q, out = .inr (.inl q) → J l g (md_L_law nm) room_1 Q 1294 [] [] q.2 (77, 8152)) (hN : ∀ q, out = .inr (.inr q) → J l g (md_L_law nm) room_1 Q 18 [(0, .inr (.inr (.inr false))), (1, .inr (.inr (.inl k1))), (2, .inr (.inr (.inl k2))), (3, .inl q.1)] [] q.2 (77, 8152)) : J l g (md_L_law nm) room_1 Q 430 [(0, .inr (.inr (.inr false))), (1, .inr (.inr (.inl k1))), (2, .inr (.inr (.inl k2))), (3, .inl x3)] [] ah (77, 8152) := by
  unfold f_L_law_b18_j430 at h
  refine J_seg ok_L_law_3 17 5 (pc' := 435) (ls' := [(0, .inr (.inr (.inr false))), (1, .inr (.inr (.inl k1))), (2, .inr (.inr (.inl k2))), (3, .inl x3)]) (st' := [.inl (x3 + 1), .inr (.inr (.inr false)), .inr (.inr (.inl k1))]) rfl ?_
  obtain ⟨v99, h100, h⟩ := Option.bind_eq_some_iff.mp h
  refine J_sget (jat ok_L_law_3 22 (pc := 435) (i := .iaload) (n := 1) rfl rfl) h100 ?_
  refine J_seg ok_L_law_3 23 4 (pc' := 440) (ls' := [(0, .inr (.inr (.inr false))), (1, .inr (.inr (.inl k1))), (2, .inr (.inr (.inl k2))), (3, .inl x3)]) (st' := [.inl (x3 + 2), .inr (.inr (.inr false)), .inl v99, .inr (.inr (.inl k1))]) rfl ?_
  obtain ⟨v101, h102, h⟩ := Option.bind_eq_some_iff.mp h
  refine J_sget (jat ok_L_law_3 27 (pc := 440) (i := .iaload) (n := 1) rfl rfl) h102 ?_
  by_cases c105 : qO ah k1 5 = true
  case neg => exact absurd ((if_neg c105).symm.trans h) (by simp)
  have h := (if_pos c105).symm.trans h
  obtain ⟨q103, h104, h⟩ := Option.bind_eq_some_iff.mp h
  refine J_callV (md' := md_X5_text) (As := [.inl v99, .inl v101]) (st := []) (cs' := (77, 8152)) (st' := [.inl q103.1]) (jat ok_L_law_3 28 (pc := 441) (i := .invokevirtual 41) (n := 3) rfl rfl) ml_RL_41 yv_X5_text c105 (c_X5_text l g 26 h104) (jRo_law (by decide) (by decide)) (Nat.le_of_ble_eq_true rfl) ⟨Nat.le_of_ble_eq_true rfl, Nat.le_of_ble_eq_true rfl⟩ rfl rfl rfl ?_
  refine J_seg ok_L_law_3 29 5 (pc' := 449) (ls' := [(0, .inr (.inr (.inr false))), (1, .inr (.inr (.inl k1))), (2, .inr (.inr (.inl k2))), (3, .inl x3)]) (st' := [.inl (x3 + 1), .inr (.inr (.inr false)), .inr (.inr (.inl k2)), .inl q103.1]) rfl ?_
  obtain ⟨v106, h107, h⟩ := Option.bind_eq_some_iff.mp h
  refine J_sget (jat ok_L_law_3 34 (pc := 449) (i := .iaload) (n := 1) rfl rfl) h107 ?_
  refine J_seg ok_L_law_3 35 4 (pc' := 454) (ls' := [(0, .inr (.inr (.inr false))), (1, .inr (.inr (.inl k1))), (2, .inr (.inr (.inl k2))), (3, .inl x3)]) (st' := [.inl (x3 + 2), .inr (.inr (.inr false)), .inl v106, .inr (.inr (.inl k2)), .inl q103.1]) rfl ?_
  obtain ⟨v108, h109, h⟩ := Option.bind_eq_some_iff.mp h
  refine J_sget (jat ok_L_law_3 39 (pc := 454) (i := .iaload) (n := 1) rfl rfl) h109 ?_
  by_cases c112 : qO q103.2 k2 6 = true
  case neg => exact absurd ((if_neg c112).symm.trans h) (by simp)
  have h := (if_pos c112).symm.trans h
  obtain ⟨q110, h111, h⟩ := Option.bind_eq_some_iff.mp h
  refine J_callV (md' := md_X6_text) (As := [.inl v106, .inl v108]) (st := [.inl q103.1]) (cs' := (77, 8152)) (st' := [.inl q110.1, .inl q103.1]) (jat ok_L_law_3 40 (pc := 455) (i := .invokevirtual 44) (n := 3) rfl rfl) ml_RL_44 yv_X6_text c112 (c_X6_text l g 27 h111) (jRo_law (by decide) (by decide)) (Nat.le_of_ble_eq_true rfl) ⟨Nat.le_of_ble_eq_true rfl, Nat.le_of_ble_eq_true rfl⟩ rfl rfl rfl ?_
  refine J_eq (jat ok_L_law_3 41 (pc := 458) (i := .if_icmp .eq 830) (n := 3) rfl rfl) (tgt := 1288) (by decide) (fun c => ?_) (fun c => ?_)
  · have h := (if_pos c).symm.trans h
    refine J_seg ok_L_law_14 8 2 (pc' := 18) (ls' := [(3, .inl (x3 + 6)), (0, .inr (.inr (.inr false))), (1, .inr (.inr (.inl k1))), (2, .inr (.inr (.inl k2)))]) (st' := []) rfl ?_
    exact J_sub (ls' := [(0, .inr (.inr (.inr false))), (1, .inr (.inr (.inl k1))), (2, .inr (.inr (.inl k2))), (3, .inl (x3 + 6))]) [1, 2, 3, 0] rfl (hN (x3 + 6, q110.2) (Option.some.inj h).symm)
  · have h := (if_neg c).symm.trans h
    refine J_seg ok_L_law_3 42 1 (pc' := 462) (ls' := [(0, .inr (.inr (.inr false))), (1, .inr (.inr (.inl k1))), (2, .inr (.inr (.inl k2))), (3, .inl x3)]) (st' := [.inl 0]) rfl ?_
    exact hR _ (Option.some.inj h).symm _ _ (jat ok_L_law_3 43 (pc := 462) (i := .ireturn) (n := 1) rfl rfl)
def f_L_law_b18_j463 (g : GX) (k1 : Option Nat) (k2 : Option Nat) (x3 : Int32) (ah : AH) : Option ((Int32 × AH) ⊕ (((Unit) × AH) ⊕ ((Int32) × AH))) :=
  (gS g (x3 + 1)).bind fun v113 => (gS g (x3 + 2)).bind fun v115 => (gS g (x3 + 3)).bind fun v117 => if qO ah k1 5 = true then ((f_X5_put k1 v113 v115 v117 ah).bind fun q119 => (gS g (x3 + 1)).bind fun v122 => (gS g (x3 + 2)).bind fun v124 => (gS g (x3 + 3)).bind fun v126 => if qO q119.2 k2 6 = true then ((f_X6_put k2 v122 v124 v126 q119.2).bind fun q128 => if q119.1 = q128.1 then (some (.inr (.inr (x3 + 6, q128.2)))) else (some (.inl (0, q128.2)))) else none) else none
set_option maxRecDepth 100000 in
set_option maxHeartbeats 4000000 in
theorem k_L_law_b18_j463 {l : Launch} {g : GX} {nm : String} (d : Nat) {Q : jQ} {k1 : Option Nat} {k2 : Option Nat} {x3 : Int32} (ah : AH) (out : (Int32 × AH) ⊕ (((Unit) × AH) ⊕ ((Int32) × AH))) (h : f_L_law_b18_j463 g k1 k2 x3 ah = some out) (hR : ∀ q, out = .inl q → jRetI l g (md_L_law nm) room_1 Q (77, 8152) q.1 q.2) (hX : ∀ q, out = .inr (.inl q) → J l g (md_L_law nm) room_1 Q 1294 [] [] q.2 (77, 8152)) (hN : ∀ q, out = .inr (.inr q) → J l g (md_L_law nm) room_1 Q 18 [(0, .inr (.inr (.inr false))), (1, .inr (.inr (.inl k1))), (2, .inr (.inr (.inl k2))), (3, .inl q.1)] [] q.2 (77, 8152)) : J l g (md_L_law nm) room_1 Q 463 [(0, .inr (.inr (.inr false))), (1, .inr (.inr (.inl k1))), (2, .inr (.inr (.inl k2))), (3, .inl x3)] [] ah (77, 8152) := by
  unfold f_L_law_b18_j463 at h
  refine J_seg ok_L_law_3 44 5 (pc' := 468) (ls' := [(0, .inr (.inr (.inr false))), (1, .inr (.inr (.inl k1))), (2, .inr (.inr (.inl k2))), (3, .inl x3)]) (st' := [.inl (x3 + 1), .inr (.inr (.inr false)), .inr (.inr (.inl k1))]) rfl ?_
  obtain ⟨v113, h114, h⟩ := Option.bind_eq_some_iff.mp h
  refine J_sget (jat ok_L_law_3 49 (pc := 468) (i := .iaload) (n := 1) rfl rfl) h114 ?_
  refine J_seg ok_L_law_3 50 4 (pc' := 473) (ls' := [(0, .inr (.inr (.inr false))), (1, .inr (.inr (.inl k1))), (2, .inr (.inr (.inl k2))), (3, .inl x3)]) (st' := [.inl (x3 + 2), .inr (.inr (.inr false)), .inl v113, .inr (.inr (.inl k1))]) rfl ?_
  obtain ⟨v115, h116, h⟩ := Option.bind_eq_some_iff.mp h
  refine J_sget (jat ok_L_law_3 54 (pc := 473) (i := .iaload) (n := 1) rfl rfl) h116 ?_
  refine J_seg ok_L_law_3 55 4 (pc' := 478) (ls' := [(0, .inr (.inr (.inr false))), (1, .inr (.inr (.inl k1))), (2, .inr (.inr (.inl k2))), (3, .inl x3)]) (st' := [.inl (x3 + 3), .inr (.inr (.inr false)), .inl v115, .inl v113, .inr (.inr (.inl k1))]) rfl ?_
  obtain ⟨v117, h118, h⟩ := Option.bind_eq_some_iff.mp h
  refine J_sget (jat ok_L_law_3 59 (pc := 478) (i := .iaload) (n := 1) rfl rfl) h118 ?_
  by_cases c121 : qO ah k1 5 = true
  case neg => exact absurd ((if_neg c121).symm.trans h) (by simp)
  have h := (if_pos c121).symm.trans h
  obtain ⟨q119, h120, h⟩ := Option.bind_eq_some_iff.mp h
  refine J_callV (md' := md_X5_put) (As := [.inl v113, .inl v115, .inl v117]) (st := []) (cs' := (77, 8152)) (st' := [.inl q119.1]) (jat ok_L_law_3 60 (pc := 479) (i := .invokevirtual 45) (n := 3) rfl rfl) ml_RL_45 yv_X5_put c121 (c_X5_put l g 27 h120) (jRo_law (by decide) (by decide)) (Nat.le_of_ble_eq_true rfl) ⟨Nat.le_of_ble_eq_true rfl, Nat.le_of_ble_eq_true rfl⟩ rfl rfl rfl ?_
  refine J_seg ok_L_law_3 61 5 (pc' := 487) (ls' := [(0, .inr (.inr (.inr false))), (1, .inr (.inr (.inl k1))), (2, .inr (.inr (.inl k2))), (3, .inl x3)]) (st' := [.inl (x3 + 1), .inr (.inr (.inr false)), .inr (.inr (.inl k2)), .inl q119.1]) rfl ?_
  obtain ⟨v122, h123, h⟩ := Option.bind_eq_some_iff.mp h
  refine J_sget (jat ok_L_law_3 66 (pc := 487) (i := .iaload) (n := 1) rfl rfl) h123 ?_
  refine J_seg ok_L_law_3 67 4 (pc' := 492) (ls' := [(0, .inr (.inr (.inr false))), (1, .inr (.inr (.inl k1))), (2, .inr (.inr (.inl k2))), (3, .inl x3)]) (st' := [.inl (x3 + 2), .inr (.inr (.inr false)), .inl v122, .inr (.inr (.inl k2)), .inl q119.1]) rfl ?_
  obtain ⟨v124, h125, h⟩ := Option.bind_eq_some_iff.mp h
  refine J_sget (jat ok_L_law_3 71 (pc := 492) (i := .iaload) (n := 1) rfl rfl) h125 ?_
  refine J_seg ok_L_law_3 72 4 (pc' := 497) (ls' := [(0, .inr (.inr (.inr false))), (1, .inr (.inr (.inl k1))), (2, .inr (.inr (.inl k2))), (3, .inl x3)]) (st' := [.inl (x3 + 3), .inr (.inr (.inr false)), .inl v124, .inl v122, .inr (.inr (.inl k2)), .inl q119.1]) rfl ?_
  obtain ⟨v126, h127, h⟩ := Option.bind_eq_some_iff.mp h
  refine J_sget (jat ok_L_law_3 76 (pc := 497) (i := .iaload) (n := 1) rfl rfl) h127 ?_
  by_cases c130 : qO q119.2 k2 6 = true
  case neg => exact absurd ((if_neg c130).symm.trans h) (by simp)
  have h := (if_pos c130).symm.trans h
  obtain ⟨q128, h129, h⟩ := Option.bind_eq_some_iff.mp h
  refine J_callV (md' := md_X6_put) (As := [.inl v122, .inl v124, .inl v126]) (st := [.inl q119.1]) (cs' := (77, 8152)) (st' := [.inl q128.1, .inl q119.1]) (jat ok_L_law_3 77 (pc := 498) (i := .invokevirtual 48) (n := 3) rfl rfl) ml_RL_48 yv_X6_put c130 (c_X6_put l g 27 h129) (jRo_law (by decide) (by decide)) (Nat.le_of_ble_eq_true rfl) ⟨Nat.le_of_ble_eq_true rfl, Nat.le_of_ble_eq_true rfl⟩ rfl rfl rfl ?_
  refine J_eq (jat ok_L_law_3 78 (pc := 501) (i := .if_icmp .eq 787) (n := 3) rfl rfl) (tgt := 1288) (by decide) (fun c => ?_) (fun c => ?_)
  · have h := (if_pos c).symm.trans h
    refine J_seg ok_L_law_14 8 2 (pc' := 18) (ls' := [(3, .inl (x3 + 6)), (0, .inr (.inr (.inr false))), (1, .inr (.inr (.inl k1))), (2, .inr (.inr (.inl k2)))]) (st' := []) rfl ?_
    exact J_sub (ls' := [(0, .inr (.inr (.inr false))), (1, .inr (.inr (.inl k1))), (2, .inr (.inr (.inl k2))), (3, .inl (x3 + 6))]) [1, 2, 3, 0] rfl (hN (x3 + 6, q128.2) (Option.some.inj h).symm)
  · have h := (if_neg c).symm.trans h
    refine J_seg ok_L_law_3 79 1 (pc' := 505) (ls' := [(0, .inr (.inr (.inr false))), (1, .inr (.inr (.inl k1))), (2, .inr (.inr (.inl k2))), (3, .inl x3)]) (st' := [.inl 0]) rfl ?_
    exact hR _ (Option.some.inj h).symm _ _ (jat ok_L_law_3 80 (pc := 505) (i := .ireturn) (n := 1) rfl rfl)
def f_L_law_b18_j506 (g : GX) (k1 : Option Nat) (k2 : Option Nat) (x3 : Int32) (ah : AH) : Option ((Int32 × AH) ⊕ (((Unit) × AH) ⊕ ((Int32) × AH))) :=
  (gS g (x3 + 1)).bind fun v131 => if qO ah k1 5 = true then ((f_X5_fault k1 v131 ah).bind fun q133 => (gS g (x3 + 1)).bind fun v136 => if qO q133.2 k2 6 = true then ((f_X6_fault k2 v136 q133.2).bind fun q138 => if q133.1 = q138.1 then (some (.inr (.inr (x3 + 6, q138.2)))) else (some (.inl (0, q138.2)))) else none) else none
set_option maxRecDepth 100000 in
set_option maxHeartbeats 4000000 in
theorem k_L_law_b18_j506 {l : Launch} {g : GX} {nm : String} (d : Nat) {Q : jQ} {k1 : Option Nat} {k2 : Option Nat} {x3 : Int32} (ah : AH) (out : (Int32 × AH) ⊕ (((Unit) × AH) ⊕ ((Int32) × AH))) (h : f_L_law_b18_j506 g k1 k2 x3 ah = some out) (hR : ∀ q, out = .inl q → jRetI l g (md_L_law nm) room_1 Q (77, 8152) q.1 q.2) (hX : ∀ q, out = .inr (.inl q) → J l g (md_L_law nm) room_1 Q 1294 [] [] q.2 (77, 8152)) (hN : ∀ q, out = .inr (.inr q) → J l g (md_L_law nm) room_1 Q 18 [(0, .inr (.inr (.inr false))), (1, .inr (.inr (.inl k1))), (2, .inr (.inr (.inl k2))), (3, .inl q.1)] [] q.2 (77, 8152)) : J l g (md_L_law nm) room_1 Q 506 [(0, .inr (.inr (.inr false))), (1, .inr (.inr (.inl k1))), (2, .inr (.inr (.inl k2))), (3, .inl x3)] [] ah (77, 8152) := by
  unfold f_L_law_b18_j506 at h
  refine J_seg ok_L_law_4 0 5 (pc' := 511) (ls' := [(0, .inr (.inr (.inr false))), (1, .inr (.inr (.inl k1))), (2, .inr (.inr (.inl k2))), (3, .inl x3)]) (st' := [.inl (x3 + 1), .inr (.inr (.inr false)), .inr (.inr (.inl k1))]) rfl ?_
  obtain ⟨v131, h132, h⟩ := Option.bind_eq_some_iff.mp h
  refine J_sget (jat ok_L_law_4 5 (pc := 511) (i := .iaload) (n := 1) rfl rfl) h132 ?_
  by_cases c135 : qO ah k1 5 = true
  case neg => exact absurd ((if_neg c135).symm.trans h) (by simp)
  have h := (if_pos c135).symm.trans h
  obtain ⟨q133, h134, h⟩ := Option.bind_eq_some_iff.mp h
  refine J_callV (md' := md_X5_fault) (As := [.inl v131]) (st := []) (cs' := (77, 8152)) (st' := [.inl q133.1]) (jat ok_L_law_4 6 (pc := 512) (i := .invokevirtual 49) (n := 3) rfl rfl) ml_RL_49 yv_X5_fault c135 (c_X5_fault l g 23 h134) (jRo_law (by decide) (by decide)) (Nat.le_of_ble_eq_true rfl) ⟨Nat.le_of_ble_eq_true rfl, Nat.le_of_ble_eq_true rfl⟩ rfl rfl rfl ?_
  refine J_seg ok_L_law_4 7 5 (pc' := 520) (ls' := [(0, .inr (.inr (.inr false))), (1, .inr (.inr (.inl k1))), (2, .inr (.inr (.inl k2))), (3, .inl x3)]) (st' := [.inl (x3 + 1), .inr (.inr (.inr false)), .inr (.inr (.inl k2)), .inl q133.1]) rfl ?_
  obtain ⟨v136, h137, h⟩ := Option.bind_eq_some_iff.mp h
  refine J_sget (jat ok_L_law_4 12 (pc := 520) (i := .iaload) (n := 1) rfl rfl) h137 ?_
  by_cases c140 : qO q133.2 k2 6 = true
  case neg => exact absurd ((if_neg c140).symm.trans h) (by simp)
  have h := (if_pos c140).symm.trans h
  obtain ⟨q138, h139, h⟩ := Option.bind_eq_some_iff.mp h
  refine J_callV (md' := md_X6_fault) (As := [.inl v136]) (st := [.inl q133.1]) (cs' := (77, 8152)) (st' := [.inl q138.1, .inl q133.1]) (jat ok_L_law_4 13 (pc := 521) (i := .invokevirtual 52) (n := 3) rfl rfl) ml_RL_52 yv_X6_fault c140 (c_X6_fault l g 25 h139) (jRo_law (by decide) (by decide)) (Nat.le_of_ble_eq_true rfl) ⟨Nat.le_of_ble_eq_true rfl, Nat.le_of_ble_eq_true rfl⟩ rfl rfl rfl ?_
  refine J_eq (jat ok_L_law_4 14 (pc := 524) (i := .if_icmp .eq 764) (n := 3) rfl rfl) (tgt := 1288) (by decide) (fun c => ?_) (fun c => ?_)
  · have h := (if_pos c).symm.trans h
    refine J_seg ok_L_law_14 8 2 (pc' := 18) (ls' := [(3, .inl (x3 + 6)), (0, .inr (.inr (.inr false))), (1, .inr (.inr (.inl k1))), (2, .inr (.inr (.inl k2)))]) (st' := []) rfl ?_
    exact J_sub (ls' := [(0, .inr (.inr (.inr false))), (1, .inr (.inr (.inl k1))), (2, .inr (.inr (.inl k2))), (3, .inl (x3 + 6))]) [1, 2, 3, 0] rfl (hN (x3 + 6, q138.2) (Option.some.inj h).symm)
  · have h := (if_neg c).symm.trans h
    refine J_seg ok_L_law_4 15 1 (pc' := 528) (ls' := [(0, .inr (.inr (.inr false))), (1, .inr (.inr (.inl k1))), (2, .inr (.inr (.inl k2))), (3, .inl x3)]) (st' := [.inl 0]) rfl ?_
    exact hR _ (Option.some.inj h).symm _ _ (jat ok_L_law_4 16 (pc := 528) (i := .ireturn) (n := 1) rfl rfl)
def f_L_law_b18_j529 (g : GX) (k1 : Option Nat) (k2 : Option Nat) (x3 : Int32) (ah : AH) : Option ((Int32 × AH) ⊕ (((Unit) × AH) ⊕ ((Int32) × AH))) :=
  (gS g (x3 + 1)).bind fun v141 => if qO ah k1 5 = true then ((f_X5_town k1 v141 ah).bind fun q143 => (gS g (x3 + 1)).bind fun v146 => if qO q143.2 k2 6 = true then ((f_X6_town k2 v146 q143.2).bind fun q148 => if q143.1 = q148.1 then (some (.inr (.inr (x3 + 6, q148.2)))) else (some (.inl (0, q148.2)))) else none) else none
set_option maxRecDepth 100000 in
set_option maxHeartbeats 4000000 in
theorem k_L_law_b18_j529 {l : Launch} {g : GX} {nm : String} (d : Nat) {Q : jQ} {k1 : Option Nat} {k2 : Option Nat} {x3 : Int32} (ah : AH) (out : (Int32 × AH) ⊕ (((Unit) × AH) ⊕ ((Int32) × AH))) (h : f_L_law_b18_j529 g k1 k2 x3 ah = some out) (hR : ∀ q, out = .inl q → jRetI l g (md_L_law nm) room_1 Q (77, 8152) q.1 q.2) (hX : ∀ q, out = .inr (.inl q) → J l g (md_L_law nm) room_1 Q 1294 [] [] q.2 (77, 8152)) (hN : ∀ q, out = .inr (.inr q) → J l g (md_L_law nm) room_1 Q 18 [(0, .inr (.inr (.inr false))), (1, .inr (.inr (.inl k1))), (2, .inr (.inr (.inl k2))), (3, .inl q.1)] [] q.2 (77, 8152)) : J l g (md_L_law nm) room_1 Q 529 [(0, .inr (.inr (.inr false))), (1, .inr (.inr (.inl k1))), (2, .inr (.inr (.inl k2))), (3, .inl x3)] [] ah (77, 8152) := by
  unfold f_L_law_b18_j529 at h
  refine J_seg ok_L_law_4 17 5 (pc' := 534) (ls' := [(0, .inr (.inr (.inr false))), (1, .inr (.inr (.inl k1))), (2, .inr (.inr (.inl k2))), (3, .inl x3)]) (st' := [.inl (x3 + 1), .inr (.inr (.inr false)), .inr (.inr (.inl k1))]) rfl ?_
  obtain ⟨v141, h142, h⟩ := Option.bind_eq_some_iff.mp h
  refine J_sget (jat ok_L_law_4 22 (pc := 534) (i := .iaload) (n := 1) rfl rfl) h142 ?_
  by_cases c145 : qO ah k1 5 = true
  case neg => exact absurd ((if_neg c145).symm.trans h) (by simp)
  have h := (if_pos c145).symm.trans h
  obtain ⟨q143, h144, h⟩ := Option.bind_eq_some_iff.mp h
  refine J_callV (md' := md_X5_town) (As := [.inl v141]) (st := []) (cs' := (77, 8152)) (st' := [.inl q143.1]) (jat ok_L_law_4 23 (pc := 535) (i := .invokevirtual 53) (n := 3) rfl rfl) ml_RL_53 yv_X5_town c145 (c_X5_town l g 23 h144) (jRo_law (by decide) (by decide)) (Nat.le_of_ble_eq_true rfl) ⟨Nat.le_of_ble_eq_true rfl, Nat.le_of_ble_eq_true rfl⟩ rfl rfl rfl ?_
  refine J_seg ok_L_law_4 24 5 (pc' := 543) (ls' := [(0, .inr (.inr (.inr false))), (1, .inr (.inr (.inl k1))), (2, .inr (.inr (.inl k2))), (3, .inl x3)]) (st' := [.inl (x3 + 1), .inr (.inr (.inr false)), .inr (.inr (.inl k2)), .inl q143.1]) rfl ?_
  obtain ⟨v146, h147, h⟩ := Option.bind_eq_some_iff.mp h
  refine J_sget (jat ok_L_law_4 29 (pc := 543) (i := .iaload) (n := 1) rfl rfl) h147 ?_
  by_cases c150 : qO q143.2 k2 6 = true
  case neg => exact absurd ((if_neg c150).symm.trans h) (by simp)
  have h := (if_pos c150).symm.trans h
  obtain ⟨q148, h149, h⟩ := Option.bind_eq_some_iff.mp h
  refine J_callV (md' := md_X6_town) (As := [.inl v146]) (st := [.inl q143.1]) (cs' := (77, 8152)) (st' := [.inl q148.1, .inl q143.1]) (jat ok_L_law_4 30 (pc := 544) (i := .invokevirtual 56) (n := 3) rfl rfl) ml_RL_56 yv_X6_town c150 (c_X6_town l g 25 h149) (jRo_law (by decide) (by decide)) (Nat.le_of_ble_eq_true rfl) ⟨Nat.le_of_ble_eq_true rfl, Nat.le_of_ble_eq_true rfl⟩ rfl rfl rfl ?_
  refine J_eq (jat ok_L_law_4 31 (pc := 547) (i := .if_icmp .eq 741) (n := 3) rfl rfl) (tgt := 1288) (by decide) (fun c => ?_) (fun c => ?_)
  · have h := (if_pos c).symm.trans h
    refine J_seg ok_L_law_14 8 2 (pc' := 18) (ls' := [(3, .inl (x3 + 6)), (0, .inr (.inr (.inr false))), (1, .inr (.inr (.inl k1))), (2, .inr (.inr (.inl k2)))]) (st' := []) rfl ?_
    exact J_sub (ls' := [(0, .inr (.inr (.inr false))), (1, .inr (.inr (.inl k1))), (2, .inr (.inr (.inl k2))), (3, .inl (x3 + 6))]) [1, 2, 3, 0] rfl (hN (x3 + 6, q148.2) (Option.some.inj h).symm)
  · have h := (if_neg c).symm.trans h
    refine J_seg ok_L_law_4 32 1 (pc' := 551) (ls' := [(0, .inr (.inr (.inr false))), (1, .inr (.inr (.inl k1))), (2, .inr (.inr (.inl k2))), (3, .inl x3)]) (st' := [.inl 0]) rfl ?_
    exact hR _ (Option.some.inj h).symm _ _ (jat ok_L_law_4 33 (pc := 551) (i := .ireturn) (n := 1) rfl rfl)
def f_L_law_b18_j552 (g : GX) (k1 : Option Nat) (k2 : Option Nat) (x3 : Int32) (ah : AH) : Option ((Int32 × AH) ⊕ (((Unit) × AH) ⊕ ((Int32) × AH))) :=
  (gS g (x3 + 1)).bind fun v151 => (gS g (x3 + 2)).bind fun v153 => if qO ah k1 5 = true then ((f_X5_person k1 v151 v153 ah).bind fun q155 => (gS g (x3 + 1)).bind fun v158 => (gS g (x3 + 2)).bind fun v160 => if qO q155.2 k2 6 = true then ((f_X6_person k2 v158 v160 q155.2).bind fun q162 => if q155.1 = q162.1 then (some (.inr (.inr (x3 + 6, q162.2)))) else (some (.inl (0, q162.2)))) else none) else none
set_option maxRecDepth 100000 in
set_option maxHeartbeats 4000000 in
theorem k_L_law_b18_j552 {l : Launch} {g : GX} {nm : String} (d : Nat) {Q : jQ} {k1 : Option Nat} {k2 : Option Nat} {x3 : Int32} (ah : AH) (out : (Int32 × AH) ⊕ (((Unit) × AH) ⊕ ((Int32) × AH))) (h : f_L_law_b18_j552 g k1 k2 x3 ah = some out) (hR : ∀ q, out = .inl q → jRetI l g (md_L_law nm) room_1 Q (77, 8152) q.1 q.2) (hX : ∀ q, out = .inr (.inl q) → J l g (md_L_law nm) room_1 Q 1294 [] [] q.2 (77, 8152)) (hN : ∀ q, out = .inr (.inr q) → J l g (md_L_law nm) room_1 Q 18 [(0, .inr (.inr (.inr false))), (1, .inr (.inr (.inl k1))), (2, .inr (.inr (.inl k2))), (3, .inl q.1)] [] q.2 (77, 8152)) : J l g (md_L_law nm) room_1 Q 552 [(0, .inr (.inr (.inr false))), (1, .inr (.inr (.inl k1))), (2, .inr (.inr (.inl k2))), (3, .inl x3)] [] ah (77, 8152) := by
  unfold f_L_law_b18_j552 at h
  refine J_seg ok_L_law_4 34 5 (pc' := 557) (ls' := [(0, .inr (.inr (.inr false))), (1, .inr (.inr (.inl k1))), (2, .inr (.inr (.inl k2))), (3, .inl x3)]) (st' := [.inl (x3 + 1), .inr (.inr (.inr false)), .inr (.inr (.inl k1))]) rfl ?_
  obtain ⟨v151, h152, h⟩ := Option.bind_eq_some_iff.mp h
  refine J_sget (jat ok_L_law_4 39 (pc := 557) (i := .iaload) (n := 1) rfl rfl) h152 ?_
  refine J_seg ok_L_law_4 40 4 (pc' := 562) (ls' := [(0, .inr (.inr (.inr false))), (1, .inr (.inr (.inl k1))), (2, .inr (.inr (.inl k2))), (3, .inl x3)]) (st' := [.inl (x3 + 2), .inr (.inr (.inr false)), .inl v151, .inr (.inr (.inl k1))]) rfl ?_
  obtain ⟨v153, h154, h⟩ := Option.bind_eq_some_iff.mp h
  refine J_sget (jat ok_L_law_4 44 (pc := 562) (i := .iaload) (n := 1) rfl rfl) h154 ?_
  by_cases c157 : qO ah k1 5 = true
  case neg => exact absurd ((if_neg c157).symm.trans h) (by simp)
  have h := (if_pos c157).symm.trans h
  obtain ⟨q155, h156, h⟩ := Option.bind_eq_some_iff.mp h
  refine J_callV (md' := md_X5_person) (As := [.inl v151, .inl v153]) (st := []) (cs' := (77, 8152)) (st' := [.inl q155.1]) (jat ok_L_law_4 45 (pc := 563) (i := .invokevirtual 57) (n := 3) rfl rfl) ml_RL_57 yv_X5_person c157 (c_X5_person l g 25 h156) (jRo_law (by decide) (by decide)) (Nat.le_of_ble_eq_true rfl) ⟨Nat.le_of_ble_eq_true rfl, Nat.le_of_ble_eq_true rfl⟩ rfl rfl rfl ?_
  refine J_seg ok_L_law_4 46 5 (pc' := 571) (ls' := [(0, .inr (.inr (.inr false))), (1, .inr (.inr (.inl k1))), (2, .inr (.inr (.inl k2))), (3, .inl x3)]) (st' := [.inl (x3 + 1), .inr (.inr (.inr false)), .inr (.inr (.inl k2)), .inl q155.1]) rfl ?_
  obtain ⟨v158, h159, h⟩ := Option.bind_eq_some_iff.mp h
  refine J_sget (jat ok_L_law_4 51 (pc := 571) (i := .iaload) (n := 1) rfl rfl) h159 ?_
  refine J_seg ok_L_law_4 52 4 (pc' := 576) (ls' := [(0, .inr (.inr (.inr false))), (1, .inr (.inr (.inl k1))), (2, .inr (.inr (.inl k2))), (3, .inl x3)]) (st' := [.inl (x3 + 2), .inr (.inr (.inr false)), .inl v158, .inr (.inr (.inl k2)), .inl q155.1]) rfl ?_
  obtain ⟨v160, h161, h⟩ := Option.bind_eq_some_iff.mp h
  refine J_sget (jat ok_L_law_4 56 (pc := 576) (i := .iaload) (n := 1) rfl rfl) h161 ?_
  by_cases c164 : qO q155.2 k2 6 = true
  case neg => exact absurd ((if_neg c164).symm.trans h) (by simp)
  have h := (if_pos c164).symm.trans h
  obtain ⟨q162, h163, h⟩ := Option.bind_eq_some_iff.mp h
  refine J_callV (md' := md_X6_person) (As := [.inl v158, .inl v160]) (st := [.inl q155.1]) (cs' := (77, 8152)) (st' := [.inl q162.1, .inl q155.1]) (jat ok_L_law_4 57 (pc := 577) (i := .invokevirtual 60) (n := 3) rfl rfl) ml_RL_60 yv_X6_person c164 (c_X6_person l g 26 h163) (jRo_law (by decide) (by decide)) (Nat.le_of_ble_eq_true rfl) ⟨Nat.le_of_ble_eq_true rfl, Nat.le_of_ble_eq_true rfl⟩ rfl rfl rfl ?_
  refine J_eq (jat ok_L_law_4 58 (pc := 580) (i := .if_icmp .eq 708) (n := 3) rfl rfl) (tgt := 1288) (by decide) (fun c => ?_) (fun c => ?_)
  · have h := (if_pos c).symm.trans h
    refine J_seg ok_L_law_14 8 2 (pc' := 18) (ls' := [(3, .inl (x3 + 6)), (0, .inr (.inr (.inr false))), (1, .inr (.inr (.inl k1))), (2, .inr (.inr (.inl k2)))]) (st' := []) rfl ?_
    exact J_sub (ls' := [(0, .inr (.inr (.inr false))), (1, .inr (.inr (.inl k1))), (2, .inr (.inr (.inl k2))), (3, .inl (x3 + 6))]) [1, 2, 3, 0] rfl (hN (x3 + 6, q162.2) (Option.some.inj h).symm)
  · have h := (if_neg c).symm.trans h
    refine J_seg ok_L_law_4 59 1 (pc' := 584) (ls' := [(0, .inr (.inr (.inr false))), (1, .inr (.inr (.inl k1))), (2, .inr (.inr (.inl k2))), (3, .inl x3)]) (st' := [.inl 0]) rfl ?_
    exact hR _ (Option.some.inj h).symm _ _ (jat ok_L_law_4 60 (pc := 584) (i := .ireturn) (n := 1) rfl rfl)
def f_L_law_b18_j585 (g : GX) (k1 : Option Nat) (k2 : Option Nat) (x3 : Int32) (ah : AH) : Option ((Int32 × AH) ⊕ (((Unit) × AH) ⊕ ((Int32) × AH))) :=
  (gS g (x3 + 1)).bind fun v165 => (gS g (x3 + 2)).bind fun v167 => if qO ah k1 5 = true then ((f_X5_mark k1 v165 v167 ah).bind fun q169 => (gS g (x3 + 1)).bind fun v172 => (gS g (x3 + 2)).bind fun v174 => if qO q169.2 k2 6 = true then ((f_X6_mark k2 v172 v174 q169.2).bind fun q176 => if q169.1 = q176.1 then (some (.inr (.inr (x3 + 6, q176.2)))) else (some (.inl (0, q176.2)))) else none) else none
set_option maxRecDepth 100000 in
set_option maxHeartbeats 4000000 in
theorem k_L_law_b18_j585 {l : Launch} {g : GX} {nm : String} (d : Nat) {Q : jQ} {k1 : Option Nat} {k2 : Option Nat} {x3 : Int32} (ah : AH) (out : (Int32 × AH) ⊕ (((Unit) × AH) ⊕ ((Int32) × AH))) (h : f_L_law_b18_j585 g k1 k2 x3 ah = some out) (hR : ∀ q, out = .inl q → jRetI l g (md_L_law nm) room_1 Q (77, 8152) q.1 q.2) (hX : ∀ q, out = .inr (.inl q) → J l g (md_L_law nm) room_1 Q 1294 [] [] q.2 (77, 8152)) (hN : ∀ q, out = .inr (.inr q) → J l g (md_L_law nm) room_1 Q 18 [(0, .inr (.inr (.inr false))), (1, .inr (.inr (.inl k1))), (2, .inr (.inr (.inl k2))), (3, .inl q.1)] [] q.2 (77, 8152)) : J l g (md_L_law nm) room_1 Q 585 [(0, .inr (.inr (.inr false))), (1, .inr (.inr (.inl k1))), (2, .inr (.inr (.inl k2))), (3, .inl x3)] [] ah (77, 8152) := by
  unfold f_L_law_b18_j585 at h
  refine J_seg ok_L_law_5 0 5 (pc' := 590) (ls' := [(0, .inr (.inr (.inr false))), (1, .inr (.inr (.inl k1))), (2, .inr (.inr (.inl k2))), (3, .inl x3)]) (st' := [.inl (x3 + 1), .inr (.inr (.inr false)), .inr (.inr (.inl k1))]) rfl ?_
  obtain ⟨v165, h166, h⟩ := Option.bind_eq_some_iff.mp h
  refine J_sget (jat ok_L_law_5 5 (pc := 590) (i := .iaload) (n := 1) rfl rfl) h166 ?_
  refine J_seg ok_L_law_5 6 4 (pc' := 595) (ls' := [(0, .inr (.inr (.inr false))), (1, .inr (.inr (.inl k1))), (2, .inr (.inr (.inl k2))), (3, .inl x3)]) (st' := [.inl (x3 + 2), .inr (.inr (.inr false)), .inl v165, .inr (.inr (.inl k1))]) rfl ?_
  obtain ⟨v167, h168, h⟩ := Option.bind_eq_some_iff.mp h
  refine J_sget (jat ok_L_law_5 10 (pc := 595) (i := .iaload) (n := 1) rfl rfl) h168 ?_
  by_cases c171 : qO ah k1 5 = true
  case neg => exact absurd ((if_neg c171).symm.trans h) (by simp)
  have h := (if_pos c171).symm.trans h
  obtain ⟨q169, h170, h⟩ := Option.bind_eq_some_iff.mp h
  refine J_callV (md' := md_X5_mark) (As := [.inl v165, .inl v167]) (st := []) (cs' := (77, 8152)) (st' := [.inl q169.1]) (jat ok_L_law_5 11 (pc := 596) (i := .invokevirtual 61) (n := 3) rfl rfl) ml_RL_61 yv_X5_mark c171 (c_X5_mark l g 23 h170) (jRo_law (by decide) (by decide)) (Nat.le_of_ble_eq_true rfl) ⟨Nat.le_of_ble_eq_true rfl, Nat.le_of_ble_eq_true rfl⟩ rfl rfl rfl ?_
  refine J_seg ok_L_law_5 12 5 (pc' := 604) (ls' := [(0, .inr (.inr (.inr false))), (1, .inr (.inr (.inl k1))), (2, .inr (.inr (.inl k2))), (3, .inl x3)]) (st' := [.inl (x3 + 1), .inr (.inr (.inr false)), .inr (.inr (.inl k2)), .inl q169.1]) rfl ?_
  obtain ⟨v172, h173, h⟩ := Option.bind_eq_some_iff.mp h
  refine J_sget (jat ok_L_law_5 17 (pc := 604) (i := .iaload) (n := 1) rfl rfl) h173 ?_
  refine J_seg ok_L_law_5 18 4 (pc' := 609) (ls' := [(0, .inr (.inr (.inr false))), (1, .inr (.inr (.inl k1))), (2, .inr (.inr (.inl k2))), (3, .inl x3)]) (st' := [.inl (x3 + 2), .inr (.inr (.inr false)), .inl v172, .inr (.inr (.inl k2)), .inl q169.1]) rfl ?_
  obtain ⟨v174, h175, h⟩ := Option.bind_eq_some_iff.mp h
  refine J_sget (jat ok_L_law_5 22 (pc := 609) (i := .iaload) (n := 1) rfl rfl) h175 ?_
  by_cases c178 : qO q169.2 k2 6 = true
  case neg => exact absurd ((if_neg c178).symm.trans h) (by simp)
  have h := (if_pos c178).symm.trans h
  obtain ⟨q176, h177, h⟩ := Option.bind_eq_some_iff.mp h
  refine J_callV (md' := md_X6_mark) (As := [.inl v172, .inl v174]) (st := [.inl q169.1]) (cs' := (77, 8152)) (st' := [.inl q176.1, .inl q169.1]) (jat ok_L_law_5 23 (pc := 610) (i := .invokevirtual 64) (n := 3) rfl rfl) ml_RL_64 yv_X6_mark c178 (c_X6_mark l g 26 h177) (jRo_law (by decide) (by decide)) (Nat.le_of_ble_eq_true rfl) ⟨Nat.le_of_ble_eq_true rfl, Nat.le_of_ble_eq_true rfl⟩ rfl rfl rfl ?_
  refine J_eq (jat ok_L_law_5 24 (pc := 613) (i := .if_icmp .eq 675) (n := 3) rfl rfl) (tgt := 1288) (by decide) (fun c => ?_) (fun c => ?_)
  · have h := (if_pos c).symm.trans h
    refine J_seg ok_L_law_14 8 2 (pc' := 18) (ls' := [(3, .inl (x3 + 6)), (0, .inr (.inr (.inr false))), (1, .inr (.inr (.inl k1))), (2, .inr (.inr (.inl k2)))]) (st' := []) rfl ?_
    exact J_sub (ls' := [(0, .inr (.inr (.inr false))), (1, .inr (.inr (.inl k1))), (2, .inr (.inr (.inl k2))), (3, .inl (x3 + 6))]) [1, 2, 3, 0] rfl (hN (x3 + 6, q176.2) (Option.some.inj h).symm)
  · have h := (if_neg c).symm.trans h
    refine J_seg ok_L_law_5 25 1 (pc' := 617) (ls' := [(0, .inr (.inr (.inr false))), (1, .inr (.inr (.inl k1))), (2, .inr (.inr (.inl k2))), (3, .inl x3)]) (st' := [.inl 0]) rfl ?_
    exact hR _ (Option.some.inj h).symm _ _ (jat ok_L_law_5 26 (pc := 617) (i := .ireturn) (n := 1) rfl rfl)
def f_L_law_b18_j618 (g : GX) (k1 : Option Nat) (k2 : Option Nat) (x3 : Int32) (ah : AH) : Option ((Int32 × AH) ⊕ (((Unit) × AH) ⊕ ((Int32) × AH))) :=
  (gS g (x3 + 1)).bind fun v179 => (gS g (x3 + 2)).bind fun v181 => if qO ah k1 5 = true then ((f_X5_strength k1 v179 v181 ah).bind fun q183 => (gS g (x3 + 1)).bind fun v186 => (gS g (x3 + 2)).bind fun v188 => if qO q183.2 k2 6 = true then ((f_X6_strength k2 v186 v188 q183.2).bind fun q190 => if q183.1 = q190.1 then (some (.inr (.inr (x3 + 6, q190.2)))) else (some (.inl (0, q190.2)))) else none) else none
set_option maxRecDepth 100000 in
set_option maxHeartbeats 4000000 in
theorem k_L_law_b18_j618 {l : Launch} {g : GX} {nm : String} (d : Nat) {Q : jQ} {k1 : Option Nat} {k2 : Option Nat} {x3 : Int32} (ah : AH) (out : (Int32 × AH) ⊕ (((Unit) × AH) ⊕ ((Int32) × AH))) (h : f_L_law_b18_j618 g k1 k2 x3 ah = some out) (hR : ∀ q, out = .inl q → jRetI l g (md_L_law nm) room_1 Q (77, 8152) q.1 q.2) (hX : ∀ q, out = .inr (.inl q) → J l g (md_L_law nm) room_1 Q 1294 [] [] q.2 (77, 8152)) (hN : ∀ q, out = .inr (.inr q) → J l g (md_L_law nm) room_1 Q 18 [(0, .inr (.inr (.inr false))), (1, .inr (.inr (.inl k1))), (2, .inr (.inr (.inl k2))), (3, .inl q.1)] [] q.2 (77, 8152)) : J l g (md_L_law nm) room_1 Q 618 [(0, .inr (.inr (.inr false))), (1, .inr (.inr (.inl k1))), (2, .inr (.inr (.inl k2))), (3, .inl x3)] [] ah (77, 8152) := by
  unfold f_L_law_b18_j618 at h
  refine J_seg ok_L_law_5 27 5 (pc' := 623) (ls' := [(0, .inr (.inr (.inr false))), (1, .inr (.inr (.inl k1))), (2, .inr (.inr (.inl k2))), (3, .inl x3)]) (st' := [.inl (x3 + 1), .inr (.inr (.inr false)), .inr (.inr (.inl k1))]) rfl ?_
  obtain ⟨v179, h180, h⟩ := Option.bind_eq_some_iff.mp h
  refine J_sget (jat ok_L_law_5 32 (pc := 623) (i := .iaload) (n := 1) rfl rfl) h180 ?_
  refine J_seg ok_L_law_5 33 4 (pc' := 628) (ls' := [(0, .inr (.inr (.inr false))), (1, .inr (.inr (.inl k1))), (2, .inr (.inr (.inl k2))), (3, .inl x3)]) (st' := [.inl (x3 + 2), .inr (.inr (.inr false)), .inl v179, .inr (.inr (.inl k1))]) rfl ?_
  obtain ⟨v181, h182, h⟩ := Option.bind_eq_some_iff.mp h
  refine J_sget (jat ok_L_law_5 37 (pc := 628) (i := .iaload) (n := 1) rfl rfl) h182 ?_
  by_cases c185 : qO ah k1 5 = true
  case neg => exact absurd ((if_neg c185).symm.trans h) (by simp)
  have h := (if_pos c185).symm.trans h
  obtain ⟨q183, h184, h⟩ := Option.bind_eq_some_iff.mp h
  refine J_callV (md' := md_X5_strength) (As := [.inl v179, .inl v181]) (st := []) (cs' := (77, 8152)) (st' := [.inl q183.1]) (jat ok_L_law_5 38 (pc := 629) (i := .invokevirtual 65) (n := 3) rfl rfl) ml_RL_65 yv_X5_strength c185 (c_X5_strength l g 24 h184) (jRo_law (by decide) (by decide)) (Nat.le_of_ble_eq_true rfl) ⟨Nat.le_of_ble_eq_true rfl, Nat.le_of_ble_eq_true rfl⟩ rfl rfl rfl ?_
  refine J_seg ok_L_law_5 39 5 (pc' := 637) (ls' := [(0, .inr (.inr (.inr false))), (1, .inr (.inr (.inl k1))), (2, .inr (.inr (.inl k2))), (3, .inl x3)]) (st' := [.inl (x3 + 1), .inr (.inr (.inr false)), .inr (.inr (.inl k2)), .inl q183.1]) rfl ?_
  obtain ⟨v186, h187, h⟩ := Option.bind_eq_some_iff.mp h
  refine J_sget (jat ok_L_law_5 44 (pc := 637) (i := .iaload) (n := 1) rfl rfl) h187 ?_
  refine J_seg ok_L_law_5 45 4 (pc' := 642) (ls' := [(0, .inr (.inr (.inr false))), (1, .inr (.inr (.inl k1))), (2, .inr (.inr (.inl k2))), (3, .inl x3)]) (st' := [.inl (x3 + 2), .inr (.inr (.inr false)), .inl v186, .inr (.inr (.inl k2)), .inl q183.1]) rfl ?_
  obtain ⟨v188, h189, h⟩ := Option.bind_eq_some_iff.mp h
  refine J_sget (jat ok_L_law_5 49 (pc := 642) (i := .iaload) (n := 1) rfl rfl) h189 ?_
  by_cases c192 : qO q183.2 k2 6 = true
  case neg => exact absurd ((if_neg c192).symm.trans h) (by simp)
  have h := (if_pos c192).symm.trans h
  obtain ⟨q190, h191, h⟩ := Option.bind_eq_some_iff.mp h
  refine J_callV (md' := md_X6_strength) (As := [.inl v186, .inl v188]) (st := [.inl q183.1]) (cs' := (77, 8152)) (st' := [.inl q190.1, .inl q183.1]) (jat ok_L_law_5 50 (pc := 643) (i := .invokevirtual 68) (n := 3) rfl rfl) ml_RL_68 yv_X6_strength c192 (c_X6_strength l g 26 h191) (jRo_law (by decide) (by decide)) (Nat.le_of_ble_eq_true rfl) ⟨Nat.le_of_ble_eq_true rfl, Nat.le_of_ble_eq_true rfl⟩ rfl rfl rfl ?_
  refine J_eq (jat ok_L_law_5 51 (pc := 646) (i := .if_icmp .eq 642) (n := 3) rfl rfl) (tgt := 1288) (by decide) (fun c => ?_) (fun c => ?_)
  · have h := (if_pos c).symm.trans h
    refine J_seg ok_L_law_14 8 2 (pc' := 18) (ls' := [(3, .inl (x3 + 6)), (0, .inr (.inr (.inr false))), (1, .inr (.inr (.inl k1))), (2, .inr (.inr (.inl k2)))]) (st' := []) rfl ?_
    exact J_sub (ls' := [(0, .inr (.inr (.inr false))), (1, .inr (.inr (.inl k1))), (2, .inr (.inr (.inl k2))), (3, .inl (x3 + 6))]) [1, 2, 3, 0] rfl (hN (x3 + 6, q190.2) (Option.some.inj h).symm)
  · have h := (if_neg c).symm.trans h
    refine J_seg ok_L_law_5 52 1 (pc' := 650) (ls' := [(0, .inr (.inr (.inr false))), (1, .inr (.inr (.inl k1))), (2, .inr (.inr (.inl k2))), (3, .inl x3)]) (st' := [.inl 0]) rfl ?_
    exact hR _ (Option.some.inj h).symm _ _ (jat ok_L_law_5 53 (pc := 650) (i := .ireturn) (n := 1) rfl rfl)
def f_L_law_b18_j651 (g : GX) (k1 : Option Nat) (k2 : Option Nat) (x3 : Int32) (ah : AH) : Option ((Int32 × AH) ⊕ (((Unit) × AH) ⊕ ((Int32) × AH))) :=
  (gS g (x3 + 1)).bind fun v193 => if qO ah k1 5 = true then ((f_X5_week k1 v193 ah).bind fun q195 => (gS g (x3 + 1)).bind fun v198 => if qO q195.2 k2 6 = true then ((f_X6_week k2 v198 q195.2).bind fun q200 => if q195.1 = q200.1 then (some (.inr (.inr (x3 + 6, q200.2)))) else (some (.inl (0, q200.2)))) else none) else none
set_option maxRecDepth 100000 in
set_option maxHeartbeats 4000000 in
theorem k_L_law_b18_j651 {l : Launch} {g : GX} {nm : String} (d : Nat) {Q : jQ} {k1 : Option Nat} {k2 : Option Nat} {x3 : Int32} (ah : AH) (out : (Int32 × AH) ⊕ (((Unit) × AH) ⊕ ((Int32) × AH))) (h : f_L_law_b18_j651 g k1 k2 x3 ah = some out) (hR : ∀ q, out = .inl q → jRetI l g (md_L_law nm) room_1 Q (77, 8152) q.1 q.2) (hX : ∀ q, out = .inr (.inl q) → J l g (md_L_law nm) room_1 Q 1294 [] [] q.2 (77, 8152)) (hN : ∀ q, out = .inr (.inr q) → J l g (md_L_law nm) room_1 Q 18 [(0, .inr (.inr (.inr false))), (1, .inr (.inr (.inl k1))), (2, .inr (.inr (.inl k2))), (3, .inl q.1)] [] q.2 (77, 8152)) : J l g (md_L_law nm) room_1 Q 651 [(0, .inr (.inr (.inr false))), (1, .inr (.inr (.inl k1))), (2, .inr (.inr (.inl k2))), (3, .inl x3)] [] ah (77, 8152) := by
  unfold f_L_law_b18_j651 at h
  refine J_seg ok_L_law_6 0 5 (pc' := 656) (ls' := [(0, .inr (.inr (.inr false))), (1, .inr (.inr (.inl k1))), (2, .inr (.inr (.inl k2))), (3, .inl x3)]) (st' := [.inl (x3 + 1), .inr (.inr (.inr false)), .inr (.inr (.inl k1))]) rfl ?_
  obtain ⟨v193, h194, h⟩ := Option.bind_eq_some_iff.mp h
  refine J_sget (jat ok_L_law_6 5 (pc := 656) (i := .iaload) (n := 1) rfl rfl) h194 ?_
  by_cases c197 : qO ah k1 5 = true
  case neg => exact absurd ((if_neg c197).symm.trans h) (by simp)
  have h := (if_pos c197).symm.trans h
  obtain ⟨q195, h196, h⟩ := Option.bind_eq_some_iff.mp h
  refine J_callV (md' := md_X5_week) (As := [.inl v193]) (st := []) (cs' := (77, 8152)) (st' := [.inl q195.1]) (jat ok_L_law_6 6 (pc := 657) (i := .invokevirtual 69) (n := 3) rfl rfl) ml_RL_69 yv_X5_week c197 (c_X5_week l g 23 h196) (jRo_law (by decide) (by decide)) (Nat.le_of_ble_eq_true rfl) ⟨Nat.le_of_ble_eq_true rfl, Nat.le_of_ble_eq_true rfl⟩ rfl rfl rfl ?_
  refine J_seg ok_L_law_6 7 5 (pc' := 665) (ls' := [(0, .inr (.inr (.inr false))), (1, .inr (.inr (.inl k1))), (2, .inr (.inr (.inl k2))), (3, .inl x3)]) (st' := [.inl (x3 + 1), .inr (.inr (.inr false)), .inr (.inr (.inl k2)), .inl q195.1]) rfl ?_
  obtain ⟨v198, h199, h⟩ := Option.bind_eq_some_iff.mp h
  refine J_sget (jat ok_L_law_6 12 (pc := 665) (i := .iaload) (n := 1) rfl rfl) h199 ?_
  by_cases c202 : qO q195.2 k2 6 = true
  case neg => exact absurd ((if_neg c202).symm.trans h) (by simp)
  have h := (if_pos c202).symm.trans h
  obtain ⟨q200, h201, h⟩ := Option.bind_eq_some_iff.mp h
  refine J_callV (md' := md_X6_week) (As := [.inl v198]) (st := [.inl q195.1]) (cs' := (77, 8152)) (st' := [.inl q200.1, .inl q195.1]) (jat ok_L_law_6 13 (pc := 666) (i := .invokevirtual 72) (n := 3) rfl rfl) ml_RL_72 yv_X6_week c202 (c_X6_week l g 26 h201) (jRo_law (by decide) (by decide)) (Nat.le_of_ble_eq_true rfl) ⟨Nat.le_of_ble_eq_true rfl, Nat.le_of_ble_eq_true rfl⟩ rfl rfl rfl ?_
  refine J_eq (jat ok_L_law_6 14 (pc := 669) (i := .if_icmp .eq 619) (n := 3) rfl rfl) (tgt := 1288) (by decide) (fun c => ?_) (fun c => ?_)
  · have h := (if_pos c).symm.trans h
    refine J_seg ok_L_law_14 8 2 (pc' := 18) (ls' := [(3, .inl (x3 + 6)), (0, .inr (.inr (.inr false))), (1, .inr (.inr (.inl k1))), (2, .inr (.inr (.inl k2)))]) (st' := []) rfl ?_
    exact J_sub (ls' := [(0, .inr (.inr (.inr false))), (1, .inr (.inr (.inl k1))), (2, .inr (.inr (.inl k2))), (3, .inl (x3 + 6))]) [1, 2, 3, 0] rfl (hN (x3 + 6, q200.2) (Option.some.inj h).symm)
  · have h := (if_neg c).symm.trans h
    refine J_seg ok_L_law_6 15 1 (pc' := 673) (ls' := [(0, .inr (.inr (.inr false))), (1, .inr (.inr (.inl k1))), (2, .inr (.inr (.inl k2))), (3, .inl x3)]) (st' := [.inl 0]) rfl ?_
    exact hR _ (Option.some.inj h).symm _ _ (jat ok_L_law_6 16 (pc := 673) (i := .ireturn) (n := 1) rfl rfl)
def f_L_law_b18_j674 (g : GX) (k1 : Option Nat) (k2 : Option Nat) (x3 : Int32) (ah : AH) : Option ((Int32 × AH) ⊕ (((Unit) × AH) ⊕ ((Int32) × AH))) :=
  (gS g (x3 + 1)).bind fun v203 => (gS g (x3 + 2)).bind fun v205 => if qO ah k1 5 = true then ((f_X5_exchange k1 v203 v205 ah).bind fun q207 => (gS g (x3 + 1)).bind fun v210 => (gS g (x3 + 2)).bind fun v212 => if qO q207.2 k2 6 = true then ((f_X6_exchange k2 v210 v212 q207.2).bind fun q214 => if q207.1 = q214.1 then (some (.inr (.inr (x3 + 6, q214.2)))) else (some (.inl (0, q214.2)))) else none) else none
set_option maxRecDepth 100000 in
set_option maxHeartbeats 4000000 in
theorem k_L_law_b18_j674 {l : Launch} {g : GX} {nm : String} (d : Nat) {Q : jQ} {k1 : Option Nat} {k2 : Option Nat} {x3 : Int32} (ah : AH) (out : (Int32 × AH) ⊕ (((Unit) × AH) ⊕ ((Int32) × AH))) (h : f_L_law_b18_j674 g k1 k2 x3 ah = some out) (hR : ∀ q, out = .inl q → jRetI l g (md_L_law nm) room_1 Q (77, 8152) q.1 q.2) (hX : ∀ q, out = .inr (.inl q) → J l g (md_L_law nm) room_1 Q 1294 [] [] q.2 (77, 8152)) (hN : ∀ q, out = .inr (.inr q) → J l g (md_L_law nm) room_1 Q 18 [(0, .inr (.inr (.inr false))), (1, .inr (.inr (.inl k1))), (2, .inr (.inr (.inl k2))), (3, .inl q.1)] [] q.2 (77, 8152)) : J l g (md_L_law nm) room_1 Q 674 [(0, .inr (.inr (.inr false))), (1, .inr (.inr (.inl k1))), (2, .inr (.inr (.inl k2))), (3, .inl x3)] [] ah (77, 8152) := by
  unfold f_L_law_b18_j674 at h
  refine J_seg ok_L_law_6 17 5 (pc' := 679) (ls' := [(0, .inr (.inr (.inr false))), (1, .inr (.inr (.inl k1))), (2, .inr (.inr (.inl k2))), (3, .inl x3)]) (st' := [.inl (x3 + 1), .inr (.inr (.inr false)), .inr (.inr (.inl k1))]) rfl ?_
  obtain ⟨v203, h204, h⟩ := Option.bind_eq_some_iff.mp h
  refine J_sget (jat ok_L_law_6 22 (pc := 679) (i := .iaload) (n := 1) rfl rfl) h204 ?_
  refine J_seg ok_L_law_6 23 4 (pc' := 684) (ls' := [(0, .inr (.inr (.inr false))), (1, .inr (.inr (.inl k1))), (2, .inr (.inr (.inl k2))), (3, .inl x3)]) (st' := [.inl (x3 + 2), .inr (.inr (.inr false)), .inl v203, .inr (.inr (.inl k1))]) rfl ?_
  obtain ⟨v205, h206, h⟩ := Option.bind_eq_some_iff.mp h
  refine J_sget (jat ok_L_law_6 27 (pc := 684) (i := .iaload) (n := 1) rfl rfl) h206 ?_
  by_cases c209 : qO ah k1 5 = true
  case neg => exact absurd ((if_neg c209).symm.trans h) (by simp)
  have h := (if_pos c209).symm.trans h
  obtain ⟨q207, h208, h⟩ := Option.bind_eq_some_iff.mp h
  refine J_callV (md' := md_X5_exchange) (As := [.inl v203, .inl v205]) (st := []) (cs' := (77, 8152)) (st' := [.inl q207.1]) (jat ok_L_law_6 28 (pc := 685) (i := .invokevirtual 73) (n := 3) rfl rfl) ml_RL_73 yv_X5_exchange c209 (c_X5_exchange l g 27 h208) (jRo_law (by decide) (by decide)) (Nat.le_of_ble_eq_true rfl) ⟨Nat.le_of_ble_eq_true rfl, Nat.le_of_ble_eq_true rfl⟩ rfl rfl rfl ?_
  refine J_seg ok_L_law_6 29 5 (pc' := 693) (ls' := [(0, .inr (.inr (.inr false))), (1, .inr (.inr (.inl k1))), (2, .inr (.inr (.inl k2))), (3, .inl x3)]) (st' := [.inl (x3 + 1), .inr (.inr (.inr false)), .inr (.inr (.inl k2)), .inl q207.1]) rfl ?_
  obtain ⟨v210, h211, h⟩ := Option.bind_eq_some_iff.mp h
  refine J_sget (jat ok_L_law_6 34 (pc := 693) (i := .iaload) (n := 1) rfl rfl) h211 ?_
  refine J_seg ok_L_law_6 35 4 (pc' := 698) (ls' := [(0, .inr (.inr (.inr false))), (1, .inr (.inr (.inl k1))), (2, .inr (.inr (.inl k2))), (3, .inl x3)]) (st' := [.inl (x3 + 2), .inr (.inr (.inr false)), .inl v210, .inr (.inr (.inl k2)), .inl q207.1]) rfl ?_
  obtain ⟨v212, h213, h⟩ := Option.bind_eq_some_iff.mp h
  refine J_sget (jat ok_L_law_6 39 (pc := 698) (i := .iaload) (n := 1) rfl rfl) h213 ?_
  by_cases c216 : qO q207.2 k2 6 = true
  case neg => exact absurd ((if_neg c216).symm.trans h) (by simp)
  have h := (if_pos c216).symm.trans h
  obtain ⟨q214, h215, h⟩ := Option.bind_eq_some_iff.mp h
  refine J_callV (md' := md_X6_exchange) (As := [.inl v210, .inl v212]) (st := [.inl q207.1]) (cs' := (77, 8152)) (st' := [.inl q214.1, .inl q207.1]) (jat ok_L_law_6 40 (pc := 699) (i := .invokevirtual 76) (n := 3) rfl rfl) ml_RL_76 yv_X6_exchange c216 (c_X6_exchange l g 26 h215) (jRo_law (by decide) (by decide)) (Nat.le_of_ble_eq_true rfl) ⟨Nat.le_of_ble_eq_true rfl, Nat.le_of_ble_eq_true rfl⟩ rfl rfl rfl ?_
  refine J_eq (jat ok_L_law_6 41 (pc := 702) (i := .if_icmp .eq 586) (n := 3) rfl rfl) (tgt := 1288) (by decide) (fun c => ?_) (fun c => ?_)
  · have h := (if_pos c).symm.trans h
    refine J_seg ok_L_law_14 8 2 (pc' := 18) (ls' := [(3, .inl (x3 + 6)), (0, .inr (.inr (.inr false))), (1, .inr (.inr (.inl k1))), (2, .inr (.inr (.inl k2)))]) (st' := []) rfl ?_
    exact J_sub (ls' := [(0, .inr (.inr (.inr false))), (1, .inr (.inr (.inl k1))), (2, .inr (.inr (.inl k2))), (3, .inl (x3 + 6))]) [1, 2, 3, 0] rfl (hN (x3 + 6, q214.2) (Option.some.inj h).symm)
  · have h := (if_neg c).symm.trans h
    refine J_seg ok_L_law_6 42 1 (pc' := 706) (ls' := [(0, .inr (.inr (.inr false))), (1, .inr (.inr (.inl k1))), (2, .inr (.inr (.inl k2))), (3, .inl x3)]) (st' := [.inl 0]) rfl ?_
    exact hR _ (Option.some.inj h).symm _ _ (jat ok_L_law_6 43 (pc := 706) (i := .ireturn) (n := 1) rfl rfl)
def f_L_law_b18_j707 (g : GX) (k1 : Option Nat) (k2 : Option Nat) (x3 : Int32) (ah : AH) : Option ((Int32 × AH) ⊕ (((Unit) × AH) ⊕ ((Int32) × AH))) :=
  (gS g (x3 + 1)).bind fun v217 => if qO ah k1 5 = true then ((f_X5_undo k1 v217 ah).bind fun q219 => (gS g (x3 + 1)).bind fun v222 => if qO q219.2 k2 6 = true then ((f_X6_undo k2 v222 q219.2).bind fun q224 => if q219.1 = q224.1 then (some (.inr (.inr (x3 + 6, q224.2)))) else (some (.inl (0, q224.2)))) else none) else none
set_option maxRecDepth 100000 in
set_option maxHeartbeats 4000000 in
theorem k_L_law_b18_j707 {l : Launch} {g : GX} {nm : String} (d : Nat) {Q : jQ} {k1 : Option Nat} {k2 : Option Nat} {x3 : Int32} (ah : AH) (out : (Int32 × AH) ⊕ (((Unit) × AH) ⊕ ((Int32) × AH))) (h : f_L_law_b18_j707 g k1 k2 x3 ah = some out) (hR : ∀ q, out = .inl q → jRetI l g (md_L_law nm) room_1 Q (77, 8152) q.1 q.2) (hX : ∀ q, out = .inr (.inl q) → J l g (md_L_law nm) room_1 Q 1294 [] [] q.2 (77, 8152)) (hN : ∀ q, out = .inr (.inr q) → J l g (md_L_law nm) room_1 Q 18 [(0, .inr (.inr (.inr false))), (1, .inr (.inr (.inl k1))), (2, .inr (.inr (.inl k2))), (3, .inl q.1)] [] q.2 (77, 8152)) : J l g (md_L_law nm) room_1 Q 707 [(0, .inr (.inr (.inr false))), (1, .inr (.inr (.inl k1))), (2, .inr (.inr (.inl k2))), (3, .inl x3)] [] ah (77, 8152) := by
  unfold f_L_law_b18_j707 at h
  refine J_seg ok_L_law_6 44 5 (pc' := 712) (ls' := [(0, .inr (.inr (.inr false))), (1, .inr (.inr (.inl k1))), (2, .inr (.inr (.inl k2))), (3, .inl x3)]) (st' := [.inl (x3 + 1), .inr (.inr (.inr false)), .inr (.inr (.inl k1))]) rfl ?_
  obtain ⟨v217, h218, h⟩ := Option.bind_eq_some_iff.mp h
  refine J_sget (jat ok_L_law_6 49 (pc := 712) (i := .iaload) (n := 1) rfl rfl) h218 ?_
  by_cases c221 : qO ah k1 5 = true
  case neg => exact absurd ((if_neg c221).symm.trans h) (by simp)
  have h := (if_pos c221).symm.trans h
  obtain ⟨q219, h220, h⟩ := Option.bind_eq_some_iff.mp h
  refine J_callV (md' := md_X5_undo) (As := [.inl v217]) (st := []) (cs' := (77, 8152)) (st' := [.inl q219.1]) (jat ok_L_law_6 50 (pc := 713) (i := .invokevirtual 77) (n := 3) rfl rfl) ml_RL_77 yv_X5_undo c221 (c_X5_undo l g 28 h220) (jRo_law (by decide) (by decide)) (Nat.le_of_ble_eq_true rfl) ⟨Nat.le_of_ble_eq_true rfl, Nat.le_of_ble_eq_true rfl⟩ rfl rfl rfl ?_
  refine J_seg ok_L_law_6 51 5 (pc' := 721) (ls' := [(0, .inr (.inr (.inr false))), (1, .inr (.inr (.inl k1))), (2, .inr (.inr (.inl k2))), (3, .inl x3)]) (st' := [.inl (x3 + 1), .inr (.inr (.inr false)), .inr (.inr (.inl k2)), .inl q219.1]) rfl ?_
  obtain ⟨v222, h223, h⟩ := Option.bind_eq_some_iff.mp h
  refine J_sget (jat ok_L_law_6 56 (pc := 721) (i := .iaload) (n := 1) rfl rfl) h223 ?_
  by_cases c226 : qO q219.2 k2 6 = true
  case neg => exact absurd ((if_neg c226).symm.trans h) (by simp)
  have h := (if_pos c226).symm.trans h
  obtain ⟨q224, h225, h⟩ := Option.bind_eq_some_iff.mp h
  refine J_callV (md' := md_X6_undo) (As := [.inl v222]) (st := [.inl q219.1]) (cs' := (77, 8152)) (st' := [.inl q224.1, .inl q219.1]) (jat ok_L_law_6 57 (pc := 722) (i := .invokevirtual 80) (n := 3) rfl rfl) ml_RL_80 yv_X6_undo c226 (c_X6_undo l g 28 h225) (jRo_law (by decide) (by decide)) (Nat.le_of_ble_eq_true rfl) ⟨Nat.le_of_ble_eq_true rfl, Nat.le_of_ble_eq_true rfl⟩ rfl rfl rfl ?_
  refine J_eq (jat ok_L_law_6 58 (pc := 725) (i := .if_icmp .eq 563) (n := 3) rfl rfl) (tgt := 1288) (by decide) (fun c => ?_) (fun c => ?_)
  · have h := (if_pos c).symm.trans h
    refine J_seg ok_L_law_14 8 2 (pc' := 18) (ls' := [(3, .inl (x3 + 6)), (0, .inr (.inr (.inr false))), (1, .inr (.inr (.inl k1))), (2, .inr (.inr (.inl k2)))]) (st' := []) rfl ?_
    exact J_sub (ls' := [(0, .inr (.inr (.inr false))), (1, .inr (.inr (.inl k1))), (2, .inr (.inr (.inl k2))), (3, .inl (x3 + 6))]) [1, 2, 3, 0] rfl (hN (x3 + 6, q224.2) (Option.some.inj h).symm)
  · have h := (if_neg c).symm.trans h
    refine J_seg ok_L_law_6 59 1 (pc' := 729) (ls' := [(0, .inr (.inr (.inr false))), (1, .inr (.inr (.inl k1))), (2, .inr (.inr (.inl k2))), (3, .inl x3)]) (st' := [.inl 0]) rfl ?_
    exact hR _ (Option.some.inj h).symm _ _ (jat ok_L_law_6 60 (pc := 729) (i := .ireturn) (n := 1) rfl rfl)
def f_L_law_b18_j730 (g : GX) (k1 : Option Nat) (k2 : Option Nat) (x3 : Int32) (ah : AH) : Option ((Int32 × AH) ⊕ (((Unit) × AH) ⊕ ((Int32) × AH))) :=
  (gS g (x3 + 1)).bind fun v227 => if qO ah k1 5 = true then ((f_X5_keep k1 v227 ah).bind fun q229 => (gS g (x3 + 1)).bind fun v232 => if qO q229.2 k2 6 = true then ((f_X6_keep k2 v232 q229.2).bind fun q234 => if q229.1 = q234.1 then (some (.inr (.inr (x3 + 6, q234.2)))) else (some (.inl (0, q234.2)))) else none) else none
set_option maxRecDepth 100000 in
set_option maxHeartbeats 4000000 in
theorem k_L_law_b18_j730 {l : Launch} {g : GX} {nm : String} (d : Nat) {Q : jQ} {k1 : Option Nat} {k2 : Option Nat} {x3 : Int32} (ah : AH) (out : (Int32 × AH) ⊕ (((Unit) × AH) ⊕ ((Int32) × AH))) (h : f_L_law_b18_j730 g k1 k2 x3 ah = some out) (hR : ∀ q, out = .inl q → jRetI l g (md_L_law nm) room_1 Q (77, 8152) q.1 q.2) (hX : ∀ q, out = .inr (.inl q) → J l g (md_L_law nm) room_1 Q 1294 [] [] q.2 (77, 8152)) (hN : ∀ q, out = .inr (.inr q) → J l g (md_L_law nm) room_1 Q 18 [(0, .inr (.inr (.inr false))), (1, .inr (.inr (.inl k1))), (2, .inr (.inr (.inl k2))), (3, .inl q.1)] [] q.2 (77, 8152)) : J l g (md_L_law nm) room_1 Q 730 [(0, .inr (.inr (.inr false))), (1, .inr (.inr (.inl k1))), (2, .inr (.inr (.inl k2))), (3, .inl x3)] [] ah (77, 8152) := by
  unfold f_L_law_b18_j730 at h
  refine J_seg ok_L_law_7 0 5 (pc' := 735) (ls' := [(0, .inr (.inr (.inr false))), (1, .inr (.inr (.inl k1))), (2, .inr (.inr (.inl k2))), (3, .inl x3)]) (st' := [.inl (x3 + 1), .inr (.inr (.inr false)), .inr (.inr (.inl k1))]) rfl ?_
  obtain ⟨v227, h228, h⟩ := Option.bind_eq_some_iff.mp h
  refine J_sget (jat ok_L_law_7 5 (pc := 735) (i := .iaload) (n := 1) rfl rfl) h228 ?_
  by_cases c231 : qO ah k1 5 = true
  case neg => exact absurd ((if_neg c231).symm.trans h) (by simp)
  have h := (if_pos c231).symm.trans h
  obtain ⟨q229, h230, h⟩ := Option.bind_eq_some_iff.mp h
  refine J_callV (md' := md_X5_keep) (As := [.inl v227]) (st := []) (cs' := (77, 8152)) (st' := [.inl q229.1]) (jat ok_L_law_7 6 (pc := 736) (i := .invokevirtual 81) (n := 3) rfl rfl) ml_RL_81 yv_X5_keep c231 (c_X5_keep l g 27 h230) (jRo_law (by decide) (by decide)) (Nat.le_of_ble_eq_true rfl) ⟨Nat.le_of_ble_eq_true rfl, Nat.le_of_ble_eq_true rfl⟩ rfl rfl rfl ?_
  refine J_seg ok_L_law_7 7 5 (pc' := 744) (ls' := [(0, .inr (.inr (.inr false))), (1, .inr (.inr (.inl k1))), (2, .inr (.inr (.inl k2))), (3, .inl x3)]) (st' := [.inl (x3 + 1), .inr (.inr (.inr false)), .inr (.inr (.inl k2)), .inl q229.1]) rfl ?_
  obtain ⟨v232, h233, h⟩ := Option.bind_eq_some_iff.mp h
  refine J_sget (jat ok_L_law_7 12 (pc := 744) (i := .iaload) (n := 1) rfl rfl) h233 ?_
  by_cases c236 : qO q229.2 k2 6 = true
  case neg => exact absurd ((if_neg c236).symm.trans h) (by simp)
  have h := (if_pos c236).symm.trans h
  obtain ⟨q234, h235, h⟩ := Option.bind_eq_some_iff.mp h
  refine J_callV (md' := md_X6_keep) (As := [.inl v232]) (st := [.inl q229.1]) (cs' := (77, 8152)) (st' := [.inl q234.1, .inl q229.1]) (jat ok_L_law_7 13 (pc := 745) (i := .invokevirtual 84) (n := 3) rfl rfl) ml_RL_84 yv_X6_keep c236 (c_X6_keep l g 28 h235) (jRo_law (by decide) (by decide)) (Nat.le_of_ble_eq_true rfl) ⟨Nat.le_of_ble_eq_true rfl, Nat.le_of_ble_eq_true rfl⟩ rfl rfl rfl ?_
  refine J_eq (jat ok_L_law_7 14 (pc := 748) (i := .if_icmp .eq 540) (n := 3) rfl rfl) (tgt := 1288) (by decide) (fun c => ?_) (fun c => ?_)
  · have h := (if_pos c).symm.trans h
    refine J_seg ok_L_law_14 8 2 (pc' := 18) (ls' := [(3, .inl (x3 + 6)), (0, .inr (.inr (.inr false))), (1, .inr (.inr (.inl k1))), (2, .inr (.inr (.inl k2)))]) (st' := []) rfl ?_
    exact J_sub (ls' := [(0, .inr (.inr (.inr false))), (1, .inr (.inr (.inl k1))), (2, .inr (.inr (.inl k2))), (3, .inl (x3 + 6))]) [1, 2, 3, 0] rfl (hN (x3 + 6, q234.2) (Option.some.inj h).symm)
  · have h := (if_neg c).symm.trans h
    refine J_seg ok_L_law_7 15 1 (pc' := 752) (ls' := [(0, .inr (.inr (.inr false))), (1, .inr (.inr (.inl k1))), (2, .inr (.inr (.inl k2))), (3, .inl x3)]) (st' := [.inl 0]) rfl ?_
    exact hR _ (Option.some.inj h).symm _ _ (jat ok_L_law_7 16 (pc := 752) (i := .ireturn) (n := 1) rfl rfl)
def f_L_law_b18_j753 (g : GX) (k1 : Option Nat) (k2 : Option Nat) (x3 : Int32) (ah : AH) : Option ((Int32 × AH) ⊕ (((Unit) × AH) ⊕ ((Int32) × AH))) :=
  (gS g (x3 + 1)).bind fun v237 => if qO ah k1 5 = true then ((f_X5_on k1 v237 ah).bind fun q239 => (gS g (x3 + 1)).bind fun v242 => if qO q239.2 k2 6 = true then ((f_X6_on k2 v242 q239.2).bind fun q244 => if q239.1 = q244.1 then (some (.inr (.inr (x3 + 6, q244.2)))) else (some (.inl (0, q244.2)))) else none) else none
set_option maxRecDepth 100000 in
set_option maxHeartbeats 4000000 in
theorem k_L_law_b18_j753 {l : Launch} {g : GX} {nm : String} (d : Nat) {Q : jQ} {k1 : Option Nat} {k2 : Option Nat} {x3 : Int32} (ah : AH) (out : (Int32 × AH) ⊕ (((Unit) × AH) ⊕ ((Int32) × AH))) (h : f_L_law_b18_j753 g k1 k2 x3 ah = some out) (hR : ∀ q, out = .inl q → jRetI l g (md_L_law nm) room_1 Q (77, 8152) q.1 q.2) (hX : ∀ q, out = .inr (.inl q) → J l g (md_L_law nm) room_1 Q 1294 [] [] q.2 (77, 8152)) (hN : ∀ q, out = .inr (.inr q) → J l g (md_L_law nm) room_1 Q 18 [(0, .inr (.inr (.inr false))), (1, .inr (.inr (.inl k1))), (2, .inr (.inr (.inl k2))), (3, .inl q.1)] [] q.2 (77, 8152)) : J l g (md_L_law nm) room_1 Q 753 [(0, .inr (.inr (.inr false))), (1, .inr (.inr (.inl k1))), (2, .inr (.inr (.inl k2))), (3, .inl x3)] [] ah (77, 8152) := by
  unfold f_L_law_b18_j753 at h
  refine J_seg ok_L_law_7 17 5 (pc' := 758) (ls' := [(0, .inr (.inr (.inr false))), (1, .inr (.inr (.inl k1))), (2, .inr (.inr (.inl k2))), (3, .inl x3)]) (st' := [.inl (x3 + 1), .inr (.inr (.inr false)), .inr (.inr (.inl k1))]) rfl ?_
  obtain ⟨v237, h238, h⟩ := Option.bind_eq_some_iff.mp h
  refine J_sget (jat ok_L_law_7 22 (pc := 758) (i := .iaload) (n := 1) rfl rfl) h238 ?_
  by_cases c241 : qO ah k1 5 = true
  case neg => exact absurd ((if_neg c241).symm.trans h) (by simp)
  have h := (if_pos c241).symm.trans h
  obtain ⟨q239, h240, h⟩ := Option.bind_eq_some_iff.mp h
  refine J_callV (md' := md_X5_on) (As := [.inl v237]) (st := []) (cs' := (77, 8152)) (st' := [.inl q239.1]) (jat ok_L_law_7 23 (pc := 759) (i := .invokevirtual 85) (n := 3) rfl rfl) ml_RL_85 yv_X5_on c241 (c_X5_on l g 27 h240) (jRo_law (by decide) (by decide)) (Nat.le_of_ble_eq_true rfl) ⟨Nat.le_of_ble_eq_true rfl, Nat.le_of_ble_eq_true rfl⟩ rfl rfl rfl ?_
  refine J_seg ok_L_law_7 24 5 (pc' := 767) (ls' := [(0, .inr (.inr (.inr false))), (1, .inr (.inr (.inl k1))), (2, .inr (.inr (.inl k2))), (3, .inl x3)]) (st' := [.inl (x3 + 1), .inr (.inr (.inr false)), .inr (.inr (.inl k2)), .inl q239.1]) rfl ?_
  obtain ⟨v242, h243, h⟩ := Option.bind_eq_some_iff.mp h
  refine J_sget (jat ok_L_law_7 29 (pc := 767) (i := .iaload) (n := 1) rfl rfl) h243 ?_
  by_cases c246 : qO q239.2 k2 6 = true
  case neg => exact absurd ((if_neg c246).symm.trans h) (by simp)
  have h := (if_pos c246).symm.trans h
  obtain ⟨q244, h245, h⟩ := Option.bind_eq_some_iff.mp h
  refine J_callV (md' := md_X6_on) (As := [.inl v242]) (st := [.inl q239.1]) (cs' := (77, 8152)) (st' := [.inl q244.1, .inl q239.1]) (jat ok_L_law_7 30 (pc := 768) (i := .invokevirtual 88) (n := 3) rfl rfl) ml_RL_88 yv_X6_on c246 (c_X6_on l g 28 h245) (jRo_law (by decide) (by decide)) (Nat.le_of_ble_eq_true rfl) ⟨Nat.le_of_ble_eq_true rfl, Nat.le_of_ble_eq_true rfl⟩ rfl rfl rfl ?_
  refine J_eq (jat ok_L_law_7 31 (pc := 771) (i := .if_icmp .eq 517) (n := 3) rfl rfl) (tgt := 1288) (by decide) (fun c => ?_) (fun c => ?_)
  · have h := (if_pos c).symm.trans h
    refine J_seg ok_L_law_14 8 2 (pc' := 18) (ls' := [(3, .inl (x3 + 6)), (0, .inr (.inr (.inr false))), (1, .inr (.inr (.inl k1))), (2, .inr (.inr (.inl k2)))]) (st' := []) rfl ?_
    exact J_sub (ls' := [(0, .inr (.inr (.inr false))), (1, .inr (.inr (.inl k1))), (2, .inr (.inr (.inl k2))), (3, .inl (x3 + 6))]) [1, 2, 3, 0] rfl (hN (x3 + 6, q244.2) (Option.some.inj h).symm)
  · have h := (if_neg c).symm.trans h
    refine J_seg ok_L_law_7 32 1 (pc' := 775) (ls' := [(0, .inr (.inr (.inr false))), (1, .inr (.inr (.inl k1))), (2, .inr (.inr (.inl k2))), (3, .inl x3)]) (st' := [.inl 0]) rfl ?_
    exact hR _ (Option.some.inj h).symm _ _ (jat ok_L_law_7 33 (pc := 775) (i := .ireturn) (n := 1) rfl rfl)
def f_L_law_b18_j776 (g : GX) (k1 : Option Nat) (k2 : Option Nat) (x3 : Int32) (ah : AH) : Option ((Int32 × AH) ⊕ (((Unit) × AH) ⊕ ((Int32) × AH))) :=
  if qO ah k1 5 = true then ((f_X5_rings k1 ah).bind fun q247 => if qO q247.2 k2 6 = true then ((f_X6_rings k2 q247.2).bind fun q250 => if q247.1 = q250.1 then (some (.inr (.inr (x3 + 6, q250.2)))) else (some (.inl (0, q250.2)))) else none) else none
set_option maxRecDepth 100000 in
set_option maxHeartbeats 4000000 in
theorem k_L_law_b18_j776 {l : Launch} {g : GX} {nm : String} (d : Nat) {Q : jQ} {k1 : Option Nat} {k2 : Option Nat} {x3 : Int32} (ah : AH) (out : (Int32 × AH) ⊕ (((Unit) × AH) ⊕ ((Int32) × AH))) (h : f_L_law_b18_j776 g k1 k2 x3 ah = some out) (hR : ∀ q, out = .inl q → jRetI l g (md_L_law nm) room_1 Q (77, 8152) q.1 q.2) (hX : ∀ q, out = .inr (.inl q) → J l g (md_L_law nm) room_1 Q 1294 [] [] q.2 (77, 8152)) (hN : ∀ q, out = .inr (.inr q) → J l g (md_L_law nm) room_1 Q 18 [(0, .inr (.inr (.inr false))), (1, .inr (.inr (.inl k1))), (2, .inr (.inr (.inl k2))), (3, .inl q.1)] [] q.2 (77, 8152)) : J l g (md_L_law nm) room_1 Q 776 [(0, .inr (.inr (.inr false))), (1, .inr (.inr (.inl k1))), (2, .inr (.inr (.inl k2))), (3, .inl x3)] [] ah (77, 8152) := by
  unfold f_L_law_b18_j776 at h
  refine J_seg ok_L_law_7 34 1 (pc' := 777) (ls' := [(0, .inr (.inr (.inr false))), (1, .inr (.inr (.inl k1))), (2, .inr (.inr (.inl k2))), (3, .inl x3)]) (st' := [.inr (.inr (.inl k1))]) rfl ?_
  by_cases c249 : qO ah k1 5 = true
  case neg => exact absurd ((if_neg c249).symm.trans h) (by simp)
  have h := (if_pos c249).symm.trans h
  obtain ⟨q247, h248, h⟩ := Option.bind_eq_some_iff.mp h
  refine J_callV (md' := md_X5_rings) (As := []) (st := []) (cs' := (77, 8152)) (st' := [.inl q247.1]) (jat ok_L_law_7 35 (pc := 777) (i := .invokevirtual 89) (n := 3) rfl rfl) ml_RL_89 yv_X5_rings c249 (c_X5_rings l g 26 h248) (jRo_law (by decide) (by decide)) (Nat.le_of_ble_eq_true rfl) ⟨Nat.le_of_ble_eq_true rfl, Nat.le_of_ble_eq_true rfl⟩ rfl rfl rfl ?_
  refine J_seg ok_L_law_7 36 1 (pc' := 781) (ls' := [(0, .inr (.inr (.inr false))), (1, .inr (.inr (.inl k1))), (2, .inr (.inr (.inl k2))), (3, .inl x3)]) (st' := [.inr (.inr (.inl k2)), .inl q247.1]) rfl ?_
  by_cases c252 : qO q247.2 k2 6 = true
  case neg => exact absurd ((if_neg c252).symm.trans h) (by simp)
  have h := (if_pos c252).symm.trans h
  obtain ⟨q250, h251, h⟩ := Option.bind_eq_some_iff.mp h
  refine J_callV (md' := md_X6_rings) (As := []) (st := [.inl q247.1]) (cs' := (77, 8152)) (st' := [.inl q250.1, .inl q247.1]) (jat ok_L_law_7 37 (pc := 781) (i := .invokevirtual 93) (n := 3) rfl rfl) ml_RL_93 yv_X6_rings c252 (c_X6_rings l g 27 h251) (jRo_law (by decide) (by decide)) (Nat.le_of_ble_eq_true rfl) ⟨Nat.le_of_ble_eq_true rfl, Nat.le_of_ble_eq_true rfl⟩ rfl rfl rfl ?_
  refine J_eq (jat ok_L_law_7 38 (pc := 784) (i := .if_icmp .eq 504) (n := 3) rfl rfl) (tgt := 1288) (by decide) (fun c => ?_) (fun c => ?_)
  · have h := (if_pos c).symm.trans h
    refine J_seg ok_L_law_14 8 2 (pc' := 18) (ls' := [(3, .inl (x3 + 6)), (0, .inr (.inr (.inr false))), (1, .inr (.inr (.inl k1))), (2, .inr (.inr (.inl k2)))]) (st' := []) rfl ?_
    exact J_sub (ls' := [(0, .inr (.inr (.inr false))), (1, .inr (.inr (.inl k1))), (2, .inr (.inr (.inl k2))), (3, .inl (x3 + 6))]) [1, 2, 3, 0] rfl (hN (x3 + 6, q250.2) (Option.some.inj h).symm)
  · have h := (if_neg c).symm.trans h
    refine J_seg ok_L_law_7 39 1 (pc' := 788) (ls' := [(0, .inr (.inr (.inr false))), (1, .inr (.inr (.inl k1))), (2, .inr (.inr (.inl k2))), (3, .inl x3)]) (st' := [.inl 0]) rfl ?_
    exact hR _ (Option.some.inj h).symm _ _ (jat ok_L_law_7 40 (pc := 788) (i := .ireturn) (n := 1) rfl rfl)
def f_L_law_b18_j789 (g : GX) (k1 : Option Nat) (k2 : Option Nat) (x3 : Int32) (ah : AH) : Option ((Int32 × AH) ⊕ (((Unit) × AH) ⊕ ((Int32) × AH))) :=
  (gS g (x3 + 1)).bind fun v253 => if qO ah k1 5 = true then ((f_X5_allies k1 v253 ah).bind fun q255 => (gS g (x3 + 1)).bind fun v258 => if qO q255.2 k2 6 = true then ((f_X6_allies k2 v258 q255.2).bind fun q260 => if q255.1 = q260.1 then (some (.inr (.inr (x3 + 6, q260.2)))) else (some (.inl (0, q260.2)))) else none) else none
set_option maxRecDepth 100000 in
set_option maxHeartbeats 4000000 in
theorem k_L_law_b18_j789 {l : Launch} {g : GX} {nm : String} (d : Nat) {Q : jQ} {k1 : Option Nat} {k2 : Option Nat} {x3 : Int32} (ah : AH) (out : (Int32 × AH) ⊕ (((Unit) × AH) ⊕ ((Int32) × AH))) (h : f_L_law_b18_j789 g k1 k2 x3 ah = some out) (hR : ∀ q, out = .inl q → jRetI l g (md_L_law nm) room_1 Q (77, 8152) q.1 q.2) (hX : ∀ q, out = .inr (.inl q) → J l g (md_L_law nm) room_1 Q 1294 [] [] q.2 (77, 8152)) (hN : ∀ q, out = .inr (.inr q) → J l g (md_L_law nm) room_1 Q 18 [(0, .inr (.inr (.inr false))), (1, .inr (.inr (.inl k1))), (2, .inr (.inr (.inl k2))), (3, .inl q.1)] [] q.2 (77, 8152)) : J l g (md_L_law nm) room_1 Q 789 [(0, .inr (.inr (.inr false))), (1, .inr (.inr (.inl k1))), (2, .inr (.inr (.inl k2))), (3, .inl x3)] [] ah (77, 8152) := by
  unfold f_L_law_b18_j789 at h
  refine J_seg ok_L_law_7 41 5 (pc' := 794) (ls' := [(0, .inr (.inr (.inr false))), (1, .inr (.inr (.inl k1))), (2, .inr (.inr (.inl k2))), (3, .inl x3)]) (st' := [.inl (x3 + 1), .inr (.inr (.inr false)), .inr (.inr (.inl k1))]) rfl ?_
  obtain ⟨v253, h254, h⟩ := Option.bind_eq_some_iff.mp h
  refine J_sget (jat ok_L_law_7 46 (pc := 794) (i := .iaload) (n := 1) rfl rfl) h254 ?_
  by_cases c257 : qO ah k1 5 = true
  case neg => exact absurd ((if_neg c257).symm.trans h) (by simp)
  have h := (if_pos c257).symm.trans h
  obtain ⟨q255, h256, h⟩ := Option.bind_eq_some_iff.mp h
  refine J_callV (md' := md_X5_allies) (As := [.inl v253]) (st := []) (cs' := (77, 8152)) (st' := [.inl q255.1]) (jat ok_L_law_7 47 (pc := 795) (i := .invokevirtual 94) (n := 3) rfl rfl) ml_RL_94 yv_X5_allies c257 (c_X5_allies l g 26 h256) (jRo_law (by decide) (by decide)) (Nat.le_of_ble_eq_true rfl) ⟨Nat.le_of_ble_eq_true rfl, Nat.le_of_ble_eq_true rfl⟩ rfl rfl rfl ?_
  refine J_seg ok_L_law_7 48 5 (pc' := 803) (ls' := [(0, .inr (.inr (.inr false))), (1, .inr (.inr (.inl k1))), (2, .inr (.inr (.inl k2))), (3, .inl x3)]) (st' := [.inl (x3 + 1), .inr (.inr (.inr false)), .inr (.inr (.inl k2)), .inl q255.1]) rfl ?_
  obtain ⟨v258, h259, h⟩ := Option.bind_eq_some_iff.mp h
  refine J_sget (jat ok_L_law_7 53 (pc := 803) (i := .iaload) (n := 1) rfl rfl) h259 ?_
  by_cases c262 : qO q255.2 k2 6 = true
  case neg => exact absurd ((if_neg c262).symm.trans h) (by simp)
  have h := (if_pos c262).symm.trans h
  obtain ⟨q260, h261, h⟩ := Option.bind_eq_some_iff.mp h
  refine J_callV (md' := md_X6_allies) (As := [.inl v258]) (st := [.inl q255.1]) (cs' := (77, 8152)) (st' := [.inl q260.1, .inl q255.1]) (jat ok_L_law_7 54 (pc := 804) (i := .invokevirtual 97) (n := 3) rfl rfl) ml_RL_97 yv_X6_allies c262 (c_X6_allies l g 27 h261) (jRo_law (by decide) (by decide)) (Nat.le_of_ble_eq_true rfl) ⟨Nat.le_of_ble_eq_true rfl, Nat.le_of_ble_eq_true rfl⟩ rfl rfl rfl ?_
  refine J_eq (jat ok_L_law_7 55 (pc := 807) (i := .if_icmp .eq 481) (n := 3) rfl rfl) (tgt := 1288) (by decide) (fun c => ?_) (fun c => ?_)
  · have h := (if_pos c).symm.trans h
    refine J_seg ok_L_law_14 8 2 (pc' := 18) (ls' := [(3, .inl (x3 + 6)), (0, .inr (.inr (.inr false))), (1, .inr (.inr (.inl k1))), (2, .inr (.inr (.inl k2)))]) (st' := []) rfl ?_
    exact J_sub (ls' := [(0, .inr (.inr (.inr false))), (1, .inr (.inr (.inl k1))), (2, .inr (.inr (.inl k2))), (3, .inl (x3 + 6))]) [1, 2, 3, 0] rfl (hN (x3 + 6, q260.2) (Option.some.inj h).symm)
  · have h := (if_neg c).symm.trans h
    refine J_seg ok_L_law_7 56 1 (pc' := 811) (ls' := [(0, .inr (.inr (.inr false))), (1, .inr (.inr (.inl k1))), (2, .inr (.inr (.inl k2))), (3, .inl x3)]) (st' := [.inl 0]) rfl ?_
    exact hR _ (Option.some.inj h).symm _ _ (jat ok_L_law_7 57 (pc := 811) (i := .ireturn) (n := 1) rfl rfl)
def f_L_law_b18_j812 (g : GX) (k1 : Option Nat) (k2 : Option Nat) (x3 : Int32) (ah : AH) : Option ((Int32 × AH) ⊕ (((Unit) × AH) ⊕ ((Int32) × AH))) :=
  if qO ah k1 5 = true then ((f_X5_safe k1 ah).bind fun q263 => if qO q263.2 k2 6 = true then ((f_X6_safe k2 q263.2).bind fun q266 => if q263.1 = q266.1 then (some (.inr (.inr (x3 + 6, q266.2)))) else (some (.inl (0, q266.2)))) else none) else none
set_option maxRecDepth 100000 in
set_option maxHeartbeats 4000000 in
theorem k_L_law_b18_j812 {l : Launch} {g : GX} {nm : String} (d : Nat) {Q : jQ} {k1 : Option Nat} {k2 : Option Nat} {x3 : Int32} (ah : AH) (out : (Int32 × AH) ⊕ (((Unit) × AH) ⊕ ((Int32) × AH))) (h : f_L_law_b18_j812 g k1 k2 x3 ah = some out) (hR : ∀ q, out = .inl q → jRetI l g (md_L_law nm) room_1 Q (77, 8152) q.1 q.2) (hX : ∀ q, out = .inr (.inl q) → J l g (md_L_law nm) room_1 Q 1294 [] [] q.2 (77, 8152)) (hN : ∀ q, out = .inr (.inr q) → J l g (md_L_law nm) room_1 Q 18 [(0, .inr (.inr (.inr false))), (1, .inr (.inr (.inl k1))), (2, .inr (.inr (.inl k2))), (3, .inl q.1)] [] q.2 (77, 8152)) : J l g (md_L_law nm) room_1 Q 812 [(0, .inr (.inr (.inr false))), (1, .inr (.inr (.inl k1))), (2, .inr (.inr (.inl k2))), (3, .inl x3)] [] ah (77, 8152) := by
  unfold f_L_law_b18_j812 at h
  refine J_seg ok_L_law_8 0 1 (pc' := 813) (ls' := [(0, .inr (.inr (.inr false))), (1, .inr (.inr (.inl k1))), (2, .inr (.inr (.inl k2))), (3, .inl x3)]) (st' := [.inr (.inr (.inl k1))]) rfl ?_
  by_cases c265 : qO ah k1 5 = true
  case neg => exact absurd ((if_neg c265).symm.trans h) (by simp)
  have h := (if_pos c265).symm.trans h
  obtain ⟨q263, h264, h⟩ := Option.bind_eq_some_iff.mp h
  refine J_callV (md' := md_X5_safe) (As := []) (st := []) (cs' := (77, 8152)) (st' := [.inl q263.1]) (jat ok_L_law_8 1 (pc := 813) (i := .invokevirtual 98) (n := 3) rfl rfl) ml_RL_98 yv_X5_safe c265 (c_X5_safe l g 23 h264) (jRo_law (by decide) (by decide)) (Nat.le_of_ble_eq_true rfl) ⟨Nat.le_of_ble_eq_true rfl, Nat.le_of_ble_eq_true rfl⟩ rfl rfl rfl ?_
  refine J_seg ok_L_law_8 2 1 (pc' := 817) (ls' := [(0, .inr (.inr (.inr false))), (1, .inr (.inr (.inl k1))), (2, .inr (.inr (.inl k2))), (3, .inl x3)]) (st' := [.inr (.inr (.inl k2)), .inl q263.1]) rfl ?_
  by_cases c268 : qO q263.2 k2 6 = true
  case neg => exact absurd ((if_neg c268).symm.trans h) (by simp)
  have h := (if_pos c268).symm.trans h
  obtain ⟨q266, h267, h⟩ := Option.bind_eq_some_iff.mp h
  refine J_callV (md' := md_X6_safe) (As := []) (st := [.inl q263.1]) (cs' := (77, 8152)) (st' := [.inl q266.1, .inl q263.1]) (jat ok_L_law_8 3 (pc := 817) (i := .invokevirtual 101) (n := 3) rfl rfl) ml_RL_101 yv_X6_safe c268 (c_X6_safe l g 26 h267) (jRo_law (by decide) (by decide)) (Nat.le_of_ble_eq_true rfl) ⟨Nat.le_of_ble_eq_true rfl, Nat.le_of_ble_eq_true rfl⟩ rfl rfl rfl ?_
  refine J_eq (jat ok_L_law_8 4 (pc := 820) (i := .if_icmp .eq 468) (n := 3) rfl rfl) (tgt := 1288) (by decide) (fun c => ?_) (fun c => ?_)
  · have h := (if_pos c).symm.trans h
    refine J_seg ok_L_law_14 8 2 (pc' := 18) (ls' := [(3, .inl (x3 + 6)), (0, .inr (.inr (.inr false))), (1, .inr (.inr (.inl k1))), (2, .inr (.inr (.inl k2)))]) (st' := []) rfl ?_
    exact J_sub (ls' := [(0, .inr (.inr (.inr false))), (1, .inr (.inr (.inl k1))), (2, .inr (.inr (.inl k2))), (3, .inl (x3 + 6))]) [1, 2, 3, 0] rfl (hN (x3 + 6, q266.2) (Option.some.inj h).symm)
  · have h := (if_neg c).symm.trans h
    refine J_seg ok_L_law_8 5 1 (pc' := 824) (ls' := [(0, .inr (.inr (.inr false))), (1, .inr (.inr (.inl k1))), (2, .inr (.inr (.inl k2))), (3, .inl x3)]) (st' := [.inl 0]) rfl ?_
    exact hR _ (Option.some.inj h).symm _ _ (jat ok_L_law_8 6 (pc := 824) (i := .ireturn) (n := 1) rfl rfl)

