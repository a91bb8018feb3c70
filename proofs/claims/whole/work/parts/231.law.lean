def f_L_law_b18_j825 (g : GX) (k1 : Option Nat) (k2 : Option Nat) (x3 : Int32) (ah : AH) : Option ((Int32 × AH) ⊕ (((Unit) × AH) ⊕ ((Int32) × AH))) :=
  (gS g (x3 + 1)).bind fun v269 => (gS g (x3 + 2)).bind fun v271 => if qO ah k1 5 = true then ((f_X5_weeks k1 v269 v271 ah).bind fun q273 => (gS g (x3 + 1)).bind fun v276 => (gS g (x3 + 2)).bind fun v278 => if qO q273.2 k2 6 = true then ((f_X6_weeks k2 v276 v278 q273.2).bind fun q280 => if q273.1 = q280.1 then (some (.inr (.inr (x3 + 6, q280.2)))) else (some (.inl (0, q280.2)))) else none) else none
set_option maxRecDepth 100000 in
set_option maxHeartbeats 4000000 in
theorem k_L_law_b18_j825 {l : Launch} {g : GX} {nm : String} (d : Nat) {Q : jQ} {k1 : Option Nat} {k2 : Option Nat} {x3 : Int32} (ah : AH) (out : (Int32 × AH) ⊕ (((Unit) × AH) ⊕ ((Int32) × AH))) (h : f_L_law_b18_j825 g k1 k2 x3 ah = some out) (hR : ∀ q, out = .inl q → jRetI l g (md_L_law nm) room_1 Q (77, 8152) q.1 q.2) (hX : ∀ q, out = .inr (.inl q) → J l g (md_L_law nm) room_1 Q 1294 [] [] q.2 (77, 8152)) (hN : ∀ q, out = .inr (.inr q) → J l g (md_L_law nm) room_1 Q 18 [(0, .inr (.inr (.inr false))), (1, .inr (.inr (.inl k1))), (2, .inr (.inr (.inl k2))), (3, .inl q.1)] [] q.2 (77, 8152)) : J l g (md_L_law nm) room_1 Q 825 [(0, .inr (.inr (.inr false))), (1, .inr (.inr (.inl k1))), (2, .inr (.inr (.inl k2))), (3, .inl x3)] [] ah (77, 8152) := by
  unfold f_L_law_b18_j825 at h
  refine J_seg ok_L_law_8 7 5 (pc' := 830) (ls' := [(0, .inr (.inr (.inr false))), (1, .inr (.inr (.inl k1))), (2, .inr (.inr (.inl k2))), (3, .inl x3)]) (st' := [.inl (x3 + 1), .inr (.inr (.inr false)), .inr (.inr (.inl k1))]) rfl ?_
  obtain ⟨v269, h270, h⟩ := Option.bind_eq_some_iff.mp h
  refine J_sget (jat ok_L_law_8 12 (pc := 830) (i := .iaload) (n := 1) rfl rfl) h270 ?_
  refine J_seg ok_L_law_8 13 4 (pc' := 835) (ls' := [(0, .inr (.inr (.inr false))), (1, .inr (.inr (.inl k1))), (2, .inr (.inr (.inl k2))), (3, .inl x3)]) (st' := [.inl (x3 + 2), .inr (.inr (.inr false)), .inl v269, .inr (.inr (.inl k1))]) rfl ?_
  obtain ⟨v271, h272, h⟩ := Option.bind_eq_some_iff.mp h
  refine J_sget (jat ok_L_law_8 17 (pc := 835) (i := .iaload) (n := 1) rfl rfl) h272 ?_
  by_cases c275 : qO ah k1 5 = true
  case neg => exact absurd ((if_neg c275).symm.trans h) (by simp)
  have h := (if_pos c275).symm.trans h
  obtain ⟨q273, h274, h⟩ := Option.bind_eq_some_iff.mp h
  refine J_callV (md' := md_X5_weeks) (As := [.inl v269, .inl v271]) (st := []) (cs' := (77, 8152)) (st' := [.inl q273.1]) (jat ok_L_law_8 18 (pc := 836) (i := .invokevirtual 102) (n := 3) rfl rfl) ml_RL_102 yv_X5_weeks c275 (c_X5_weeks l g 22 h274) (jRo_law (by decide) (by decide)) (Nat.le_of_ble_eq_true rfl) ⟨Nat.le_of_ble_eq_true rfl, Nat.le_of_ble_eq_true rfl⟩ rfl rfl rfl ?_
  refine J_seg ok_L_law_8 19 5 (pc' := 844) (ls' := [(0, .inr (.inr (.inr false))), (1, .inr (.inr (.inl k1))), (2, .inr (.inr (.inl k2))), (3, .inl x3)]) (st' := [.inl (x3 + 1), .inr (.inr (.inr false)), .inr (.inr (.inl k2)), .inl q273.1]) rfl ?_
  obtain ⟨v276, h277, h⟩ := Option.bind_eq_some_iff.mp h
  refine J_sget (jat ok_L_law_8 24 (pc := 844) (i := .iaload) (n := 1) rfl rfl) h277 ?_
  refine J_seg ok_L_law_8 25 4 (pc' := 849) (ls' := [(0, .inr (.inr (.inr false))), (1, .inr (.inr (.inl k1))), (2, .inr (.inr (.inl k2))), (3, .inl x3)]) (st' := [.inl (x3 + 2), .inr (.inr (.inr false)), .inl v276, .inr (.inr (.inl k2)), .inl q273.1]) rfl ?_
  obtain ⟨v278, h279, h⟩ := Option.bind_eq_some_iff.mp h
  refine J_sget (jat ok_L_law_8 29 (pc := 849) (i := .iaload) (n := 1) rfl rfl) h279 ?_
  by_cases c282 : qO q273.2 k2 6 = true
  case neg => exact absurd ((if_neg c282).symm.trans h) (by simp)
  have h := (if_pos c282).symm.trans h
  obtain ⟨q280, h281, h⟩ := Option.bind_eq_some_iff.mp h
  refine J_callV (md' := md_X6_weeks) (As := [.inl v276, .inl v278]) (st := [.inl q273.1]) (cs' := (77, 8152)) (st' := [.inl q280.1, .inl q273.1]) (jat ok_L_law_8 30 (pc := 850) (i := .invokevirtual 105) (n := 3) rfl rfl) ml_RL_105 yv_X6_weeks c282 (c_X6_weeks l g 25 h281) (jRo_law (by decide) (by decide)) (Nat.le_of_ble_eq_true rfl) ⟨Nat.le_of_ble_eq_true rfl, Nat.le_of_ble_eq_true rfl⟩ rfl rfl rfl ?_
  refine J_eq (jat ok_L_law_8 31 (pc := 853) (i := .if_icmp .eq 435) (n := 3) rfl rfl) (tgt := 1288) (by decide) (fun c => ?_) (fun c => ?_)
  · have h := (if_pos c).symm.trans h
    refine J_seg ok_L_law_14 8 2 (pc' := 18) (ls' := [(3, .inl (x3 + 6)), (0, .inr (.inr (.inr false))), (1, .inr (.inr (.inl k1))), (2, .inr (.inr (.inl k2)))]) (st' := []) rfl ?_
    exact J_sub (ls' := [(0, .inr (.inr (.inr false))), (1, .inr (.inr (.inl k1))), (2, .inr (.inr (.inl k2))), (3, .inl (x3 + 6))]) [1, 2, 3, 0] rfl (hN (x3 + 6, q280.2) (Option.some.inj h).symm)
  · have h := (if_neg c).symm.trans h
    refine J_seg ok_L_law_8 32 1 (pc' := 857) (ls' := [(0, .inr (.inr (.inr false))), (1, .inr (.inr (.inl k1))), (2, .inr (.inr (.inl k2))), (3, .inl x3)]) (st' := [.inl 0]) rfl ?_
    exact hR _ (Option.some.inj h).symm _ _ (jat ok_L_law_8 33 (pc := 857) (i := .ireturn) (n := 1) rfl rfl)
def f_L_law_b18_j858 (g : GX) (k1 : Option Nat) (k2 : Option Nat) (x3 : Int32) (ah : AH) : Option ((Int32 × AH) ⊕ (((Unit) × AH) ⊕ ((Int32) × AH))) :=
  (gS g (x3 + 1)).bind fun v283 => (gS g (x3 + 2)).bind fun v285 => if qO ah k1 5 = true then ((f_X5_thwart k1 v283 v285 ah).bind fun q287 => (gS g (x3 + 1)).bind fun v290 => (gS g (x3 + 2)).bind fun v292 => if qO q287.2 k2 6 = true then ((f_X6_thwart k2 v290 v292 q287.2).bind fun q294 => if q287.1 = q294.1 then (some (.inr (.inr (x3 + 6, q294.2)))) else (some (.inl (0, q294.2)))) else none) else none
set_option maxRecDepth 100000 in
set_option maxHeartbeats 4000000 in
theorem k_L_law_b18_j858 {l : Launch} {g : GX} {nm : String} (d : Nat) {Q : jQ} {k1 : Option Nat} {k2 : Option Nat} {x3 : Int32} (ah : AH) (out : (Int32 × AH) ⊕ (((Unit) × AH) ⊕ ((Int32) × AH))) (h : f_L_law_b18_j858 g k1 k2 x3 ah = some out) (hR : ∀ q, out = .inl q → jRetI l g (md_L_law nm) room_1 Q (77, 8152) q.1 q.2) (hX : ∀ q, out = .inr (.inl q) → J l g (md_L_law nm) room_1 Q 1294 [] [] q.2 (77, 8152)) (hN : ∀ q, out = .inr (.inr q) → J l g (md_L_law nm) room_1 Q 18 [(0, .inr (.inr (.inr false))), (1, .inr (.inr (.inl k1))), (2, .inr (.inr (.inl k2))), (3, .inl q.1)] [] q.2 (77, 8152)) : J l g (md_L_law nm) room_1 Q 858 [(0, .inr (.inr (.inr false))), (1, .inr (.inr (.inl k1))), (2, .inr (.inr (.inl k2))), (3, .inl x3)] [] ah (77, 8152) := by
  unfold f_L_law_b18_j858 at h
  refine J_seg ok_L_law_8 34 5 (pc' := 863) (ls' := [(0, .inr (.inr (.inr false))), (1, .inr (.inr (.inl k1))), (2, .inr (.inr (.inl k2))), (3, .inl x3)]) (st' := [.inl (x3 + 1), .inr (.inr (.inr false)), .inr (.inr (.inl k1))]) rfl ?_
  obtain ⟨v283, h284, h⟩ := Option.bind_eq_some_iff.mp h
  refine J_sget (jat ok_L_law_8 39 (pc := 863) (i := .iaload) (n := 1) rfl rfl) h284 ?_
  refine J_seg ok_L_law_8 40 4 (pc' := 868) (ls' := [(0, .inr (.inr (.inr false))), (1, .inr (.inr (.inl k1))), (2, .inr (.inr (.inl k2))), (3, .inl x3)]) (st' := [.inl (x3 + 2), .inr (.inr (.inr false)), .inl v283, .inr (.inr (.inl k1))]) rfl ?_
  obtain ⟨v285, h286, h⟩ := Option.bind_eq_some_iff.mp h
  refine J_sget (jat ok_L_law_8 44 (pc := 868) (i := .iaload) (n := 1) rfl rfl) h286 ?_
  by_cases c289 : qO ah k1 5 = true
  case neg => exact absurd ((if_neg c289).symm.trans h) (by simp)
  have h := (if_pos c289).symm.trans h
  obtain ⟨q287, h288, h⟩ := Option.bind_eq_some_iff.mp h
  refine J_callV (md' := md_X5_thwart) (As := [.inl v283, .inl v285]) (st := []) (cs' := (77, 8152)) (st' := [.inl q287.1]) (jat ok_L_law_8 45 (pc := 869) (i := .invokevirtual 106) (n := 3) rfl rfl) ml_RL_106 yv_X5_thwart c289 (c_X5_thwart l g 22 h288) (jRo_law (by decide) (by decide)) (Nat.le_of_ble_eq_true rfl) ⟨Nat.le_of_ble_eq_true rfl, Nat.le_of_ble_eq_true rfl⟩ rfl rfl rfl ?_
  refine J_seg ok_L_law_8 46 5 (pc' := 877) (ls' := [(0, .inr (.inr (.inr false))), (1, .inr (.inr (.inl k1))), (2, .inr (.inr (.inl k2))), (3, .inl x3)]) (st' := [.inl (x3 + 1), .inr (.inr (.inr false)), .inr (.inr (.inl k2)), .inl q287.1]) rfl ?_
  obtain ⟨v290, h291, h⟩ := Option.bind_eq_some_iff.mp h
  refine J_sget (jat ok_L_law_8 51 (pc := 877) (i := .iaload) (n := 1) rfl rfl) h291 ?_
  refine J_seg ok_L_law_8 52 4 (pc' := 882) (ls' := [(0, .inr (.inr (.inr false))), (1, .inr (.inr (.inl k1))), (2, .inr (.inr (.inl k2))), (3, .inl x3)]) (st' := [.inl (x3 + 2), .inr (.inr (.inr false)), .inl v290, .inr (.inr (.inl k2)), .inl q287.1]) rfl ?_
  obtain ⟨v292, h293, h⟩ := Option.bind_eq_some_iff.mp h
  refine J_sget (jat ok_L_law_8 56 (pc := 882) (i := .iaload) (n := 1) rfl rfl) h293 ?_
  by_cases c296 : qO q287.2 k2 6 = true
  case neg => exact absurd ((if_neg c296).symm.trans h) (by simp)
  have h := (if_pos c296).symm.trans h
  obtain ⟨q294, h295, h⟩ := Option.bind_eq_some_iff.mp h
  refine J_callV (md' := md_X6_thwart) (As := [.inl v290, .inl v292]) (st := [.inl q287.1]) (cs' := (77, 8152)) (st' := [.inl q294.1, .inl q287.1]) (jat ok_L_law_8 57 (pc := 883) (i := .invokevirtual 109) (n := 3) rfl rfl) ml_RL_109 yv_X6_thwart c296 (c_X6_thwart l g 25 h295) (jRo_law (by decide) (by decide)) (Nat.le_of_ble_eq_true rfl) ⟨Nat.le_of_ble_eq_true rfl, Nat.le_of_ble_eq_true rfl⟩ rfl rfl rfl ?_
  refine J_eq (jat ok_L_law_8 58 (pc := 886) (i := .if_icmp .eq 402) (n := 3) rfl rfl) (tgt := 1288) (by decide) (fun c => ?_) (fun c => ?_)
  · have h := (if_pos c).symm.trans h
    refine J_seg ok_L_law_14 8 2 (pc' := 18) (ls' := [(3, .inl (x3 + 6)), (0, .inr (.inr (.inr false))), (1, .inr (.inr (.inl k1))), (2, .inr (.inr (.inl k2)))]) (st' := []) rfl ?_
    exact J_sub (ls' := [(0, .inr (.inr (.inr false))), (1, .inr (.inr (.inl k1))), (2, .inr (.inr (.inl k2))), (3, .inl (x3 + 6))]) [1, 2, 3, 0] rfl (hN (x3 + 6, q294.2) (Option.some.inj h).symm)
  · have h := (if_neg c).symm.trans h
    refine J_seg ok_L_law_8 59 1 (pc' := 890) (ls' := [(0, .inr (.inr (.inr false))), (1, .inr (.inr (.inl k1))), (2, .inr (.inr (.inl k2))), (3, .inl x3)]) (st' := [.inl 0]) rfl ?_
    exact hR _ (Option.some.inj h).symm _ _ (jat ok_L_law_8 60 (pc := 890) (i := .ireturn) (n := 1) rfl rfl)
def f_L_law_b18_j891 (g : GX) (k1 : Option Nat) (k2 : Option Nat) (x3 : Int32) (ah : AH) : Option ((Int32 × AH) ⊕ (((Unit) × AH) ⊕ ((Int32) × AH))) :=
  (gS g (x3 + 1)).bind fun v297 => (gS g (x3 + 2)).bind fun v299 => if qO ah k1 5 = true then ((f_X5_ways k1 v297 v299 ah).bind fun q301 => (gS g (x3 + 1)).bind fun v304 => (gS g (x3 + 2)).bind fun v306 => if qO q301.2 k2 6 = true then ((f_X6_ways k2 v304 v306 q301.2).bind fun q308 => if q301.1 = q308.1 then (some (.inr (.inr (x3 + 6, q308.2)))) else (some (.inl (0, q308.2)))) else none) else none
set_option maxRecDepth 100000 in
set_option maxHeartbeats 4000000 in
theorem k_L_law_b18_j891 {l : Launch} {g : GX} {nm : String} (d : Nat) {Q : jQ} {k1 : Option Nat} {k2 : Option Nat} {x3 : Int32} (ah : AH) (out : (Int32 × AH) ⊕ (((Unit) × AH) ⊕ ((Int32) × AH))) (h : f_L_law_b18_j891 g k1 k2 x3 ah = some out) (hR : ∀ q, out = .inl q → jRetI l g (md_L_law nm) room_1 Q (77, 8152) q.1 q.2) (hX : ∀ q, out = .inr (.inl q) → J l g (md_L_law nm) room_1 Q 1294 [] [] q.2 (77, 8152)) (hN : ∀ q, out = .inr (.inr q) → J l g (md_L_law nm) room_1 Q 18 [(0, .inr (.inr (.inr false))), (1, .inr (.inr (.inl k1))), (2, .inr (.inr (.inl k2))), (3, .inl q.1)] [] q.2 (77, 8152)) : J l g (md_L_law nm) room_1 Q 891 [(0, .inr (.inr (.inr false))), (1, .inr (.inr (.inl k1))), (2, .inr (.inr (.inl k2))), (3, .inl x3)] [] ah (77, 8152) := by
  unfold f_L_law_b18_j891 at h
  refine J_seg ok_L_law_9 0 5 (pc' := 896) (ls' := [(0, .inr (.inr (.inr false))), (1, .inr (.inr (.inl k1))), (2, .inr (.inr (.inl k2))), (3, .inl x3)]) (st' := [.inl (x3 + 1), .inr (.inr (.inr false)), .inr (.inr (.inl k1))]) rfl ?_
  obtain ⟨v297, h298, h⟩ := Option.bind_eq_some_iff.mp h
  refine J_sget (jat ok_L_law_9 5 (pc := 896) (i := .iaload) (n := 1) rfl rfl) h298 ?_
  refine J_seg ok_L_law_9 6 4 (pc' := 901) (ls' := [(0, .inr (.inr (.inr false))), (1, .inr (.inr (.inl k1))), (2, .inr (.inr (.inl k2))), (3, .inl x3)]) (st' := [.inl (x3 + 2), .inr (.inr (.inr false)), .inl v297, .inr (.inr (.inl k1))]) rfl ?_
  obtain ⟨v299, h300, h⟩ := Option.bind_eq_some_iff.mp h
  refine J_sget (jat ok_L_law_9 10 (pc := 901) (i := .iaload) (n := 1) rfl rfl) h300 ?_
  by_cases c303 : qO ah k1 5 = true
  case neg => exact absurd ((if_neg c303).symm.trans h) (by simp)
  have h := (if_pos c303).symm.trans h
  obtain ⟨q301, h302, h⟩ := Option.bind_eq_some_iff.mp h
  refine J_callV (md' := md_X5_ways) (As := [.inl v297, .inl v299]) (st := []) (cs' := (77, 8152)) (st' := [.inl q301.1]) (jat ok_L_law_9 11 (pc := 902) (i := .invokevirtual 110) (n := 3) rfl rfl) ml_RL_110 yv_X5_ways c303 (c_X5_ways l g 22 h302) (jRo_law (by decide) (by decide)) (Nat.le_of_ble_eq_true rfl) ⟨Nat.le_of_ble_eq_true rfl, Nat.le_of_ble_eq_true rfl⟩ rfl rfl rfl ?_
  refine J_seg ok_L_law_9 12 5 (pc' := 910) (ls' := [(0, .inr (.inr (.inr false))), (1, .inr (.inr (.inl k1))), (2, .inr (.inr (.inl k2))), (3, .inl x3)]) (st' := [.inl (x3 + 1), .inr (.inr (.inr false)), .inr (.inr (.inl k2)), .inl q301.1]) rfl ?_
  obtain ⟨v304, h305, h⟩ := Option.bind_eq_some_iff.mp h
  refine J_sget (jat ok_L_law_9 17 (pc := 910) (i := .iaload) (n := 1) rfl rfl) h305 ?_
  refine J_seg ok_L_law_9 18 4 (pc' := 915) (ls' := [(0, .inr (.inr (.inr false))), (1, .inr (.inr (.inl k1))), (2, .inr (.inr (.inl k2))), (3, .inl x3)]) (st' := [.inl (x3 + 2), .inr (.inr (.inr false)), .inl v304, .inr (.inr (.inl k2)), .inl q301.1]) rfl ?_
  obtain ⟨v306, h307, h⟩ := Option.bind_eq_some_iff.mp h
  refine J_sget (jat ok_L_law_9 22 (pc := 915) (i := .iaload) (n := 1) rfl rfl) h307 ?_
  by_cases c310 : qO q301.2 k2 6 = true
  case neg => exact absurd ((if_neg c310).symm.trans h) (by simp)
  have h := (if_pos c310).symm.trans h
  obtain ⟨q308, h309, h⟩ := Option.bind_eq_some_iff.mp h
  refine J_callV (md' := md_X6_ways) (As := [.inl v304, .inl v306]) (st := [.inl q301.1]) (cs' := (77, 8152)) (st' := [.inl q308.1, .inl q301.1]) (jat ok_L_law_9 23 (pc := 916) (i := .invokevirtual 113) (n := 3) rfl rfl) ml_RL_113 yv_X6_ways c310 (c_X6_ways l g 25 h309) (jRo_law (by decide) (by decide)) (Nat.le_of_ble_eq_true rfl) ⟨Nat.le_of_ble_eq_true rfl, Nat.le_of_ble_eq_true rfl⟩ rfl rfl rfl ?_
  refine J_eq (jat ok_L_law_9 24 (pc := 919) (i := .if_icmp .eq 369) (n := 3) rfl rfl) (tgt := 1288) (by decide) (fun c => ?_) (fun c => ?_)
  · have h := (if_pos c).symm.trans h
    refine J_seg ok_L_law_14 8 2 (pc' := 18) (ls' := [(3, .inl (x3 + 6)), (0, .inr (.inr (.inr false))), (1, .inr (.inr (.inl k1))), (2, .inr (.inr (.inl k2)))]) (st' := []) rfl ?_
    exact J_sub (ls' := [(0, .inr (.inr (.inr false))), (1, .inr (.inr (.inl k1))), (2, .inr (.inr (.inl k2))), (3, .inl (x3 + 6))]) [1, 2, 3, 0] rfl (hN (x3 + 6, q308.2) (Option.some.inj h).symm)
  · have h := (if_neg c).symm.trans h
    refine J_seg ok_L_law_9 25 1 (pc' := 923) (ls' := [(0, .inr (.inr (.inr false))), (1, .inr (.inr (.inl k1))), (2, .inr (.inr (.inl k2))), (3, .inl x3)]) (st' := [.inl 0]) rfl ?_
    exact hR _ (Option.some.inj h).symm _ _ (jat ok_L_law_9 26 (pc := 923) (i := .ireturn) (n := 1) rfl rfl)
def f_L_law_b18_j924 (g : GX) (k1 : Option Nat) (k2 : Option Nat) (x3 : Int32) (ah : AH) : Option ((Int32 × AH) ⊕ (((Unit) × AH) ⊕ ((Int32) × AH))) :=
  if qO ah k1 5 = true then ((f_X5_wishes k1 ah).bind fun q311 => if qO q311.2 k2 6 = true then ((f_X6_wishes k2 q311.2).bind fun q314 => if q311.1 = q314.1 then (some (.inr (.inr (x3 + 6, q314.2)))) else (some (.inl (0, q314.2)))) else none) else none
set_option maxRecDepth 100000 in
set_option maxHeartbeats 4000000 in
theorem k_L_law_b18_j924 {l : Launch} {g : GX} {nm : String} (d : Nat) {Q : jQ} {k1 : Option Nat} {k2 : Option Nat} {x3 : Int32} (ah : AH) (out : (Int32 × AH) ⊕ (((Unit) × AH) ⊕ ((Int32) × AH))) (h : f_L_law_b18_j924 g k1 k2 x3 ah = some out) (hR : ∀ q, out = .inl q → jRetI l g (md_L_law nm) room_1 Q (77, 8152) q.1 q.2) (hX : ∀ q, out = .inr (.inl q) → J l g (md_L_law nm) room_1 Q 1294 [] [] q.2 (77, 8152)) (hN : ∀ q, out = .inr (.inr q) → J l g (md_L_law nm) room_1 Q 18 [(0, .inr (.inr (.inr false))), (1, .inr (.inr (.inl k1))), (2, .inr (.inr (.inl k2))), (3, .inl q.1)] [] q.2 (77, 8152)) : J l g (md_L_law nm) room_1 Q 924 [(0, .inr (.inr (.inr false))), (1, .inr (.inr (.inl k1))), (2, .inr (.inr (.inl k2))), (3, .inl x3)] [] ah (77, 8152) := by
  unfold f_L_law_b18_j924 at h
  refine J_seg ok_L_law_9 27 1 (pc' := 925) (ls' := [(0, .inr (.inr (.inr false))), (1, .inr (.inr (.inl k1))), (2, .inr (.inr (.inl k2))), (3, .inl x3)]) (st' := [.inr (.inr (.inl k1))]) rfl ?_
  by_cases c313 : qO ah k1 5 = true
  case neg => exact absurd ((if_neg c313).symm.trans h) (by simp)
  have h := (if_pos c313).symm.trans h
  obtain ⟨q311, h312, h⟩ := Option.bind_eq_some_iff.mp h
  refine J_callV (md' := md_X5_wishes) (As := []) (st := []) (cs' := (77, 8152)) (st' := [.inl q311.1]) (jat ok_L_law_9 28 (pc := 925) (i := .invokevirtual 114) (n := 3) rfl rfl) ml_RL_114 yv_X5_wishes c313 (c_X5_wishes l g 23 h312) (jRo_law (by decide) (by decide)) (Nat.le_of_ble_eq_true rfl) ⟨Nat.le_of_ble_eq_true rfl, Nat.le_of_ble_eq_true rfl⟩ rfl rfl rfl ?_
  refine J_seg ok_L_law_9 29 1 (pc' := 929) (ls' := [(0, .inr (.inr (.inr false))), (1, .inr (.inr (.inl k1))), (2, .inr (.inr (.inl k2))), (3, .inl x3)]) (st' := [.inr (.inr (.inl k2)), .inl q311.1]) rfl ?_
  by_cases c316 : qO q311.2 k2 6 = true
  case neg => exact absurd ((if_neg c316).symm.trans h) (by simp)
  have h := (if_pos c316).symm.trans h
  obtain ⟨q314, h315, h⟩ := Option.bind_eq_some_iff.mp h
  refine J_callV (md' := md_X6_wishes) (As := []) (st := [.inl q311.1]) (cs' := (77, 8152)) (st' := [.inl q314.1, .inl q311.1]) (jat ok_L_law_9 30 (pc := 929) (i := .invokevirtual 117) (n := 3) rfl rfl) ml_RL_117 yv_X6_wishes c316 (c_X6_wishes l g 26 h315) (jRo_law (by decide) (by decide)) (Nat.le_of_ble_eq_true rfl) ⟨Nat.le_of_ble_eq_true rfl, Nat.le_of_ble_eq_true rfl⟩ rfl rfl rfl ?_
  refine J_eq (jat ok_L_law_9 31 (pc := 932) (i := .if_icmp .eq 356) (n := 3) rfl rfl) (tgt := 1288) (by decide) (fun c => ?_) (fun c => ?_)
  · have h := (if_pos c).symm.trans h
    refine J_seg ok_L_law_14 8 2 (pc' := 18) (ls' := [(3, .inl (x3 + 6)), (0, .inr (.inr (.inr false))), (1, .inr (.inr (.inl k1))), (2, .inr (.inr (.inl k2)))]) (st' := []) rfl ?_
    exact J_sub (ls' := [(0, .inr (.inr (.inr false))), (1, .inr (.inr (.inl k1))), (2, .inr (.inr (.inl k2))), (3, .inl (x3 + 6))]) [1, 2, 3, 0] rfl (hN (x3 + 6, q314.2) (Option.some.inj h).symm)
  · have h := (if_neg c).symm.trans h
    refine J_seg ok_L_law_9 32 1 (pc' := 936) (ls' := [(0, .inr (.inr (.inr false))), (1, .inr (.inr (.inl k1))), (2, .inr (.inr (.inl k2))), (3, .inl x3)]) (st' := [.inl 0]) rfl ?_
    exact hR _ (Option.some.inj h).symm _ _ (jat ok_L_law_9 33 (pc := 936) (i := .ireturn) (n := 1) rfl rfl)
def f_L_law_b18_j937 (g : GX) (k1 : Option Nat) (k2 : Option Nat) (x3 : Int32) (ah : AH) : Option ((Int32 × AH) ⊕ (((Unit) × AH) ⊕ ((Int32) × AH))) :=
  (gS g (x3 + 1)).bind fun v317 => if qO ah k1 5 = true then ((f_X5_mildest k1 v317 ah).bind fun q319 => (gS g (x3 + 1)).bind fun v322 => if qO q319.2 k2 6 = true then ((f_X6_mildest k2 v322 q319.2).bind fun q324 => if q319.1 = q324.1 then (some (.inr (.inr (x3 + 6, q324.2)))) else (some (.inl (0, q324.2)))) else none) else none
set_option maxRecDepth 100000 in
set_option maxHeartbeats 4000000 in
theorem k_L_law_b18_j937 {l : Launch} {g : GX} {nm : String} (d : Nat) {Q : jQ} {k1 : Option Nat} {k2 : Option Nat} {x3 : Int32} (ah : AH) (out : (Int32 × AH) ⊕ (((Unit) × AH) ⊕ ((Int32) × AH))) (h : f_L_law_b18_j937 g k1 k2 x3 ah = some out) (hR : ∀ q, out = .inl q → jRetI l g (md_L_law nm) room_1 Q (77, 8152) q.1 q.2) (hX : ∀ q, out = .inr (.inl q) → J l g (md_L_law nm) room_1 Q 1294 [] [] q.2 (77, 8152)) (hN : ∀ q, out = .inr (.inr q) → J l g (md_L_law nm) room_1 Q 18 [(0, .inr (.inr (.inr false))), (1, .inr (.inr (.inl k1))), (2, .inr (.inr (.inl k2))), (3, .inl q.1)] [] q.2 (77, 8152)) : J l g (md_L_law nm) room_1 Q 937 [(0, .inr (.inr (.inr false))), (1, .inr (.inr (.inl k1))), (2, .inr (.inr (.inl k2))), (3, .inl x3)] [] ah (77, 8152) := by
  unfold f_L_law_b18_j937 at h
  refine J_seg ok_L_law_9 34 5 (pc' := 942) (ls' := [(0, .inr (.inr (.inr false))), (1, .inr (.inr (.inl k1))), (2, .inr (.inr (.inl k2))), (3, .inl x3)]) (st' := [.inl (x3 + 1), .inr (.inr (.inr false)), .inr (.inr (.inl k1))]) rfl ?_
  obtain ⟨v317, h318, h⟩ := Option.bind_eq_some_iff.mp h
  refine J_sget (jat ok_L_law_9 39 (pc := 942) (i := .iaload) (n := 1) rfl rfl) h318 ?_
  by_cases c321 : qO ah k1 5 = true
  case neg => exact absurd ((if_neg c321).symm.trans h) (by simp)
  have h := (if_pos c321).symm.trans h
  obtain ⟨q319, h320, h⟩ := Option.bind_eq_some_iff.mp h
  refine J_callV (md' := md_X5_mildest) (As := [.inl v317]) (st := []) (cs' := (77, 8152)) (st' := [.inl q319.1]) (jat ok_L_law_9 40 (pc := 943) (i := .invokevirtual 118) (n := 3) rfl rfl) ml_RL_118 yv_X5_mildest c321 (c_X5_mildest l g 18 h320) (jRo_law (by decide) (by decide)) (Nat.le_of_ble_eq_true rfl) ⟨Nat.le_of_ble_eq_true rfl, Nat.le_of_ble_eq_true rfl⟩ rfl rfl rfl ?_
  refine J_seg ok_L_law_9 41 5 (pc' := 951) (ls' := [(0, .inr (.inr (.inr false))), (1, .inr (.inr (.inl k1))), (2, .inr (.inr (.inl k2))), (3, .inl x3)]) (st' := [.inl (x3 + 1), .inr (.inr (.inr false)), .inr (.inr (.inl k2)), .inl q319.1]) rfl ?_
  obtain ⟨v322, h323, h⟩ := Option.bind_eq_some_iff.mp h
  refine J_sget (jat ok_L_law_9 46 (pc := 951) (i := .iaload) (n := 1) rfl rfl) h323 ?_
  by_cases c326 : qO q319.2 k2 6 = true
  case neg => exact absurd ((if_neg c326).symm.trans h) (by simp)
  have h := (if_pos c326).symm.trans h
  obtain ⟨q324, h325, h⟩ := Option.bind_eq_some_iff.mp h
  refine J_callV (md' := md_X6_mildest) (As := [.inl v322]) (st := [.inl q319.1]) (cs' := (77, 8152)) (st' := [.inl q324.1, .inl q319.1]) (jat ok_L_law_9 47 (pc := 952) (i := .invokevirtual 121) (n := 3) rfl rfl) ml_RL_121 yv_X6_mildest c326 (c_X6_mildest l g 26 h325) (jRo_law (by decide) (by decide)) (Nat.le_of_ble_eq_true rfl) ⟨Nat.le_of_ble_eq_true rfl, Nat.le_of_ble_eq_true rfl⟩ rfl rfl rfl ?_
  refine J_eq (jat ok_L_law_9 48 (pc := 955) (i := .if_icmp .eq 333) (n := 3) rfl rfl) (tgt := 1288) (by decide) (fun c => ?_) (fun c => ?_)
  · have h := (if_pos c).symm.trans h
    refine J_seg ok_L_law_14 8 2 (pc' := 18) (ls' := [(3, .inl (x3 + 6)), (0, .inr (.inr (.inr false))), (1, .inr (.inr (.inl k1))), (2, .inr (.inr (.inl k2)))]) (st' := []) rfl ?_
    exact J_sub (ls' := [(0, .inr (.inr (.inr false))), (1, .inr (.inr (.inl k1))), (2, .inr (.inr (.inl k2))), (3, .inl (x3 + 6))]) [1, 2, 3, 0] rfl (hN (x3 + 6, q324.2) (Option.some.inj h).symm)
  · have h := (if_neg c).symm.trans h
    refine J_seg ok_L_law_9 49 1 (pc' := 959) (ls' := [(0, .inr (.inr (.inr false))), (1, .inr (.inr (.inl k1))), (2, .inr (.inr (.inl k2))), (3, .inl x3)]) (st' := [.inl 0]) rfl ?_
    exact hR _ (Option.some.inj h).symm _ _ (jat ok_L_law_9 50 (pc := 959) (i := .ireturn) (n := 1) rfl rfl)
def f_L_law_b18_j960 (g : GX) (k1 : Option Nat) (k2 : Option Nat) (x3 : Int32) (ah : AH) : Option ((Int32 × AH) ⊕ (((Unit) × AH) ⊕ ((Int32) × AH))) :=
  (gS g (x3 + 1)).bind fun v327 => if qO ah k1 5 = true then ((f_X5_none k1 v327 ah).bind fun q329 => (gS g (x3 + 1)).bind fun v332 => if qO q329.2 k2 6 = true then ((f_X6_none k2 v332 q329.2).bind fun q334 => if q329.1 = q334.1 then (some (.inr (.inr (x3 + 6, q334.2)))) else (some (.inl (0, q334.2)))) else none) else none
set_option maxRecDepth 100000 in
set_option maxHeartbeats 4000000 in
theorem k_L_law_b18_j960 {l : Launch} {g : GX} {nm : String} (d : Nat) {Q : jQ} {k1 : Option Nat} {k2 : Option Nat} {x3 : Int32} (ah : AH) (out : (Int32 × AH) ⊕ (((Unit) × AH) ⊕ ((Int32) × AH))) (h : f_L_law_b18_j960 g k1 k2 x3 ah = some out) (hR : ∀ q, out = .inl q → jRetI l g (md_L_law nm) room_1 Q (77, 8152) q.1 q.2) (hX : ∀ q, out = .inr (.inl q) → J l g (md_L_law nm) room_1 Q 1294 [] [] q.2 (77, 8152)) (hN : ∀ q, out = .inr (.inr q) → J l g (md_L_law nm) room_1 Q 18 [(0, .inr (.inr (.inr false))), (1, .inr (.inr (.inl k1))), (2, .inr (.inr (.inl k2))), (3, .inl q.1)] [] q.2 (77, 8152)) : J l g (md_L_law nm) room_1 Q 960 [(0, .inr (.inr (.inr false))), (1, .inr (.inr (.inl k1))), (2, .inr (.inr (.inl k2))), (3, .inl x3)] [] ah (77, 8152) := by
  unfold f_L_law_b18_j960 at h
  refine J_seg ok_L_law_10 0 5 (pc' := 965) (ls' := [(0, .inr (.inr (.inr false))), (1, .inr (.inr (.inl k1))), (2, .inr (.inr (.inl k2))), (3, .inl x3)]) (st' := [.inl (x3 + 1), .inr (.inr (.inr false)), .inr (.inr (.inl k1))]) rfl ?_
  obtain ⟨v327, h328, h⟩ := Option.bind_eq_some_iff.mp h
  refine J_sget (jat ok_L_law_10 5 (pc := 965) (i := .iaload) (n := 1) rfl rfl) h328 ?_
  by_cases c331 : qO ah k1 5 = true
  case neg => exact absurd ((if_neg c331).symm.trans h) (by simp)
  have h := (if_pos c331).symm.trans h
  obtain ⟨q329, h330, h⟩ := Option.bind_eq_some_iff.mp h
  refine J_callV (md' := md_X5_none) (As := [.inl v327]) (st := []) (cs' := (77, 8152)) (st' := [.inl q329.1]) (jat ok_L_law_10 6 (pc := 966) (i := .invokevirtual 122) (n := 3) rfl rfl) ml_RL_122 yv_X5_none c331 (c_X5_none l g 23 h330) (jRo_law (by decide) (by decide)) (Nat.le_of_ble_eq_true rfl) ⟨Nat.le_of_ble_eq_true rfl, Nat.le_of_ble_eq_true rfl⟩ rfl rfl rfl ?_
  refine J_seg ok_L_law_10 7 5 (pc' := 974) (ls' := [(0, .inr (.inr (.inr false))), (1, .inr (.inr (.inl k1))), (2, .inr (.inr (.inl k2))), (3, .inl x3)]) (st' := [.inl (x3 + 1), .inr (.inr (.inr false)), .inr (.inr (.inl k2)), .inl q329.1]) rfl ?_
  obtain ⟨v332, h333, h⟩ := Option.bind_eq_some_iff.mp h
  refine J_sget (jat ok_L_law_10 12 (pc := 974) (i := .iaload) (n := 1) rfl rfl) h333 ?_
  by_cases c336 : qO q329.2 k2 6 = true
  case neg => exact absurd ((if_neg c336).symm.trans h) (by simp)
  have h := (if_pos c336).symm.trans h
  obtain ⟨q334, h335, h⟩ := Option.bind_eq_some_iff.mp h
  refine J_callV (md' := md_X6_none) (As := [.inl v332]) (st := [.inl q329.1]) (cs' := (77, 8152)) (st' := [.inl q334.1, .inl q329.1]) (jat ok_L_law_10 13 (pc := 975) (i := .invokevirtual 125) (n := 3) rfl rfl) ml_RL_125 yv_X6_none c336 (c_X6_none l g 26 h335) (jRo_law (by decide) (by decide)) (Nat.le_of_ble_eq_true rfl) ⟨Nat.le_of_ble_eq_true rfl, Nat.le_of_ble_eq_true rfl⟩ rfl rfl rfl ?_
  refine J_eq (jat ok_L_law_10 14 (pc := 978) (i := .if_icmp .eq 310) (n := 3) rfl rfl) (tgt := 1288) (by decide) (fun c => ?_) (fun c => ?_)
  · have h := (if_pos c).symm.trans h
    refine J_seg ok_L_law_14 8 2 (pc' := 18) (ls' := [(3, .inl (x3 + 6)), (0, .inr (.inr (.inr false))), (1, .inr (.inr (.inl k1))), (2, .inr (.inr (.inl k2)))]) (st' := []) rfl ?_
    exact J_sub (ls' := [(0, .inr (.inr (.inr false))), (1, .inr (.inr (.inl k1))), (2, .inr (.inr (.inl k2))), (3, .inl (x3 + 6))]) [1, 2, 3, 0] rfl (hN (x3 + 6, q334.2) (Option.some.inj h).symm)
  · have h := (if_neg c).symm.trans h
    refine J_seg ok_L_law_10 15 1 (pc' := 982) (ls' := [(0, .inr (.inr (.inr false))), (1, .inr (.inr (.inl k1))), (2, .inr (.inr (.inl k2))), (3, .inl x3)]) (st' := [.inl 0]) rfl ?_
    exact hR _ (Option.some.inj h).symm _ _ (jat ok_L_law_10 16 (pc := 982) (i := .ireturn) (n := 1) rfl rfl)
def f_L_law_b18_j983 (g : GX) (k1 : Option Nat) (k2 : Option Nat) (x3 : Int32) (ah : AH) : Option ((Int32 × AH) ⊕ (((Unit) × AH) ⊕ ((Int32) × AH))) :=
  if qO ah k1 5 = true then ((f_X5_maps k1 ah).bind fun q337 => if qO q337.2 k2 6 = true then ((f_X6_maps k2 q337.2).bind fun q340 => if q337.1 = q340.1 then (some (.inr (.inr (x3 + 6, q340.2)))) else (some (.inl (0, q340.2)))) else none) else none
set_option maxRecDepth 100000 in
set_option maxHeartbeats 4000000 in
theorem k_L_law_b18_j983 {l : Launch} {g : GX} {nm : String} (d : Nat) {Q : jQ} {k1 : Option Nat} {k2 : Option Nat} {x3 : Int32} (ah : AH) (out : (Int32 × AH) ⊕ (((Unit) × AH) ⊕ ((Int32) × AH))) (h : f_L_law_b18_j983 g k1 k2 x3 ah = some out) (hR : ∀ q, out = .inl q → jRetI l g (md_L_law nm) room_1 Q (77, 8152) q.1 q.2) (hX : ∀ q, out = .inr (.inl q) → J l g (md_L_law nm) room_1 Q 1294 [] [] q.2 (77, 8152)) (hN : ∀ q, out = .inr (.inr q) → J l g (md_L_law nm) room_1 Q 18 [(0, .inr (.inr (.inr false))), (1, .inr (.inr (.inl k1))), (2, .inr (.inr (.inl k2))), (3, .inl q.1)] [] q.2 (77, 8152)) : J l g (md_L_law nm) room_1 Q 983 [(0, .inr (.inr (.inr false))), (1, .inr (.inr (.inl k1))), (2, .inr (.inr (.inl k2))), (3, .inl x3)] [] ah (77, 8152) := by
  unfold f_L_law_b18_j983 at h
  refine J_seg ok_L_law_10 17 1 (pc' := 984) (ls' := [(0, .inr (.inr (.inr false))), (1, .inr (.inr (.inl k1))), (2, .inr (.inr (.inl k2))), (3, .inl x3)]) (st' := [.inr (.inr (.inl k1))]) rfl ?_
  by_cases c339 : qO ah k1 5 = true
  case neg => exact absurd ((if_neg c339).symm.trans h) (by simp)
  have h := (if_pos c339).symm.trans h
  obtain ⟨q337, h338, h⟩ := Option.bind_eq_some_iff.mp h
  refine J_callV (md' := md_X5_maps) (As := []) (st := []) (cs' := (77, 8152)) (st' := [.inl q337.1]) (jat ok_L_law_10 18 (pc := 984) (i := .invokevirtual 126) (n := 3) rfl rfl) ml_RL_126 yv_X5_maps c339 (c_X5_maps l g 18 h338) (jRo_law (by decide) (by decide)) (Nat.le_of_ble_eq_true rfl) ⟨Nat.le_of_ble_eq_true rfl, Nat.le_of_ble_eq_true rfl⟩ rfl rfl rfl ?_
  refine J_seg ok_L_law_10 19 1 (pc' := 988) (ls' := [(0, .inr (.inr (.inr false))), (1, .inr (.inr (.inl k1))), (2, .inr (.inr (.inl k2))), (3, .inl x3)]) (st' := [.inr (.inr (.inl k2)), .inl q337.1]) rfl ?_
  by_cases c342 : qO q337.2 k2 6 = true
  case neg => exact absurd ((if_neg c342).symm.trans h) (by simp)
  have h := (if_pos c342).symm.trans h
  obtain ⟨q340, h341, h⟩ := Option.bind_eq_some_iff.mp h
  refine J_callV (md' := md_X6_maps) (As := []) (st := [.inl q337.1]) (cs' := (77, 8152)) (st' := [.inl q340.1, .inl q337.1]) (jat ok_L_law_10 20 (pc := 988) (i := .invokevirtual 129) (n := 3) rfl rfl) ml_RL_129 yv_X6_maps c342 (c_X6_maps l g 26 h341) (jRo_law (by decide) (by decide)) (Nat.le_of_ble_eq_true rfl) ⟨Nat.le_of_ble_eq_true rfl, Nat.le_of_ble_eq_true rfl⟩ rfl rfl rfl ?_
  refine J_eq (jat ok_L_law_10 21 (pc := 991) (i := .if_icmp .eq 297) (n := 3) rfl rfl) (tgt := 1288) (by decide) (fun c => ?_) (fun c => ?_)
  · have h := (if_pos c).symm.trans h
    refine J_seg ok_L_law_14 8 2 (pc' := 18) (ls' := [(3, .inl (x3 + 6)), (0, .inr (.inr (.inr false))), (1, .inr (.inr (.inl k1))), (2, .inr (.inr (.inl k2)))]) (st' := []) rfl ?_
    exact J_sub (ls' := [(0, .inr (.inr (.inr false))), (1, .inr (.inr (.inl k1))), (2, .inr (.inr (.inl k2))), (3, .inl (x3 + 6))]) [1, 2, 3, 0] rfl (hN (x3 + 6, q340.2) (Option.some.inj h).symm)
  · have h := (if_neg c).symm.trans h
    refine J_seg ok_L_law_10 22 1 (pc' := 995) (ls' := [(0, .inr (.inr (.inr false))), (1, .inr (.inr (.inl k1))), (2, .inr (.inr (.inl k2))), (3, .inl x3)]) (st' := [.inl 0]) rfl ?_
    exact hR _ (Option.some.inj h).symm _ _ (jat ok_L_law_10 23 (pc := 995) (i := .ireturn) (n := 1) rfl rfl)
def f_L_law_b18_j996 (g : GX) (k1 : Option Nat) (k2 : Option Nat) (x3 : Int32) (ah : AH) : Option ((Int32 × AH) ⊕ (((Unit) × AH) ⊕ ((Int32) × AH))) :=
  (gS g (x3 + 1)).bind fun v343 => (gS g (x3 + 2)).bind fun v345 => if qO ah k1 5 = true then ((f_X5_odds k1 v343 v345 ah).bind fun q347 => (gS g (x3 + 1)).bind fun v350 => (gS g (x3 + 2)).bind fun v352 => if qO q347.2 k2 6 = true then ((f_X6_odds k2 v350 v352 q347.2).bind fun q354 => if q347.1 = q354.1 then (some (.inr (.inr (x3 + 6, q354.2)))) else (some (.inl (0, q354.2)))) else none) else none
set_option maxRecDepth 100000 in
set_option maxHeartbeats 4000000 in
theorem k_L_law_b18_j996 {l : Launch} {g : GX} {nm : String} (d : Nat) {Q : jQ} {k1 : Option Nat} {k2 : Option Nat} {x3 : Int32} (ah : AH) (out : (Int32 × AH) ⊕ (((Unit) × AH) ⊕ ((Int32) × AH))) (h : f_L_law_b18_j996 g k1 k2 x3 ah = some out) (hR : ∀ q, out = .inl q → jRetI l g (md_L_law nm) room_1 Q (77, 8152) q.1 q.2) (hX : ∀ q, out = .inr (.inl q) → J l g (md_L_law nm) room_1 Q 1294 [] [] q.2 (77, 8152)) (hN : ∀ q, out = .inr (.inr q) → J l g (md_L_law nm) room_1 Q 18 [(0, .inr (.inr (.inr false))), (1, .inr (.inr (.inl k1))), (2, .inr (.inr (.inl k2))), (3, .inl q.1)] [] q.2 (77, 8152)) : J l g (md_L_law nm) room_1 Q 996 [(0, .inr (.inr (.inr false))), (1, .inr (.inr (.inl k1))), (2, .inr (.inr (.inl k2))), (3, .inl x3)] [] ah (77, 8152) := by
  unfold f_L_law_b18_j996 at h
  refine J_seg ok_L_law_10 24 5 (pc' := 1001) (ls' := [(0, .inr (.inr (.inr false))), (1, .inr (.inr (.inl k1))), (2, .inr (.inr (.inl k2))), (3, .inl x3)]) (st' := [.inl (x3 + 1), .inr (.inr (.inr false)), .inr (.inr (.inl k1))]) rfl ?_
  obtain ⟨v343, h344, h⟩ := Option.bind_eq_some_iff.mp h
  refine J_sget (jat ok_L_law_10 29 (pc := 1001) (i := .iaload) (n := 1) rfl rfl) h344 ?_
  refine J_seg ok_L_law_10 30 4 (pc' := 1006) (ls' := [(0, .inr (.inr (.inr false))), (1, .inr (.inr (.inl k1))), (2, .inr (.inr (.inl k2))), (3, .inl x3)]) (st' := [.inl (x3 + 2), .inr (.inr (.inr false)), .inl v343, .inr (.inr (.inl k1))]) rfl ?_
  obtain ⟨v345, h346, h⟩ := Option.bind_eq_some_iff.mp h
  refine J_sget (jat ok_L_law_10 34 (pc := 1006) (i := .iaload) (n := 1) rfl rfl) h346 ?_
  by_cases c349 : qO ah k1 5 = true
  case neg => exact absurd ((if_neg c349).symm.trans h) (by simp)
  have h := (if_pos c349).symm.trans h
  obtain ⟨q347, h348, h⟩ := Option.bind_eq_some_iff.mp h
  refine J_callV (md' := md_X5_odds) (As := [.inl v343, .inl v345]) (st := []) (cs' := (77, 8152)) (st' := [.inl q347.1]) (jat ok_L_law_10 35 (pc := 1007) (i := .invokevirtual 130) (n := 3) rfl rfl) ml_RL_130 yv_X5_odds c349 (c_X5_odds l g 17 h348) (jRo_law (by decide) (by decide)) (Nat.le_of_ble_eq_true rfl) ⟨Nat.le_of_ble_eq_true rfl, Nat.le_of_ble_eq_true rfl⟩ rfl rfl rfl ?_
  refine J_seg ok_L_law_10 36 5 (pc' := 1015) (ls' := [(0, .inr (.inr (.inr false))), (1, .inr (.inr (.inl k1))), (2, .inr (.inr (.inl k2))), (3, .inl x3)]) (st' := [.inl (x3 + 1), .inr (.inr (.inr false)), .inr (.inr (.inl k2)), .inl q347.1]) rfl ?_
  obtain ⟨v350, h351, h⟩ := Option.bind_eq_some_iff.mp h
  refine J_sget (jat ok_L_law_10 41 (pc := 1015) (i := .iaload) (n := 1) rfl rfl) h351 ?_
  refine J_seg ok_L_law_10 42 4 (pc' := 1020) (ls' := [(0, .inr (.inr (.inr false))), (1, .inr (.inr (.inl k1))), (2, .inr (.inr (.inl k2))), (3, .inl x3)]) (st' := [.inl (x3 + 2), .inr (.inr (.inr false)), .inl v350, .inr (.inr (.inl k2)), .inl q347.1]) rfl ?_
  obtain ⟨v352, h353, h⟩ := Option.bind_eq_some_iff.mp h
  refine J_sget (jat ok_L_law_10 46 (pc := 1020) (i := .iaload) (n := 1) rfl rfl) h353 ?_
  by_cases c356 : qO q347.2 k2 6 = true
  case neg => exact absurd ((if_neg c356).symm.trans h) (by simp)
  have h := (if_pos c356).symm.trans h
  obtain ⟨q354, h355, h⟩ := Option.bind_eq_some_iff.mp h
  refine J_callV (md' := md_X6_odds) (As := [.inl v350, .inl v352]) (st := [.inl q347.1]) (cs' := (77, 8152)) (st' := [.inl q354.1, .inl q347.1]) (jat ok_L_law_10 47 (pc := 1021) (i := .invokevirtual 133) (n := 3) rfl rfl) ml_RL_133 yv_X6_odds c356 (c_X6_odds l g 26 h355) (jRo_law (by decide) (by decide)) (Nat.le_of_ble_eq_true rfl) ⟨Nat.le_of_ble_eq_true rfl, Nat.le_of_ble_eq_true rfl⟩ rfl rfl rfl ?_
  refine J_eq (jat ok_L_law_10 48 (pc := 1024) (i := .if_icmp .eq 264) (n := 3) rfl rfl) (tgt := 1288) (by decide) (fun c => ?_) (fun c => ?_)
  · have h := (if_pos c).symm.trans h
    refine J_seg ok_L_law_14 8 2 (pc' := 18) (ls' := [(3, .inl (x3 + 6)), (0, .inr (.inr (.inr false))), (1, .inr (.inr (.inl k1))), (2, .inr (.inr (.inl k2)))]) (st' := []) rfl ?_
    exact J_sub (ls' := [(0, .inr (.inr (.inr false))), (1, .inr (.inr (.inl k1))), (2, .inr (.inr (.inl k2))), (3, .inl (x3 + 6))]) [1, 2, 3, 0] rfl (hN (x3 + 6, q354.2) (Option.some.inj h).symm)
  · have h := (if_neg c).symm.trans h
    refine J_seg ok_L_law_10 49 1 (pc' := 1028) (ls' := [(0, .inr (.inr (.inr false))), (1, .inr (.inr (.inl k1))), (2, .inr (.inr (.inl k2))), (3, .inl x3)]) (st' := [.inl 0]) rfl ?_
    exact hR _ (Option.some.inj h).symm _ _ (jat ok_L_law_10 50 (pc := 1028) (i := .ireturn) (n := 1) rfl rfl)
def f_L_law_b18_j1029 (g : GX) (k1 : Option Nat) (k2 : Option Nat) (x3 : Int32) (ah : AH) : Option ((Int32 × AH) ⊕ (((Unit) × AH) ⊕ ((Int32) × AH))) :=
  (gS g (x3 + 1)).bind fun v357 => (gS g (x3 + 2)).bind fun v359 => if qO ah k1 5 = true then ((f_X5_both k1 v357 v359 ah).bind fun q361 => (gS g (x3 + 1)).bind fun v364 => (gS g (x3 + 2)).bind fun v366 => if qO q361.2 k2 6 = true then ((f_X6_both k2 v364 v366 q361.2).bind fun q368 => if q361.1 = q368.1 then (some (.inr (.inr (x3 + 6, q368.2)))) else (some (.inl (0, q368.2)))) else none) else none
set_option maxRecDepth 100000 in
set_option maxHeartbeats 4000000 in
theorem k_L_law_b18_j1029 {l : Launch} {g : GX} {nm : String} (d : Nat) {Q : jQ} {k1 : Option Nat} {k2 : Option Nat} {x3 : Int32} (ah : AH) (out : (Int32 × AH) ⊕ (((Unit) × AH) ⊕ ((Int32) × AH))) (h : f_L_law_b18_j1029 g k1 k2 x3 ah = some out) (hR : ∀ q, out = .inl q → jRetI l g (md_L_law nm) room_1 Q (77, 8152) q.1 q.2) (hX : ∀ q, out = .inr (.inl q) → J l g (md_L_law nm) room_1 Q 1294 [] [] q.2 (77, 8152)) (hN : ∀ q, out = .inr (.inr q) → J l g (md_L_law nm) room_1 Q 18 [(0, .inr (.inr (.inr false))), (1, .inr (.inr (.inl k1))), (2, .inr (.inr (.inl k2))), (3, .inl q.1)] [] q.2 (77, 8152)) : J l g (md_L_law nm) room_1 Q 1029 [(0, .inr (.inr (.inr false))), (1, .inr (.inr (.inl k1))), (2, .inr (.inr (.inl k2))), (3, .inl x3)] [] ah (77, 8152) := by
  unfold f_L_law_b18_j1029 at h
  refine J_seg ok_L_law_11 0 5 (pc' := 1034) (ls' := [(0, .inr (.inr (.inr false))), (1, .inr (.inr (.inl k1))), (2, .inr (.inr (.inl k2))), (3, .inl x3)]) (st' := [.inl (x3 + 1), .inr (.inr (.inr false)), .inr (.inr (.inl k1))]) rfl ?_
  obtain ⟨v357, h358, h⟩ := Option.bind_eq_some_iff.mp h
  refine J_sget (jat ok_L_law_11 5 (pc := 1034) (i := .iaload) (n := 1) rfl rfl) h358 ?_
  refine J_seg ok_L_law_11 6 4 (pc' := 1039) (ls' := [(0, .inr (.inr (.inr false))), (1, .inr (.inr (.inl k1))), (2, .inr (.inr (.inl k2))), (3, .inl x3)]) (st' := [.inl (x3 + 2), .inr (.inr (.inr false)), .inl v357, .inr (.inr (.inl k1))]) rfl ?_
  obtain ⟨v359, h360, h⟩ := Option.bind_eq_some_iff.mp h
  refine J_sget (jat ok_L_law_11 10 (pc := 1039) (i := .iaload) (n := 1) rfl rfl) h360 ?_
  by_cases c363 : qO ah k1 5 = true
  case neg => exact absurd ((if_neg c363).symm.trans h) (by simp)
  have h := (if_pos c363).symm.trans h
  obtain ⟨q361, h362, h⟩ := Option.bind_eq_some_iff.mp h
  refine J_callV (md' := md_X5_both) (As := [.inl v357, .inl v359]) (st := []) (cs' := (77, 8152)) (st' := [.inl q361.1]) (jat ok_L_law_11 11 (pc := 1040) (i := .invokevirtual 134) (n := 3) rfl rfl) ml_RL_134 yv_X5_both c363 (c_X5_both l g 17 h362) (jRo_law (by decide) (by decide)) (Nat.le_of_ble_eq_true rfl) ⟨Nat.le_of_ble_eq_true rfl, Nat.le_of_ble_eq_true rfl⟩ rfl rfl rfl ?_
  refine J_seg ok_L_law_11 12 5 (pc' := 1048) (ls' := [(0, .inr (.inr (.inr false))), (1, .inr (.inr (.inl k1))), (2, .inr (.inr (.inl k2))), (3, .inl x3)]) (st' := [.inl (x3 + 1), .inr (.inr (.inr false)), .inr (.inr (.inl k2)), .inl q361.1]) rfl ?_
  obtain ⟨v364, h365, h⟩ := Option.bind_eq_some_iff.mp h
  refine J_sget (jat ok_L_law_11 17 (pc := 1048) (i := .iaload) (n := 1) rfl rfl) h365 ?_
  refine J_seg ok_L_law_11 18 4 (pc' := 1053) (ls' := [(0, .inr (.inr (.inr false))), (1, .inr (.inr (.inl k1))), (2, .inr (.inr (.inl k2))), (3, .inl x3)]) (st' := [.inl (x3 + 2), .inr (.inr (.inr false)), .inl v364, .inr (.inr (.inl k2)), .inl q361.1]) rfl ?_
  obtain ⟨v366, h367, h⟩ := Option.bind_eq_some_iff.mp h
  refine J_sget (jat ok_L_law_11 22 (pc := 1053) (i := .iaload) (n := 1) rfl rfl) h367 ?_
  by_cases c370 : qO q361.2 k2 6 = true
  case neg => exact absurd ((if_neg c370).symm.trans h) (by simp)
  have h := (if_pos c370).symm.trans h
  obtain ⟨q368, h369, h⟩ := Option.bind_eq_some_iff.mp h
  refine J_callV (md' := md_X6_both) (As := [.inl v364, .inl v366]) (st := [.inl q361.1]) (cs' := (77, 8152)) (st' := [.inl q368.1, .inl q361.1]) (jat ok_L_law_11 23 (pc := 1054) (i := .invokevirtual 137) (n := 3) rfl rfl) ml_RL_137 yv_X6_both c370 (c_X6_both l g 26 h369) (jRo_law (by decide) (by decide)) (Nat.le_of_ble_eq_true rfl) ⟨Nat.le_of_ble_eq_true rfl, Nat.le_of_ble_eq_true rfl⟩ rfl rfl rfl ?_
  refine J_eq (jat ok_L_law_11 24 (pc := 1057) (i := .if_icmp .eq 231) (n := 3) rfl rfl) (tgt := 1288) (by decide) (fun c => ?_) (fun c => ?_)
  · have h := (if_pos c).symm.trans h
    refine J_seg ok_L_law_14 8 2 (pc' := 18) (ls' := [(3, .inl (x3 + 6)), (0, .inr (.inr (.inr false))), (1, .inr (.inr (.inl k1))), (2, .inr (.inr (.inl k2)))]) (st' := []) rfl ?_
    exact J_sub (ls' := [(0, .inr (.inr (.inr false))), (1, .inr (.inr (.inl k1))), (2, .inr (.inr (.inl k2))), (3, .inl (x3 + 6))]) [1, 2, 3, 0] rfl (hN (x3 + 6, q368.2) (Option.some.inj h).symm)
  · have h := (if_neg c).symm.trans h
    refine J_seg ok_L_law_11 25 1 (pc' := 1061) (ls' := [(0, .inr (.inr (.inr false))), (1, .inr (.inr (.inl k1))), (2, .inr (.inr (.inl k2))), (3, .inl x3)]) (st' := [.inl 0]) rfl ?_
    exact hR _ (Option.some.inj h).symm _ _ (jat ok_L_law_11 26 (pc := 1061) (i := .ireturn) (n := 1) rfl rfl)
def f_L_law_b18_j1062 (g : GX) (k1 : Option Nat) (k2 : Option Nat) (x3 : Int32) (ah : AH) : Option ((Int32 × AH) ⊕ (((Unit) × AH) ⊕ ((Int32) × AH))) :=
  (gS g (x3 + 1)).bind fun v371 => if qO ah k1 5 = true then ((f_X5_fits k1 v371 ah).bind fun q373 => (gS g (x3 + 1)).bind fun v376 => if qO q373.2 k2 6 = true then ((f_X6_fits k2 v376 q373.2).bind fun q378 => if q373.1 = q378.1 then (some (.inr (.inr (x3 + 6, q378.2)))) else (some (.inl (0, q378.2)))) else none) else none
set_option maxRecDepth 100000 in
set_option maxHeartbeats 4000000 in
theorem k_L_law_b18_j1062 {l : Launch} {g : GX} {nm : String} (d : Nat) {Q : jQ} {k1 : Option Nat} {k2 : Option Nat} {x3 : Int32} (ah : AH) (out : (Int32 × AH) ⊕ (((Unit) × AH) ⊕ ((Int32) × AH))) (h : f_L_law_b18_j1062 g k1 k2 x3 ah = some out) (hR : ∀ q, out = .inl q → jRetI l g (md_L_law nm) room_1 Q (77, 8152) q.1 q.2) (hX : ∀ q, out = .inr (.inl q) → J l g (md_L_law nm) room_1 Q 1294 [] [] q.2 (77, 8152)) (hN : ∀ q, out = .inr (.inr q) → J l g (md_L_law nm) room_1 Q 18 [(0, .inr (.inr (.inr false))), (1, .inr (.inr (.inl k1))), (2, .inr (.inr (.inl k2))), (3, .inl q.1)] [] q.2 (77, 8152)) : J l g (md_L_law nm) room_1 Q 1062 [(0, .inr (.inr (.inr false))), (1, .inr (.inr (.inl k1))), (2, .inr (.inr (.inl k2))), (3, .inl x3)] [] ah (77, 8152) := by
  unfold f_L_law_b18_j1062 at h
  refine J_seg ok_L_law_11 27 5 (pc' := 1067) (ls' := [(0, .inr (.inr (.inr false))), (1, .inr (.inr (.inl k1))), (2, .inr (.inr (.inl k2))), (3, .inl x3)]) (st' := [.inl (x3 + 1), .inr (.inr (.inr false)), .inr (.inr (.inl k1))]) rfl ?_
  obtain ⟨v371, h372, h⟩ := Option.bind_eq_some_iff.mp h
  refine J_sget (jat ok_L_law_11 32 (pc := 1067) (i := .iaload) (n := 1) rfl rfl) h372 ?_
  by_cases c375 : qO ah k1 5 = true
  case neg => exact absurd ((if_neg c375).symm.trans h) (by simp)
  have h := (if_pos c375).symm.trans h
  obtain ⟨q373, h374, h⟩ := Option.bind_eq_some_iff.mp h
  refine J_callV (md' := md_X5_fits) (As := [.inl v371]) (st := []) (cs' := (77, 8152)) (st' := [.inl q373.1]) (jat ok_L_law_11 33 (pc := 1068) (i := .invokevirtual 138) (n := 3) rfl rfl) ml_RL_138 yv_X5_fits c375 (c_X5_fits l g 17 h374) (jRo_law (by decide) (by decide)) (Nat.le_of_ble_eq_true rfl) ⟨Nat.le_of_ble_eq_true rfl, Nat.le_of_ble_eq_true rfl⟩ rfl rfl rfl ?_
  refine J_seg ok_L_law_11 34 5 (pc' := 1076) (ls' := [(0, .inr (.inr (.inr false))), (1, .inr (.inr (.inl k1))), (2, .inr (.inr (.inl k2))), (3, .inl x3)]) (st' := [.inl (x3 + 1), .inr (.inr (.inr false)), .inr (.inr (.inl k2)), .inl q373.1]) rfl ?_
  obtain ⟨v376, h377, h⟩ := Option.bind_eq_some_iff.mp h
  refine J_sget (jat ok_L_law_11 39 (pc := 1076) (i := .iaload) (n := 1) rfl rfl) h377 ?_
  by_cases c380 : qO q373.2 k2 6 = true
  case neg => exact absurd ((if_neg c380).symm.trans h) (by simp)
  have h := (if_pos c380).symm.trans h
  obtain ⟨q378, h379, h⟩ := Option.bind_eq_some_iff.mp h
  refine J_callV (md' := md_X6_fits) (As := [.inl v376]) (st := [.inl q373.1]) (cs' := (77, 8152)) (st' := [.inl q378.1, .inl q373.1]) (jat ok_L_law_11 40 (pc := 1077) (i := .invokevirtual 141) (n := 3) rfl rfl) ml_RL_141 yv_X6_fits c380 (c_X6_fits l g 25 h379) (jRo_law (by decide) (by decide)) (Nat.le_of_ble_eq_true rfl) ⟨Nat.le_of_ble_eq_true rfl, Nat.le_of_ble_eq_true rfl⟩ rfl rfl rfl ?_
  refine J_eq (jat ok_L_law_11 41 (pc := 1080) (i := .if_icmp .eq 208) (n := 3) rfl rfl) (tgt := 1288) (by decide) (fun c => ?_) (fun c => ?_)
  · have h := (if_pos c).symm.trans h
    refine J_seg ok_L_law_14 8 2 (pc' := 18) (ls' := [(3, .inl (x3 + 6)), (0, .inr (.inr (.inr false))), (1, .inr (.inr (.inl k1))), (2, .inr (.inr (.inl k2)))]) (st' := []) rfl ?_
    exact J_sub (ls' := [(0, .inr (.inr (.inr false))), (1, .inr (.inr (.inl k1))), (2, .inr (.inr (.inl k2))), (3, .inl (x3 + 6))]) [1, 2, 3, 0] rfl (hN (x3 + 6, q378.2) (Option.some.inj h).symm)
  · have h := (if_neg c).symm.trans h
    refine J_seg ok_L_law_11 42 1 (pc' := 1084) (ls' := [(0, .inr (.inr (.inr false))), (1, .inr (.inr (.inl k1))), (2, .inr (.inr (.inl k2))), (3, .inl x3)]) (st' := [.inl 0]) rfl ?_
    exact hR _ (Option.some.inj h).symm _ _ (jat ok_L_law_11 43 (pc := 1084) (i := .ireturn) (n := 1) rfl rfl)
def f_L_law_b18_j1085 (g : GX) (k1 : Option Nat) (k2 : Option Nat) (x3 : Int32) (ah : AH) : Option ((Int32 × AH) ⊕ (((Unit) × AH) ⊕ ((Int32) × AH))) :=
  (gS g (x3 + 1)).bind fun v381 => (gS g (x3 + 2)).bind fun v383 => if qO ah k1 5 = true then ((f_X5_sure k1 v381 v383 ah).bind fun q385 => (gS g (x3 + 1)).bind fun v388 => (gS g (x3 + 2)).bind fun v390 => if qO q385.2 k2 6 = true then ((f_X6_sure k2 v388 v390 q385.2).bind fun q392 => if q385.1 = q392.1 then (some (.inr (.inr (x3 + 6, q392.2)))) else (some (.inl (0, q392.2)))) else none) else none
set_option maxRecDepth 100000 in
set_option maxHeartbeats 4000000 in
theorem k_L_law_b18_j1085 {l : Launch} {g : GX} {nm : String} (d : Nat) {Q : jQ} {k1 : Option Nat} {k2 : Option Nat} {x3 : Int32} (ah : AH) (out : (Int32 × AH) ⊕ (((Unit) × AH) ⊕ ((Int32) × AH))) (h : f_L_law_b18_j1085 g k1 k2 x3 ah = some out) (hR : ∀ q, out = .inl q → jRetI l g (md_L_law nm) room_1 Q (77, 8152) q.1 q.2) (hX : ∀ q, out = .inr (.inl q) → J l g (md_L_law nm) room_1 Q 1294 [] [] q.2 (77, 8152)) (hN : ∀ q, out = .inr (.inr q) → J l g (md_L_law nm) room_1 Q 18 [(0, .inr (.inr (.inr false))), (1, .inr (.inr (.inl k1))), (2, .inr (.inr (.inl k2))), (3, .inl q.1)] [] q.2 (77, 8152)) : J l g (md_L_law nm) room_1 Q 1085 [(0, .inr (.inr (.inr false))), (1, .inr (.inr (.inl k1))), (2, .inr (.inr (.inl k2))), (3, .inl x3)] [] ah (77, 8152) := by
  unfold f_L_law_b18_j1085 at h
  refine J_seg ok_L_law_11 44 5 (pc' := 1090) (ls' := [(0, .inr (.inr (.inr false))), (1, .inr (.inr (.inl k1))), (2, .inr (.inr (.inl k2))), (3, .inl x3)]) (st' := [.inl (x3 + 1), .inr (.inr (.inr false)), .inr (.inr (.inl k1))]) rfl ?_
  obtain ⟨v381, h382, h⟩ := Option.bind_eq_some_iff.mp h
  refine J_sget (jat ok_L_law_11 49 (pc := 1090) (i := .iaload) (n := 1) rfl rfl) h382 ?_
  refine J_seg ok_L_law_11 50 4 (pc' := 1095) (ls' := [(0, .inr (.inr (.inr false))), (1, .inr (.inr (.inl k1))), (2, .inr (.inr (.inl k2))), (3, .inl x3)]) (st' := [.inl (x3 + 2), .inr (.inr (.inr false)), .inl v381, .inr (.inr (.inl k1))]) rfl ?_
  obtain ⟨v383, h384, h⟩ := Option.bind_eq_some_iff.mp h
  refine J_sget (jat ok_L_law_11 54 (pc := 1095) (i := .iaload) (n := 1) rfl rfl) h384 ?_
  by_cases c387 : qO ah k1 5 = true
  case neg => exact absurd ((if_neg c387).symm.trans h) (by simp)
  have h := (if_pos c387).symm.trans h
  obtain ⟨q385, h386, h⟩ := Option.bind_eq_some_iff.mp h
  refine J_callV (md' := md_X5_sure) (As := [.inl v381, .inl v383]) (st := []) (cs' := (77, 8152)) (st' := [.inl q385.1]) (jat ok_L_law_11 55 (pc := 1096) (i := .invokevirtual 142) (n := 3) rfl rfl) ml_RL_142 yv_X5_sure c387 (c_X5_sure l g 16 h386) (jRo_law (by decide) (by decide)) (Nat.le_of_ble_eq_true rfl) ⟨Nat.le_of_ble_eq_true rfl, Nat.le_of_ble_eq_true rfl⟩ rfl rfl rfl ?_
  refine J_seg ok_L_law_11 56 5 (pc' := 1104) (ls' := [(0, .inr (.inr (.inr false))), (1, .inr (.inr (.inl k1))), (2, .inr (.inr (.inl k2))), (3, .inl x3)]) (st' := [.inl (x3 + 1), .inr (.inr (.inr false)), .inr (.inr (.inl k2)), .inl q385.1]) rfl ?_
  obtain ⟨v388, h389, h⟩ := Option.bind_eq_some_iff.mp h
  refine J_sget (jat ok_L_law_11 61 (pc := 1104) (i := .iaload) (n := 1) rfl rfl) h389 ?_
  refine J_seg ok_L_law_11 62 4 (pc' := 1109) (ls' := [(0, .inr (.inr (.inr false))), (1, .inr (.inr (.inl k1))), (2, .inr (.inr (.inl k2))), (3, .inl x3)]) (st' := [.inl (x3 + 2), .inr (.inr (.inr false)), .inl v388, .inr (.inr (.inl k2)), .inl q385.1]) rfl ?_
  obtain ⟨v390, h391, h⟩ := Option.bind_eq_some_iff.mp h
  refine J_sget (jat ok_L_law_11 66 (pc := 1109) (i := .iaload) (n := 1) rfl rfl) h391 ?_
  by_cases c394 : qO q385.2 k2 6 = true
  case neg => exact absurd ((if_neg c394).symm.trans h) (by simp)
  have h := (if_pos c394).symm.trans h
  obtain ⟨q392, h393, h⟩ := Option.bind_eq_some_iff.mp h
  refine J_callV (md' := md_X6_sure) (As := [.inl v388, .inl v390]) (st := [.inl q385.1]) (cs' := (77, 8152)) (st' := [.inl q392.1, .inl q385.1]) (jat ok_L_law_11 67 (pc := 1110) (i := .invokevirtual 145) (n := 3) rfl rfl) ml_RL_145 yv_X6_sure c394 (c_X6_sure l g 25 h393) (jRo_law (by decide) (by decide)) (Nat.le_of_ble_eq_true rfl) ⟨Nat.le_of_ble_eq_true rfl, Nat.le_of_ble_eq_true rfl⟩ rfl rfl rfl ?_
  refine J_eq (jat ok_L_law_11 68 (pc := 1113) (i := .if_icmp .eq 175) (n := 3) rfl rfl) (tgt := 1288) (by decide) (fun c => ?_) (fun c => ?_)
  · have h := (if_pos c).symm.trans h
    refine J_seg ok_L_law_14 8 2 (pc' := 18) (ls' := [(3, .inl (x3 + 6)), (0, .inr (.inr (.inr false))), (1, .inr (.inr (.inl k1))), (2, .inr (.inr (.inl k2)))]) (st' := []) rfl ?_
    exact J_sub (ls' := [(0, .inr (.inr (.inr false))), (1, .inr (.inr (.inl k1))), (2, .inr (.inr (.inl k2))), (3, .inl (x3 + 6))]) [1, 2, 3, 0] rfl (hN (x3 + 6, q392.2) (Option.some.inj h).symm)
  · have h := (if_neg c).symm.trans h
    refine J_seg ok_L_law_11 69 1 (pc' := 1117) (ls' := [(0, .inr (.inr (.inr false))), (1, .inr (.inr (.inl k1))), (2, .inr (.inr (.inl k2))), (3, .inl x3)]) (st' := [.inl 0]) rfl ?_
    exact hR _ (Option.some.inj h).symm _ _ (jat ok_L_law_11 70 (pc := 1117) (i := .ireturn) (n := 1) rfl rfl)
def f_L_law_b18_j1118 (g : GX) (k1 : Option Nat) (k2 : Option Nat) (x3 : Int32) (ah : AH) : Option ((Int32 × AH) ⊕ (((Unit) × AH) ⊕ ((Int32) × AH))) :=
  (gS g (x3 + 1)).bind fun v395 => if qO ah k1 5 = true then ((f_X5_ask k1 v395 ah).bind fun q397 => (gS g (x3 + 1)).bind fun v400 => if qO q397.2 k2 6 = true then ((f_X6_ask k2 v400 q397.2).bind fun q402 => if q397.1 = q402.1 then (some (.inr (.inr (x3 + 6, q402.2)))) else (some (.inl (0, q402.2)))) else none) else none
set_option maxRecDepth 100000 in
set_option maxHeartbeats 4000000 in
theorem k_L_law_b18_j1118 {l : Launch} {g : GX} {nm : String} (d : Nat) {Q : jQ} {k1 : Option Nat} {k2 : Option Nat} {x3 : Int32} (ah : AH) (out : (Int32 × AH) ⊕ (((Unit) × AH) ⊕ ((Int32) × AH))) (h : f_L_law_b18_j1118 g k1 k2 x3 ah = some out) (hR : ∀ q, out = .inl q → jRetI l g (md_L_law nm) room_1 Q (77, 8152) q.1 q.2) (hX : ∀ q, out = .inr (.inl q) → J l g (md_L_law nm) room_1 Q 1294 [] [] q.2 (77, 8152)) (hN : ∀ q, out = .inr (.inr q) → J l g (md_L_law nm) room_1 Q 18 [(0, .inr (.inr (.inr false))), (1, .inr (.inr (.inl k1))), (2, .inr (.inr (.inl k2))), (3, .inl q.1)] [] q.2 (77, 8152)) : J l g (md_L_law nm) room_1 Q 1118 [(0, .inr (.inr (.inr false))), (1, .inr (.inr (.inl k1))), (2, .inr (.inr (.inl k2))), (3, .inl x3)] [] ah (77, 8152) := by
  unfold f_L_law_b18_j1118 at h
  refine J_seg ok_L_law_12 0 5 (pc' := 1123) (ls' := [(0, .inr (.inr (.inr false))), (1, .inr (.inr (.inl k1))), (2, .inr (.inr (.inl k2))), (3, .inl x3)]) (st' := [.inl (x3 + 1), .inr (.inr (.inr false)), .inr (.inr (.inl k1))]) rfl ?_
  obtain ⟨v395, h396, h⟩ := Option.bind_eq_some_iff.mp h
  refine J_sget (jat ok_L_law_12 5 (pc := 1123) (i := .iaload) (n := 1) rfl rfl) h396 ?_
  by_cases c399 : qO ah k1 5 = true
  case neg => exact absurd ((if_neg c399).symm.trans h) (by simp)
  have h := (if_pos c399).symm.trans h
  obtain ⟨q397, h398, h⟩ := Option.bind_eq_some_iff.mp h
  refine J_callV (md' := md_X5_ask) (As := [.inl v395]) (st := []) (cs' := (77, 8152)) (st' := [.inl q397.1]) (jat ok_L_law_12 6 (pc := 1124) (i := .invokevirtual 146) (n := 3) rfl rfl) ml_RL_146 yv_X5_ask c399 (c_X5_ask l g 16 h398) (jRo_law (by decide) (by decide)) (Nat.le_of_ble_eq_true rfl) ⟨Nat.le_of_ble_eq_true rfl, Nat.le_of_ble_eq_true rfl⟩ rfl rfl rfl ?_
  refine J_seg ok_L_law_12 7 5 (pc' := 1132) (ls' := [(0, .inr (.inr (.inr false))), (1, .inr (.inr (.inl k1))), (2, .inr (.inr (.inl k2))), (3, .inl x3)]) (st' := [.inl (x3 + 1), .inr (.inr (.inr false)), .inr (.inr (.inl k2)), .inl q397.1]) rfl ?_
  obtain ⟨v400, h401, h⟩ := Option.bind_eq_some_iff.mp h
  refine J_sget (jat ok_L_law_12 12 (pc := 1132) (i := .iaload) (n := 1) rfl rfl) h401 ?_
  by_cases c404 : qO q397.2 k2 6 = true
  case neg => exact absurd ((if_neg c404).symm.trans h) (by simp)
  have h := (if_pos c404).symm.trans h
  obtain ⟨q402, h403, h⟩ := Option.bind_eq_some_iff.mp h
  refine J_callV (md' := md_X6_ask) (As := [.inl v400]) (st := [.inl q397.1]) (cs' := (77, 8152)) (st' := [.inl q402.1, .inl q397.1]) (jat ok_L_law_12 13 (pc := 1133) (i := .invokevirtual 149) (n := 3) rfl rfl) ml_RL_149 yv_X6_ask c404 (c_X6_ask l g 25 h403) (jRo_law (by decide) (by decide)) (Nat.le_of_ble_eq_true rfl) ⟨Nat.le_of_ble_eq_true rfl, Nat.le_of_ble_eq_true rfl⟩ rfl rfl rfl ?_
  refine J_eq (jat ok_L_law_12 14 (pc := 1136) (i := .if_icmp .eq 152) (n := 3) rfl rfl) (tgt := 1288) (by decide) (fun c => ?_) (fun c => ?_)
  · have h := (if_pos c).symm.trans h
    refine J_seg ok_L_law_14 8 2 (pc' := 18) (ls' := [(3, .inl (x3 + 6)), (0, .inr (.inr (.inr false))), (1, .inr (.inr (.inl k1))), (2, .inr (.inr (.inl k2)))]) (st' := []) rfl ?_
    exact J_sub (ls' := [(0, .inr (.inr (.inr false))), (1, .inr (.inr (.inl k1))), (2, .inr (.inr (.inl k2))), (3, .inl (x3 + 6))]) [1, 2, 3, 0] rfl (hN (x3 + 6, q402.2) (Option.some.inj h).symm)
  · have h := (if_neg c).symm.trans h
    refine J_seg ok_L_law_12 15 1 (pc' := 1140) (ls' := [(0, .inr (.inr (.inr false))), (1, .inr (.inr (.inl k1))), (2, .inr (.inr (.inl k2))), (3, .inl x3)]) (st' := [.inl 0]) rfl ?_
    exact hR _ (Option.some.inj h).symm _ _ (jat ok_L_law_12 16 (pc := 1140) (i := .ireturn) (n := 1) rfl rfl)
def f_L_law_b18_j1141 (g : GX) (k1 : Option Nat) (k2 : Option Nat) (x3 : Int32) (ah : AH) : Option ((Int32 × AH) ⊕ (((Unit) × AH) ⊕ ((Int32) × AH))) :=
  (gS g (x3 + 1)).bind fun v405 => (gS g (x3 + 2)).bind fun v407 => if qO ah k1 5 = true then ((f_X5_lots k1 v405 v407 ah).bind fun q409 => (gS g (x3 + 1)).bind fun v412 => (gS g (x3 + 2)).bind fun v414 => if qO q409.2 k2 6 = true then ((f_X6_lots k2 v412 v414 q409.2).bind fun q416 => if q409.1 = q416.1 then (some (.inr (.inr (x3 + 6, q416.2)))) else (some (.inl (0, q416.2)))) else none) else none
set_option maxRecDepth 100000 in
set_option maxHeartbeats 4000000 in
theorem k_L_law_b18_j1141 {l : Launch} {g : GX} {nm : String} (d : Nat) {Q : jQ} {k1 : Option Nat} {k2 : Option Nat} {x3 : Int32} (ah : AH) (out : (Int32 × AH) ⊕ (((Unit) × AH) ⊕ ((Int32) × AH))) (h : f_L_law_b18_j1141 g k1 k2 x3 ah = some out) (hR : ∀ q, out = .inl q → jRetI l g (md_L_law nm) room_1 Q (77, 8152) q.1 q.2) (hX : ∀ q, out = .inr (.inl q) → J l g (md_L_law nm) room_1 Q 1294 [] [] q.2 (77, 8152)) (hN : ∀ q, out = .inr (.inr q) → J l g (md_L_law nm) room_1 Q 18 [(0, .inr (.inr (.inr false))), (1, .inr (.inr (.inl k1))), (2, .inr (.inr (.inl k2))), (3, .inl q.1)] [] q.2 (77, 8152)) : J l g (md_L_law nm) room_1 Q 1141 [(0, .inr (.inr (.inr false))), (1, .inr (.inr (.inl k1))), (2, .inr (.inr (.inl k2))), (3, .inl x3)] [] ah (77, 8152) := by
  unfold f_L_law_b18_j1141 at h
  refine J_seg ok_L_law_12 17 5 (pc' := 1146) (ls' := [(0, .inr (.inr (.inr false))), (1, .inr (.inr (.inl k1))), (2, .inr (.inr (.inl k2))), (3, .inl x3)]) (st' := [.inl (x3 + 1), .inr (.inr (.inr false)), .inr (.inr (.inl k1))]) rfl ?_
  obtain ⟨v405, h406, h⟩ := Option.bind_eq_some_iff.mp h
  refine J_sget (jat ok_L_law_12 22 (pc := 1146) (i := .iaload) (n := 1) rfl rfl) h406 ?_
  refine J_seg ok_L_law_12 23 4 (pc' := 1151) (ls' := [(0, .inr (.inr (.inr false))), (1, .inr (.inr (.inl k1))), (2, .inr (.inr (.inl k2))), (3, .inl x3)]) (st' := [.inl (x3 + 2), .inr (.inr (.inr false)), .inl v405, .inr (.inr (.inl k1))]) rfl ?_
  obtain ⟨v407, h408, h⟩ := Option.bind_eq_some_iff.mp h
  refine J_sget (jat ok_L_law_12 27 (pc := 1151) (i := .iaload) (n := 1) rfl rfl) h408 ?_
  by_cases c411 : qO ah k1 5 = true
  case neg => exact absurd ((if_neg c411).symm.trans h) (by simp)
  have h := (if_pos c411).symm.trans h
  obtain ⟨q409, h410, h⟩ := Option.bind_eq_some_iff.mp h
  refine J_callV (md' := md_X5_lots) (As := [.inl v405, .inl v407]) (st := []) (cs' := (77, 8152)) (st' := [.inl q409.1]) (jat ok_L_law_12 28 (pc := 1152) (i := .invokevirtual 150) (n := 3) rfl rfl) ml_RL_150 yv_X5_lots c411 (c_X5_lots l g 23 h410) (jRo_law (by decide) (by decide)) (Nat.le_of_ble_eq_true rfl) ⟨Nat.le_of_ble_eq_true rfl, Nat.le_of_ble_eq_true rfl⟩ rfl rfl rfl ?_
  refine J_seg ok_L_law_12 29 5 (pc' := 1160) (ls' := [(0, .inr (.inr (.inr false))), (1, .inr (.inr (.inl k1))), (2, .inr (.inr (.inl k2))), (3, .inl x3)]) (st' := [.inl (x3 + 1), .inr (.inr (.inr false)), .inr (.inr (.inl k2)), .inl q409.1]) rfl ?_
  obtain ⟨v412, h413, h⟩ := Option.bind_eq_some_iff.mp h
  refine J_sget (jat ok_L_law_12 34 (pc := 1160) (i := .iaload) (n := 1) rfl rfl) h413 ?_
  refine J_seg ok_L_law_12 35 4 (pc' := 1165) (ls' := [(0, .inr (.inr (.inr false))), (1, .inr (.inr (.inl k1))), (2, .inr (.inr (.inl k2))), (3, .inl x3)]) (st' := [.inl (x3 + 2), .inr (.inr (.inr false)), .inl v412, .inr (.inr (.inl k2)), .inl q409.1]) rfl ?_
  obtain ⟨v414, h415, h⟩ := Option.bind_eq_some_iff.mp h
  refine J_sget (jat ok_L_law_12 39 (pc := 1165) (i := .iaload) (n := 1) rfl rfl) h415 ?_
  by_cases c418 : qO q409.2 k2 6 = true
  case neg => exact absurd ((if_neg c418).symm.trans h) (by simp)
  have h := (if_pos c418).symm.trans h
  obtain ⟨q416, h417, h⟩ := Option.bind_eq_some_iff.mp h
  refine J_callV (md' := md_X6_lots) (As := [.inl v412, .inl v414]) (st := [.inl q409.1]) (cs' := (77, 8152)) (st' := [.inl q416.1, .inl q409.1]) (jat ok_L_law_12 40 (pc := 1166) (i := .invokevirtual 153) (n := 3) rfl rfl) ml_RL_153 yv_X6_lots c418 (c_X6_lots l g 26 h417) (jRo_law (by decide) (by decide)) (Nat.le_of_ble_eq_true rfl) ⟨Nat.le_of_ble_eq_true rfl, Nat.le_of_ble_eq_true rfl⟩ rfl rfl rfl ?_
  refine J_eq (jat ok_L_law_12 41 (pc := 1169) (i := .if_icmp .eq 119) (n := 3) rfl rfl) (tgt := 1288) (by decide) (fun c => ?_) (fun c => ?_)
  · have h := (if_pos c).symm.trans h
    refine J_seg ok_L_law_14 8 2 (pc' := 18) (ls' := [(3, .inl (x3 + 6)), (0, .inr (.inr (.inr false))), (1, .inr (.inr (.inl k1))), (2, .inr (.inr (.inl k2)))]) (st' := []) rfl ?_
    exact J_sub (ls' := [(0, .inr (.inr (.inr false))), (1, .inr (.inr (.inl k1))), (2, .inr (.inr (.inl k2))), (3, .inl (x3 + 6))]) [1, 2, 3, 0] rfl (hN (x3 + 6, q416.2) (Option.some.inj h).symm)
  · have h := (if_neg c).symm.trans h
    refine J_seg ok_L_law_12 42 1 (pc' := 1173) (ls' := [(0, .inr (.inr (.inr false))), (1, .inr (.inr (.inl k1))), (2, .inr (.inr (.inl k2))), (3, .inl x3)]) (st' := [.inl 0]) rfl ?_
    exact hR _ (Option.some.inj h).symm _ _ (jat ok_L_law_12 43 (pc := 1173) (i := .ireturn) (n := 1) rfl rfl)
def f_L_law_b18_j1174 (g : GX) (k1 : Option Nat) (k2 : Option Nat) (x3 : Int32) (ah : AH) : Option ((Int32 × AH) ⊕ (((Unit) × AH) ⊕ ((Int32) × AH))) :=
  if qO ah k1 5 = true then ((f_X5_asked k1 ah).bind fun q419 => if qO q419.2 k2 6 = true then ((f_X6_asked k2 q419.2).bind fun q422 => if q419.1 = q422.1 then (some (.inr (.inr (x3 + 6, q422.2)))) else (some (.inl (0, q422.2)))) else none) else none
set_option maxRecDepth 100000 in
set_option maxHeartbeats 4000000 in
theorem k_L_law_b18_j1174 {l : Launch} {g : GX} {nm : String} (d : Nat) {Q : jQ} {k1 : Option Nat} {k2 : Option Nat} {x3 : Int32} (ah : AH) (out : (Int32 × AH) ⊕ (((Unit) × AH) ⊕ ((Int32) × AH))) (h : f_L_law_b18_j1174 g k1 k2 x3 ah = some out) (hR : ∀ q, out = .inl q → jRetI l g (md_L_law nm) room_1 Q (77, 8152) q.1 q.2) (hX : ∀ q, out = .inr (.inl q) → J l g (md_L_law nm) room_1 Q 1294 [] [] q.2 (77, 8152)) (hN : ∀ q, out = .inr (.inr q) → J l g (md_L_law nm) room_1 Q 18 [(0, .inr (.inr (.inr false))), (1, .inr (.inr (.inl k1))), (2, .inr (.inr (.inl k2))), (3, .inl q.1)] [] q.2 (77, 8152)) : J l g (md_L_law nm) room_1 Q 1174 [(0, .inr (.inr (.inr false))), (1, .inr (.inr (.inl k1))), (2, .inr (.inr (.inl k2))), (3, .inl x3)] [] ah (77, 8152) := by
  unfold f_L_law_b18_j1174 at h
  refine J_seg ok_L_law_12 44 1 (pc' := 1175) (ls' := [(0, .inr (.inr (.inr false))), (1, .inr (.inr (.inl k1))), (2, .inr (.inr (.inl k2))), (3, .inl x3)]) (st' := [.inr (.inr (.inl k1))]) rfl ?_
  by_cases c421 : qO ah k1 5 = true
  case neg => exact absurd ((if_neg c421).symm.trans h) (by simp)
  have h := (if_pos c421).symm.trans h
  obtain ⟨q419, h420, h⟩ := Option.bind_eq_some_iff.mp h
  refine J_callV (md' := md_X5_asked) (As := []) (st := []) (cs' := (77, 8152)) (st' := [.inl q419.1]) (jat ok_L_law_12 45 (pc := 1175) (i := .invokevirtual 154) (n := 3) rfl rfl) ml_RL_154 yv_X5_asked c421 (c_X5_asked l g 29 h420) (jRo_law (by decide) (by decide)) (Nat.le_of_ble_eq_true rfl) ⟨Nat.le_of_ble_eq_true rfl, Nat.le_of_ble_eq_true rfl⟩ rfl rfl rfl ?_
  refine J_seg ok_L_law_12 46 1 (pc' := 1179) (ls' := [(0, .inr (.inr (.inr false))), (1, .inr (.inr (.inl k1))), (2, .inr (.inr (.inl k2))), (3, .inl x3)]) (st' := [.inr (.inr (.inl k2)), .inl q419.1]) rfl ?_
  by_cases c424 : qO q419.2 k2 6 = true
  case neg => exact absurd ((if_neg c424).symm.trans h) (by simp)
  have h := (if_pos c424).symm.trans h
  obtain ⟨q422, h423, h⟩ := Option.bind_eq_some_iff.mp h
  refine J_callV (md' := md_X6_asked) (As := []) (st := [.inl q419.1]) (cs' := (77, 8152)) (st' := [.inl q422.1, .inl q419.1]) (jat ok_L_law_12 47 (pc := 1179) (i := .invokevirtual 157) (n := 3) rfl rfl) ml_RL_157 yv_X6_asked c424 (c_X6_asked l g 29 h423) (jRo_law (by decide) (by decide)) (Nat.le_of_ble_eq_true rfl) ⟨Nat.le_of_ble_eq_true rfl, Nat.le_of_ble_eq_true rfl⟩ rfl rfl rfl ?_
  refine J_eq (jat ok_L_law_12 48 (pc := 1182) (i := .if_icmp .eq 106) (n := 3) rfl rfl) (tgt := 1288) (by decide) (fun c => ?_) (fun c => ?_)
  · have h := (if_pos c).symm.trans h
    refine J_seg ok_L_law_14 8 2 (pc' := 18) (ls' := [(3, .inl (x3 + 6)), (0, .inr (.inr (.inr false))), (1, .inr (.inr (.inl k1))), (2, .inr (.inr (.inl k2)))]) (st' := []) rfl ?_
    exact J_sub (ls' := [(0, .inr (.inr (.inr false))), (1, .inr (.inr (.inl k1))), (2, .inr (.inr (.inl k2))), (3, .inl (x3 + 6))]) [1, 2, 3, 0] rfl (hN (x3 + 6, q422.2) (Option.some.inj h).symm)
  · have h := (if_neg c).symm.trans h
    refine J_seg ok_L_law_12 49 1 (pc' := 1186) (ls' := [(0, .inr (.inr (.inr false))), (1, .inr (.inr (.inl k1))), (2, .inr (.inr (.inl k2))), (3, .inl x3)]) (st' := [.inl 0]) rfl ?_
    exact hR _ (Option.some.inj h).symm _ _ (jat ok_L_law_12 50 (pc := 1186) (i := .ireturn) (n := 1) rfl rfl)
def f_L_law_b18_j1187 (g : GX) (k1 : Option Nat) (k2 : Option Nat) (x3 : Int32) (ah : AH) : Option ((Int32 × AH) ⊕ (((Unit) × AH) ⊕ ((Int32) × AH))) :=
  if qO ah k1 5 = true then ((f_X5_upper k1 ah).bind fun q425 => if qO q425.2 k2 6 = true then ((f_X6_upper k2 q425.2).bind fun q428 => if (lg_cmp q425.1 q428.1) = 0 then (some (.inr (.inr (x3 + 6, q428.2)))) else (some (.inl (0, q428.2)))) else none) else none
set_option maxRecDepth 100000 in
set_option maxHeartbeats 4000000 in
theorem k_L_law_b18_j1187 {l : Launch} {g : GX} {nm : String} (d : Nat) {Q : jQ} {k1 : Option Nat} {k2 : Option Nat} {x3 : Int32} (ah : AH) (out : (Int32 × AH) ⊕ (((Unit) × AH) ⊕ ((Int32) × AH))) (h : f_L_law_b18_j1187 g k1 k2 x3 ah = some out) (hR : ∀ q, out = .inl q → jRetI l g (md_L_law nm) room_1 Q (77, 8152) q.1 q.2) (hX : ∀ q, out = .inr (.inl q) → J l g (md_L_law nm) room_1 Q 1294 [] [] q.2 (77, 8152)) (hN : ∀ q, out = .inr (.inr q) → J l g (md_L_law nm) room_1 Q 18 [(0, .inr (.inr (.inr false))), (1, .inr (.inr (.inl k1))), (2, .inr (.inr (.inl k2))), (3, .inl q.1)] [] q.2 (77, 8152)) : J l g (md_L_law nm) room_1 Q 1187 [(0, .inr (.inr (.inr false))), (1, .inr (.inr (.inl k1))), (2, .inr (.inr (.inl k2))), (3, .inl x3)] [] ah (77, 8152) := by
  unfold f_L_law_b18_j1187 at h
  refine J_seg ok_L_law_13 0 1 (pc' := 1188) (ls' := [(0, .inr (.inr (.inr false))), (1, .inr (.inr (.inl k1))), (2, .inr (.inr (.inl k2))), (3, .inl x3)]) (st' := [.inr (.inr (.inl k1))]) rfl ?_
  by_cases c427 : qO ah k1 5 = true
  case neg => exact absurd ((if_neg c427).symm.trans h) (by simp)
  have h := (if_pos c427).symm.trans h
  obtain ⟨q425, h426, h⟩ := Option.bind_eq_some_iff.mp h
  refine J_callV (md' := md_X5_upper) (As := []) (st := []) (cs' := (77, 8152)) (st' := [.inr (.inl q425.1)]) (jat ok_L_law_13 1 (pc := 1188) (i := .invokevirtual 158) (n := 3) rfl rfl) ml_RL_158 yv_X5_upper c427 (c_X5_upper l g 29 h426) (jRo_law (by decide) (by decide)) (Nat.le_of_ble_eq_true rfl) ⟨Nat.le_of_ble_eq_true rfl, Nat.le_of_ble_eq_true rfl⟩ rfl rfl rfl ?_
  refine J_seg ok_L_law_13 2 1 (pc' := 1192) (ls' := [(0, .inr (.inr (.inr false))), (1, .inr (.inr (.inl k1))), (2, .inr (.inr (.inl k2))), (3, .inl x3)]) (st' := [.inr (.inr (.inl k2)), .inr (.inl q425.1)]) rfl ?_
  by_cases c430 : qO q425.2 k2 6 = true
  case neg => exact absurd ((if_neg c430).symm.trans h) (by simp)
  have h := (if_pos c430).symm.trans h
  obtain ⟨q428, h429, h⟩ := Option.bind_eq_some_iff.mp h
  refine J_callV (md' := md_X6_upper) (As := []) (st := [.inr (.inl q425.1)]) (cs' := (77, 8152)) (st' := [.inr (.inl q428.1), .inr (.inl q425.1)]) (jat ok_L_law_13 3 (pc := 1192) (i := .invokevirtual 162) (n := 3) rfl rfl) ml_RL_162 yv_X6_upper c430 (c_X6_upper l g 29 h429) (jRo_law (by decide) (by decide)) (Nat.le_of_ble_eq_true rfl) ⟨Nat.le_of_ble_eq_true rfl, Nat.le_of_ble_eq_true rfl⟩ rfl rfl rfl ?_
  refine J_seg ok_L_law_13 4 1 (pc' := 1196) (ls' := [(0, .inr (.inr (.inr false))), (1, .inr (.inr (.inl k1))), (2, .inr (.inr (.inl k2))), (3, .inl x3)]) (st' := [.inl (lg_cmp q425.1 q428.1)]) rfl ?_
  refine J_eq0 (jat ok_L_law_13 5 (pc := 1196) (i := .ifCond .eq 92) (n := 3) rfl rfl) (tgt := 1288) (by decide) (fun c => ?_) (fun c => ?_)
  · have h := (if_pos c).symm.trans h
    refine J_seg ok_L_law_14 8 2 (pc' := 18) (ls' := [(3, .inl (x3 + 6)), (0, .inr (.inr (.inr false))), (1, .inr (.inr (.inl k1))), (2, .inr (.inr (.inl k2)))]) (st' := []) rfl ?_
    exact J_sub (ls' := [(0, .inr (.inr (.inr false))), (1, .inr (.inr (.inl k1))), (2, .inr (.inr (.inl k2))), (3, .inl (x3 + 6))]) [1, 2, 3, 0] rfl (hN (x3 + 6, q428.2) (Option.some.inj h).symm)
  · have h := (if_neg c).symm.trans h
    refine J_seg ok_L_law_13 6 1 (pc' := 1200) (ls' := [(0, .inr (.inr (.inr false))), (1, .inr (.inr (.inl k1))), (2, .inr (.inr (.inl k2))), (3, .inl x3)]) (st' := [.inl 0]) rfl ?_
    exact hR _ (Option.some.inj h).symm _ _ (jat ok_L_law_13 7 (pc := 1200) (i := .ireturn) (n := 1) rfl rfl)
def f_L_law_b18_j1201 (g : GX) (k1 : Option Nat) (k2 : Option Nat) (x3 : Int32) (ah : AH) : Option ((Int32 × AH) ⊕ (((Unit) × AH) ⊕ ((Int32) × AH))) :=
  if qO ah k1 5 = true then ((f_X5_lower k1 ah).bind fun q431 => if qO q431.2 k2 6 = true then ((f_X6_lower k2 q431.2).bind fun q434 => if (lg_cmp q431.1 q434.1) = 0 then (some (.inr (.inr (x3 + 6, q434.2)))) else (some (.inl (0, q434.2)))) else none) else none
set_option maxRecDepth 100000 in
set_option maxHeartbeats 4000000 in
theorem k_L_law_b18_j1201 {l : Launch} {g : GX} {nm : String} (d : Nat) {Q : jQ} {k1 : Option Nat} {k2 : Option Nat} {x3 : Int32} (ah : AH) (out : (Int32 × AH) ⊕ (((Unit) × AH) ⊕ ((Int32) × AH))) (h : f_L_law_b18_j1201 g k1 k2 x3 ah = some out) (hR : ∀ q, out = .inl q → jRetI l g (md_L_law nm) room_1 Q (77, 8152) q.1 q.2) (hX : ∀ q, out = .inr (.inl q) → J l g (md_L_law nm) room_1 Q 1294 [] [] q.2 (77, 8152)) (hN : ∀ q, out = .inr (.inr q) → J l g (md_L_law nm) room_1 Q 18 [(0, .inr (.inr (.inr false))), (1, .inr (.inr (.inl k1))), (2, .inr (.inr (.inl k2))), (3, .inl q.1)] [] q.2 (77, 8152)) : J l g (md_L_law nm) room_1 Q 1201 [(0, .inr (.inr (.inr false))), (1, .inr (.inr (.inl k1))), (2, .inr (.inr (.inl k2))), (3, .inl x3)] [] ah (77, 8152) := by
  unfold f_L_law_b18_j1201 at h
  refine J_seg ok_L_law_13 8 1 (pc' := 1202) (ls' := [(0, .inr (.inr (.inr false))), (1, .inr (.inr (.inl k1))), (2, .inr (.inr (.inl k2))), (3, .inl x3)]) (st' := [.inr (.inr (.inl k1))]) rfl ?_
  by_cases c433 : qO ah k1 5 = true
  case neg => exact absurd ((if_neg c433).symm.trans h) (by simp)
  have h := (if_pos c433).symm.trans h
  obtain ⟨q431, h432, h⟩ := Option.bind_eq_some_iff.mp h
  refine J_callV (md' := md_X5_lower) (As := []) (st := []) (cs' := (77, 8152)) (st' := [.inr (.inl q431.1)]) (jat ok_L_law_13 9 (pc := 1202) (i := .invokevirtual 163) (n := 3) rfl rfl) ml_RL_163 yv_X5_lower c433 (c_X5_lower l g 29 h432) (jRo_law (by decide) (by decide)) (Nat.le_of_ble_eq_true rfl) ⟨Nat.le_of_ble_eq_true rfl, Nat.le_of_ble_eq_true rfl⟩ rfl rfl rfl ?_
  refine J_seg ok_L_law_13 10 1 (pc' := 1206) (ls' := [(0, .inr (.inr (.inr false))), (1, .inr (.inr (.inl k1))), (2, .inr (.inr (.inl k2))), (3, .inl x3)]) (st' := [.inr (.inr (.inl k2)), .inr (.inl q431.1)]) rfl ?_
  by_cases c436 : qO q431.2 k2 6 = true
  case neg => exact absurd ((if_neg c436).symm.trans h) (by simp)
  have h := (if_pos c436).symm.trans h
  obtain ⟨q434, h435, h⟩ := Option.bind_eq_some_iff.mp h
  refine J_callV (md' := md_X6_lower) (As := []) (st := [.inr (.inl q431.1)]) (cs' := (77, 8152)) (st' := [.inr (.inl q434.1), .inr (.inl q431.1)]) (jat ok_L_law_13 11 (pc := 1206) (i := .invokevirtual 166) (n := 3) rfl rfl) ml_RL_166 yv_X6_lower c436 (c_X6_lower l g 29 h435) (jRo_law (by decide) (by decide)) (Nat.le_of_ble_eq_true rfl) ⟨Nat.le_of_ble_eq_true rfl, Nat.le_of_ble_eq_true rfl⟩ rfl rfl rfl ?_
  refine J_seg ok_L_law_13 12 1 (pc' := 1210) (ls' := [(0, .inr (.inr (.inr false))), (1, .inr (.inr (.inl k1))), (2, .inr (.inr (.inl k2))), (3, .inl x3)]) (st' := [.inl (lg_cmp q431.1 q434.1)]) rfl ?_
  refine J_eq0 (jat ok_L_law_13 13 (pc := 1210) (i := .ifCond .eq 78) (n := 3) rfl rfl) (tgt := 1288) (by decide) (fun c => ?_) (fun c => ?_)
  · have h := (if_pos c).symm.trans h
    refine J_seg ok_L_law_14 8 2 (pc' := 18) (ls' := [(3, .inl (x3 + 6)), (0, .inr (.inr (.inr false))), (1, .inr (.inr (.inl k1))), (2, .inr (.inr (.inl k2)))]) (st' := []) rfl ?_
    exact J_sub (ls' := [(0, .inr (.inr (.inr false))), (1, .inr (.inr (.inl k1))), (2, .inr (.inr (.inl k2))), (3, .inl (x3 + 6))]) [1, 2, 3, 0] rfl (hN (x3 + 6, q434.2) (Option.some.inj h).symm)
  · have h := (if_neg c).symm.trans h
    refine J_seg ok_L_law_13 14 1 (pc' := 1214) (ls' := [(0, .inr (.inr (.inr false))), (1, .inr (.inr (.inl k1))), (2, .inr (.inr (.inl k2))), (3, .inl x3)]) (st' := [.inl 0]) rfl ?_
    exact hR _ (Option.some.inj h).symm _ _ (jat ok_L_law_13 15 (pc := 1214) (i := .ireturn) (n := 1) rfl rfl)
def f_L_law_b18_j1215 (g : GX) (k1 : Option Nat) (k2 : Option Nat) (x3 : Int32) (ah : AH) : Option ((Int32 × AH) ⊕ (((Unit) × AH) ⊕ ((Int32) × AH))) :=
  (gS g (x3 + 1)).bind fun v437 => if qO ah k1 5 = true then ((f_X5_count k1 v437 ah).bind fun q439 => (gS g (x3 + 1)).bind fun v442 => if qO q439.2 k2 6 = true then ((f_X6_count k2 v442 q439.2).bind fun q444 => if q439.1 = q444.1 then (some (.inr (.inr (x3 + 6, q444.2)))) else (some (.inl (0, q444.2)))) else none) else none
set_option maxRecDepth 100000 in
set_option maxHeartbeats 4000000 in
theorem k_L_law_b18_j1215 {l : Launch} {g : GX} {nm : String} (d : Nat) {Q : jQ} {k1 : Option Nat} {k2 : Option Nat} {x3 : Int32} (ah : AH) (out : (Int32 × AH) ⊕ (((Unit) × AH) ⊕ ((Int32) × AH))) (h : f_L_law_b18_j1215 g k1 k2 x3 ah = some out) (hR : ∀ q, out = .inl q → jRetI l g (md_L_law nm) room_1 Q (77, 8152) q.1 q.2) (hX : ∀ q, out = .inr (.inl q) → J l g (md_L_law nm) room_1 Q 1294 [] [] q.2 (77, 8152)) (hN : ∀ q, out = .inr (.inr q) → J l g (md_L_law nm) room_1 Q 18 [(0, .inr (.inr (.inr false))), (1, .inr (.inr (.inl k1))), (2, .inr (.inr (.inl k2))), (3, .inl q.1)] [] q.2 (77, 8152)) : J l g (md_L_law nm) room_1 Q 1215 [(0, .inr (.inr (.inr false))), (1, .inr (.inr (.inl k1))), (2, .inr (.inr (.inl k2))), (3, .inl x3)] [] ah (77, 8152) := by
  unfold f_L_law_b18_j1215 at h
  refine J_seg ok_L_law_13 16 5 (pc' := 1220) (ls' := [(0, .inr (.inr (.inr false))), (1, .inr (.inr (.inl k1))), (2, .inr (.inr (.inl k2))), (3, .inl x3)]) (st' := [.inl (x3 + 1), .inr (.inr (.inr false)), .inr (.inr (.inl k1))]) rfl ?_
  obtain ⟨v437, h438, h⟩ := Option.bind_eq_some_iff.mp h
  refine J_sget (jat ok_L_law_13 21 (pc := 1220) (i := .iaload) (n := 1) rfl rfl) h438 ?_
  by_cases c441 : qO ah k1 5 = true
  case neg => exact absurd ((if_neg c441).symm.trans h) (by simp)
  have h := (if_pos c441).symm.trans h
  obtain ⟨q439, h440, h⟩ := Option.bind_eq_some_iff.mp h
  refine J_callV (md' := md_X5_count) (As := [.inl v437]) (st := []) (cs' := (77, 8152)) (st' := [.inl q439.1]) (jat ok_L_law_13 22 (pc := 1221) (i := .invokevirtual 167) (n := 3) rfl rfl) ml_RL_167 yv_X5_count c441 (c_X5_count l g 25 h440) (jRo_law (by decide) (by decide)) (Nat.le_of_ble_eq_true rfl) ⟨Nat.le_of_ble_eq_true rfl, Nat.le_of_ble_eq_true rfl⟩ rfl rfl rfl ?_
  refine J_seg ok_L_law_13 23 5 (pc' := 1229) (ls' := [(0, .inr (.inr (.inr false))), (1, .inr (.inr (.inl k1))), (2, .inr (.inr (.inl k2))), (3, .inl x3)]) (st' := [.inl (x3 + 1), .inr (.inr (.inr false)), .inr (.inr (.inl k2)), .inl q439.1]) rfl ?_
  obtain ⟨v442, h443, h⟩ := Option.bind_eq_some_iff.mp h
  refine J_sget (jat ok_L_law_13 28 (pc := 1229) (i := .iaload) (n := 1) rfl rfl) h443 ?_
  by_cases c446 : qO q439.2 k2 6 = true
  case neg => exact absurd ((if_neg c446).symm.trans h) (by simp)
  have h := (if_pos c446).symm.trans h
  obtain ⟨q444, h445, h⟩ := Option.bind_eq_some_iff.mp h
  refine J_callV (md' := md_X6_count) (As := [.inl v442]) (st := [.inl q439.1]) (cs' := (77, 8152)) (st' := [.inl q444.1, .inl q439.1]) (jat ok_L_law_13 29 (pc := 1230) (i := .invokevirtual 170) (n := 3) rfl rfl) ml_RL_170 yv_X6_count c446 (c_X6_count l g 26 h445) (jRo_law (by decide) (by decide)) (Nat.le_of_ble_eq_true rfl) ⟨Nat.le_of_ble_eq_true rfl, Nat.le_of_ble_eq_true rfl⟩ rfl rfl rfl ?_
  refine J_eq (jat ok_L_law_13 30 (pc := 1233) (i := .if_icmp .eq 55) (n := 3) rfl rfl) (tgt := 1288) (by decide) (fun c => ?_) (fun c => ?_)
  · have h := (if_pos c).symm.trans h
    refine J_seg ok_L_law_14 8 2 (pc' := 18) (ls' := [(3, .inl (x3 + 6)), (0, .inr (.inr (.inr false))), (1, .inr (.inr (.inl k1))), (2, .inr (.inr (.inl k2)))]) (st' := []) rfl ?_
    exact J_sub (ls' := [(0, .inr (.inr (.inr false))), (1, .inr (.inr (.inl k1))), (2, .inr (.inr (.inl k2))), (3, .inl (x3 + 6))]) [1, 2, 3, 0] rfl (hN (x3 + 6, q444.2) (Option.some.inj h).symm)
  · have h := (if_neg c).symm.trans h
    refine J_seg ok_L_law_13 31 1 (pc' := 1237) (ls' := [(0, .inr (.inr (.inr false))), (1, .inr (.inr (.inl k1))), (2, .inr (.inr (.inl k2))), (3, .inl x3)]) (st' := [.inl 0]) rfl ?_
    exact hR _ (Option.some.inj h).symm _ _ (jat ok_L_law_13 32 (pc := 1237) (i := .ireturn) (n := 1) rfl rfl)
def f_L_law_b18_j1238 (g : GX) (k1 : Option Nat) (k2 : Option Nat) (x3 : Int32) (ah : AH) : Option ((Int32 × AH) ⊕ (((Unit) × AH) ⊕ ((Int32) × AH))) :=
  if qO ah k1 5 = true then ((f_X5_finding k1 ah).bind fun q447 => if qO q447.2 k2 6 = true then ((f_X6_finding k2 q447.2).bind fun q450 => if q447.1 = q450.1 then (some (.inr (.inr (x3 + 6, q450.2)))) else (some (.inl (0, q450.2)))) else none) else none
set_option maxRecDepth 100000 in
set_option maxHeartbeats 4000000 in
theorem k_L_law_b18_j1238 {l : Launch} {g : GX} {nm : String} (d : Nat) {Q : jQ} {k1 : Option Nat} {k2 : Option Nat} {x3 : Int32} (ah : AH) (out : (Int32 × AH) ⊕ (((Unit) × AH) ⊕ ((Int32) × AH))) (h : f_L_law_b18_j1238 g k1 k2 x3 ah = some out) (hR : ∀ q, out = .inl q → jRetI l g (md_L_law nm) room_1 Q (77, 8152) q.1 q.2) (hX : ∀ q, out = .inr (.inl q) → J l g (md_L_law nm) room_1 Q 1294 [] [] q.2 (77, 8152)) (hN : ∀ q, out = .inr (.inr q) → J l g (md_L_law nm) room_1 Q 18 [(0, .inr (.inr (.inr false))), (1, .inr (.inr (.inl k1))), (2, .inr (.inr (.inl k2))), (3, .inl q.1)] [] q.2 (77, 8152)) : J l g (md_L_law nm) room_1 Q 1238 [(0, .inr (.inr (.inr false))), (1, .inr (.inr (.inl k1))), (2, .inr (.inr (.inl k2))), (3, .inl x3)] [] ah (77, 8152) := by
  unfold f_L_law_b18_j1238 at h
  refine J_seg ok_L_law_13 33 1 (pc' := 1239) (ls' := [(0, .inr (.inr (.inr false))), (1, .inr (.inr (.inl k1))), (2, .inr (.inr (.inl k2))), (3, .inl x3)]) (st' := [.inr (.inr (.inl k1))]) rfl ?_
  by_cases c449 : qO ah k1 5 = true
  case neg => exact absurd ((if_neg c449).symm.trans h) (by simp)
  have h := (if_pos c449).symm.trans h
  obtain ⟨q447, h448, h⟩ := Option.bind_eq_some_iff.mp h
  refine J_callV (md' := md_X5_finding) (As := []) (st := []) (cs' := (77, 8152)) (st' := [.inl q447.1]) (jat ok_L_law_13 34 (pc := 1239) (i := .invokevirtual 171) (n := 3) rfl rfl) ml_RL_171 yv_X5_finding c449 (c_X5_finding l g 29 h448) (jRo_law (by decide) (by decide)) (Nat.le_of_ble_eq_true rfl) ⟨Nat.le_of_ble_eq_true rfl, Nat.le_of_ble_eq_true rfl⟩ rfl rfl rfl ?_
  refine J_seg ok_L_law_13 35 1 (pc' := 1243) (ls' := [(0, .inr (.inr (.inr false))), (1, .inr (.inr (.inl k1))), (2, .inr (.inr (.inl k2))), (3, .inl x3)]) (st' := [.inr (.inr (.inl k2)), .inl q447.1]) rfl ?_
  by_cases c452 : qO q447.2 k2 6 = true
  case neg => exact absurd ((if_neg c452).symm.trans h) (by simp)
  have h := (if_pos c452).symm.trans h
  obtain ⟨q450, h451, h⟩ := Option.bind_eq_some_iff.mp h
  refine J_callV (md' := md_X6_finding) (As := []) (st := [.inl q447.1]) (cs' := (77, 8152)) (st' := [.inl q450.1, .inl q447.1]) (jat ok_L_law_13 36 (pc := 1243) (i := .invokevirtual 174) (n := 3) rfl rfl) ml_RL_174 yv_X6_finding c452 (c_X6_finding l g 29 h451) (jRo_law (by decide) (by decide)) (Nat.le_of_ble_eq_true rfl) ⟨Nat.le_of_ble_eq_true rfl, Nat.le_of_ble_eq_true rfl⟩ rfl rfl rfl ?_
  refine J_eq (jat ok_L_law_13 37 (pc := 1246) (i := .if_icmp .eq 42) (n := 3) rfl rfl) (tgt := 1288) (by decide) (fun c => ?_) (fun c => ?_)
  · have h := (if_pos c).symm.trans h
    refine J_seg ok_L_law_14 8 2 (pc' := 18) (ls' := [(3, .inl (x3 + 6)), (0, .inr (.inr (.inr false))), (1, .inr (.inr (.inl k1))), (2, .inr (.inr (.inl k2)))]) (st' := []) rfl ?_
    exact J_sub (ls' := [(0, .inr (.inr (.inr false))), (1, .inr (.inr (.inl k1))), (2, .inr (.inr (.inl k2))), (3, .inl (x3 + 6))]) [1, 2, 3, 0] rfl (hN (x3 + 6, q450.2) (Option.some.inj h).symm)
  · have h := (if_neg c).symm.trans h
    refine J_seg ok_L_law_13 38 1 (pc' := 1250) (ls' := [(0, .inr (.inr (.inr false))), (1, .inr (.inr (.inl k1))), (2, .inr (.inr (.inl k2))), (3, .inl x3)]) (st' := [.inl 0]) rfl ?_
    exact hR _ (Option.some.inj h).symm _ _ (jat ok_L_law_13 39 (pc := 1250) (i := .ireturn) (n := 1) rfl rfl)
def f_L_law_b18_j1251 (g : GX) (k1 : Option Nat) (k2 : Option Nat) (x3 : Int32) (ah : AH) : Option ((Int32 × AH) ⊕ (((Unit) × AH) ⊕ ((Int32) × AH))) :=
  (gS g (x3 + 1)).bind fun v453 => if qO ah k1 5 = true then ((f_X5_findings k1 v453 ah).bind fun q455 => (gS g (x3 + 1)).bind fun v458 => if qO q455.2 k2 6 = true then ((f_X6_findings k2 v458 q455.2).bind fun q460 => if q455.1 = q460.1 then (some (.inr (.inr (x3 + 6, q460.2)))) else (some (.inl (0, q460.2)))) else none) else none
set_option maxRecDepth 100000 in
set_option maxHeartbeats 4000000 in
theorem k_L_law_b18_j1251 {l : Launch} {g : GX} {nm : String} (d : Nat) {Q : jQ} {k1 : Option Nat} {k2 : Option Nat} {x3 : Int32} (ah : AH) (out : (Int32 × AH) ⊕ (((Unit) × AH) ⊕ ((Int32) × AH))) (h : f_L_law_b18_j1251 g k1 k2 x3 ah = some out) (hR : ∀ q, out = .inl q → jRetI l g (md_L_law nm) room_1 Q (77, 8152) q.1 q.2) (hX : ∀ q, out = .inr (.inl q) → J l g (md_L_law nm) room_1 Q 1294 [] [] q.2 (77, 8152)) (hN : ∀ q, out = .inr (.inr q) → J l g (md_L_law nm) room_1 Q 18 [(0, .inr (.inr (.inr false))), (1, .inr (.inr (.inl k1))), (2, .inr (.inr (.inl k2))), (3, .inl q.1)] [] q.2 (77, 8152)) : J l g (md_L_law nm) room_1 Q 1251 [(0, .inr (.inr (.inr false))), (1, .inr (.inr (.inl k1))), (2, .inr (.inr (.inl k2))), (3, .inl x3)] [] ah (77, 8152) := by
  unfold f_L_law_b18_j1251 at h
  refine J_seg ok_L_law_13 40 5 (pc' := 1256) (ls' := [(0, .inr (.inr (.inr false))), (1, .inr (.inr (.inl k1))), (2, .inr (.inr (.inl k2))), (3, .inl x3)]) (st' := [.inl (x3 + 1), .inr (.inr (.inr false)), .inr (.inr (.inl k1))]) rfl ?_
  obtain ⟨v453, h454, h⟩ := Option.bind_eq_some_iff.mp h
  refine J_sget (jat ok_L_law_13 45 (pc := 1256) (i := .iaload) (n := 1) rfl rfl) h454 ?_
  by_cases c457 : qO ah k1 5 = true
  case neg => exact absurd ((if_neg c457).symm.trans h) (by simp)
  have h := (if_pos c457).symm.trans h
  obtain ⟨q455, h456, h⟩ := Option.bind_eq_some_iff.mp h
  refine J_callV (md' := md_X5_findings) (As := [.inl v453]) (st := []) (cs' := (77, 8152)) (st' := [.inl q455.1]) (jat ok_L_law_13 46 (pc := 1257) (i := .invokevirtual 175) (n := 3) rfl rfl) ml_RL_175 yv_X5_findings c457 (c_X5_findings l g 29 h456) (jRo_law (by decide) (by decide)) (Nat.le_of_ble_eq_true rfl) ⟨Nat.le_of_ble_eq_true rfl, Nat.le_of_ble_eq_true rfl⟩ rfl rfl rfl ?_
  refine J_seg ok_L_law_13 47 5 (pc' := 1265) (ls' := [(0, .inr (.inr (.inr false))), (1, .inr (.inr (.inl k1))), (2, .inr (.inr (.inl k2))), (3, .inl x3)]) (st' := [.inl (x3 + 1), .inr (.inr (.inr false)), .inr (.inr (.inl k2)), .inl q455.1]) rfl ?_
  obtain ⟨v458, h459, h⟩ := Option.bind_eq_some_iff.mp h
  refine J_sget (jat ok_L_law_13 52 (pc := 1265) (i := .iaload) (n := 1) rfl rfl) h459 ?_
  by_cases c462 : qO q455.2 k2 6 = true
  case neg => exact absurd ((if_neg c462).symm.trans h) (by simp)
  have h := (if_pos c462).symm.trans h
  obtain ⟨q460, h461, h⟩ := Option.bind_eq_some_iff.mp h
  refine J_callV (md' := md_X6_findings) (As := [.inl v458]) (st := [.inl q455.1]) (cs' := (77, 8152)) (st' := [.inl q460.1, .inl q455.1]) (jat ok_L_law_13 53 (pc := 1266) (i := .invokevirtual 178) (n := 3) rfl rfl) ml_RL_178 yv_X6_findings c462 (c_X6_findings l g 28 h461) (jRo_law (by decide) (by decide)) (Nat.le_of_ble_eq_true rfl) ⟨Nat.le_of_ble_eq_true rfl, Nat.le_of_ble_eq_true rfl⟩ rfl rfl rfl ?_
  refine J_eq (jat ok_L_law_13 54 (pc := 1269) (i := .if_icmp .eq 19) (n := 3) rfl rfl) (tgt := 1288) (by decide) (fun c => ?_) (fun c => ?_)
  · have h := (if_pos c).symm.trans h
    refine J_seg ok_L_law_14 8 2 (pc' := 18) (ls' := [(3, .inl (x3 + 6)), (0, .inr (.inr (.inr false))), (1, .inr (.inr (.inl k1))), (2, .inr (.inr (.inl k2)))]) (st' := []) rfl ?_
    exact J_sub (ls' := [(0, .inr (.inr (.inr false))), (1, .inr (.inr (.inl k1))), (2, .inr (.inr (.inl k2))), (3, .inl (x3 + 6))]) [1, 2, 3, 0] rfl (hN (x3 + 6, q460.2) (Option.some.inj h).symm)
  · have h := (if_neg c).symm.trans h
    refine J_seg ok_L_law_13 55 1 (pc' := 1273) (ls' := [(0, .inr (.inr (.inr false))), (1, .inr (.inr (.inl k1))), (2, .inr (.inr (.inl k2))), (3, .inl x3)]) (st' := [.inl 0]) rfl ?_
    exact hR _ (Option.some.inj h).symm _ _ (jat ok_L_law_13 56 (pc := 1273) (i := .ireturn) (n := 1) rfl rfl)
def f_L_law_b18_j1274 (g : GX) (k1 : Option Nat) (k2 : Option Nat) (x3 : Int32) (ah : AH) : Option ((Int32 × AH) ⊕ (((Unit) × AH) ⊕ ((Int32) × AH))) :=
  if qO ah k1 5 = true then ((f_X5_digest k1 ah).bind fun q463 => if qO q463.2 k2 6 = true then ((f_X6_digest k2 q463.2).bind fun q466 => if (lg_cmp q463.1 q466.1) = 0 then (some (.inr (.inr (x3 + 6, q466.2)))) else (some (.inl (0, q466.2)))) else none) else none
set_option maxRecDepth 100000 in
set_option maxHeartbeats 4000000 in
theorem k_L_law_b18_j1274 {l : Launch} {g : GX} {nm : String} (d : Nat) {Q : jQ} {k1 : Option Nat} {k2 : Option Nat} {x3 : Int32} (ah : AH) (out : (Int32 × AH) ⊕ (((Unit) × AH) ⊕ ((Int32) × AH))) (h : f_L_law_b18_j1274 g k1 k2 x3 ah = some out) (hR : ∀ q, out = .inl q → jRetI l g (md_L_law nm) room_1 Q (77, 8152) q.1 q.2) (hX : ∀ q, out = .inr (.inl q) → J l g (md_L_law nm) room_1 Q 1294 [] [] q.2 (77, 8152)) (hN : ∀ q, out = .inr (.inr q) → J l g (md_L_law nm) room_1 Q 18 [(0, .inr (.inr (.inr false))), (1, .inr (.inr (.inl k1))), (2, .inr (.inr (.inl k2))), (3, .inl q.1)] [] q.2 (77, 8152)) : J l g (md_L_law nm) room_1 Q 1274 [(0, .inr (.inr (.inr false))), (1, .inr (.inr (.inl k1))), (2, .inr (.inr (.inl k2))), (3, .inl x3)] [] ah (77, 8152) := by
  unfold f_L_law_b18_j1274 at h
  refine J_seg ok_L_law_14 0 1 (pc' := 1275) (ls' := [(0, .inr (.inr (.inr false))), (1, .inr (.inr (.inl k1))), (2, .inr (.inr (.inl k2))), (3, .inl x3)]) (st' := [.inr (.inr (.inl k1))]) rfl ?_
  by_cases c465 : qO ah k1 5 = true
  case neg => exact absurd ((if_neg c465).symm.trans h) (by simp)
  have h := (if_pos c465).symm.trans h
  obtain ⟨q463, h464, h⟩ := Option.bind_eq_some_iff.mp h
  refine J_callV (md' := md_X5_digest) (As := []) (st := []) (cs' := (77, 8152)) (st' := [.inr (.inl q463.1)]) (jat ok_L_law_14 1 (pc := 1275) (i := .invokevirtual 179) (n := 3) rfl rfl) ml_RL_179 yv_X5_digest c465 (c_X5_digest l g 24 h464) (jRo_law (by decide) (by decide)) (Nat.le_of_ble_eq_true rfl) ⟨Nat.le_of_ble_eq_true rfl, Nat.le_of_ble_eq_true rfl⟩ rfl rfl rfl ?_
  refine J_seg ok_L_law_14 2 1 (pc' := 1279) (ls' := [(0, .inr (.inr (.inr false))), (1, .inr (.inr (.inl k1))), (2, .inr (.inr (.inl k2))), (3, .inl x3)]) (st' := [.inr (.inr (.inl k2)), .inr (.inl q463.1)]) rfl ?_
  by_cases c468 : qO q463.2 k2 6 = true
  case neg => exact absurd ((if_neg c468).symm.trans h) (by simp)
  have h := (if_pos c468).symm.trans h
  obtain ⟨q466, h467, h⟩ := Option.bind_eq_some_iff.mp h
  refine J_callV (md' := md_X6_digest) (As := []) (st := [.inr (.inl q463.1)]) (cs' := (77, 8152)) (st' := [.inr (.inl q466.1), .inr (.inl q463.1)]) (jat ok_L_law_14 3 (pc := 1279) (i := .invokevirtual 182) (n := 3) rfl rfl) ml_RL_182 yv_X6_digest c468 (c_X6_digest l g 26 h467) (jRo_law (by decide) (by decide)) (Nat.le_of_ble_eq_true rfl) ⟨Nat.le_of_ble_eq_true rfl, Nat.le_of_ble_eq_true rfl⟩ rfl rfl rfl ?_
  refine J_seg ok_L_law_14 4 1 (pc' := 1283) (ls' := [(0, .inr (.inr (.inr false))), (1, .inr (.inr (.inl k1))), (2, .inr (.inr (.inl k2))), (3, .inl x3)]) (st' := [.inl (lg_cmp q463.1 q466.1)]) rfl ?_
  refine J_eq0 (jat ok_L_law_14 5 (pc := 1283) (i := .ifCond .eq 5) (n := 3) rfl rfl) (tgt := 1288) (by decide) (fun c => ?_) (fun c => ?_)
  · have h := (if_pos c).symm.trans h
    refine J_seg ok_L_law_14 8 2 (pc' := 18) (ls' := [(3, .inl (x3 + 6)), (0, .inr (.inr (.inr false))), (1, .inr (.inr (.inl k1))), (2, .inr (.inr (.inl k2)))]) (st' := []) rfl ?_
    exact J_sub (ls' := [(0, .inr (.inr (.inr false))), (1, .inr (.inr (.inl k1))), (2, .inr (.inr (.inl k2))), (3, .inl (x3 + 6))]) [1, 2, 3, 0] rfl (hN (x3 + 6, q466.2) (Option.some.inj h).symm)
  · have h := (if_neg c).symm.trans h
    refine J_seg ok_L_law_14 6 1 (pc' := 1287) (ls' := [(0, .inr (.inr (.inr false))), (1, .inr (.inr (.inl k1))), (2, .inr (.inr (.inl k2))), (3, .inl x3)]) (st' := [.inl 0]) rfl ?_
    exact hR _ (Option.some.inj h).symm _ _ (jat ok_L_law_14 7 (pc := 1287) (i := .ireturn) (n := 1) rfl rfl)
def f_L_law_b18 (g : GX) (k1 : Option Nat) (k2 : Option Nat) (s18 : Int32) (ah : AH) : Option ((Int32 × AH) ⊕ (((Unit) × AH) ⊕ ((Int32) × AH))) :=
  if ((Int32.ofNat (jL g)) - 6) < s18 then (some (.inr (.inl ((), ah)))) else ((gS g s18).bind fun v5 => if (v5 &&& 63) = 0 then (f_L_law_b18_j212 g k1 k2 s18 ah) else (if (v5 &&& 63) = 1 then (f_L_law_b18_j245 g k1 k2 s18 ah) else (if (v5 &&& 63) = 2 then (f_L_law_b18_j288 g k1 k2 s18 ah) else (if (v5 &&& 63) = 3 then (f_L_law_b18_j321 g k1 k2 s18 ah) else (if (v5 &&& 63) = 4 then (f_L_law_b18_j344 g k1 k2 s18 ah) else (if (v5 &&& 63) = 5 then (f_L_law_b18_j407 g k1 k2 s18 ah) else (if (v5 &&& 63) = 6 then (f_L_law_b18_j430 g k1 k2 s18 ah) else (if (v5 &&& 63) = 7 then (f_L_law_b18_j463 g k1 k2 s18 ah) else (if (v5 &&& 63) = 8 then (f_L_law_b18_j506 g k1 k2 s18 ah) else (if (v5 &&& 63) = 9 then (f_L_law_b18_j529 g k1 k2 s18 ah) else (if (v5 &&& 63) = 10 then (f_L_law_b18_j552 g k1 k2 s18 ah) else (if (v5 &&& 63) = 11 then (f_L_law_b18_j585 g k1 k2 s18 ah) else (if (v5 &&& 63) = 12 then (f_L_law_b18_j618 g k1 k2 s18 ah) else (if (v5 &&& 63) = 13 then (f_L_law_b18_j651 g k1 k2 s18 ah) else (if (v5 &&& 63) = 14 then (f_L_law_b18_j674 g k1 k2 s18 ah) else (if (v5 &&& 63) = 15 then (f_L_law_b18_j707 g k1 k2 s18 ah) else (if (v5 &&& 63) = 16 then (f_L_law_b18_j730 g k1 k2 s18 ah) else (if (v5 &&& 63) = 17 then (f_L_law_b18_j753 g k1 k2 s18 ah) else (if (v5 &&& 63) = 18 then (f_L_law_b18_j776 g k1 k2 s18 ah) else (if (v5 &&& 63) = 19 then (f_L_law_b18_j789 g k1 k2 s18 ah) else (if (v5 &&& 63) = 20 then (f_L_law_b18_j812 g k1 k2 s18 ah) else (if (v5 &&& 63) = 21 then (f_L_law_b18_j825 g k1 k2 s18 ah) else (if (v5 &&& 63) = 22 then (f_L_law_b18_j858 g k1 k2 s18 ah) else (if (v5 &&& 63) = 23 then (f_L_law_b18_j891 g k1 k2 s18 ah) else (if (v5 &&& 63) = 24 then (f_L_law_b18_j924 g k1 k2 s18 ah) else (if (v5 &&& 63) = 25 then (f_L_law_b18_j937 g k1 k2 s18 ah) else (if (v5 &&& 63) = 26 then (f_L_law_b18_j960 g k1 k2 s18 ah) else (if (v5 &&& 63) = 27 then (f_L_law_b18_j983 g k1 k2 s18 ah) else (if (v5 &&& 63) = 28 then (f_L_law_b18_j996 g k1 k2 s18 ah) else (if (v5 &&& 63) = 29 then (f_L_law_b18_j1029 g k1 k2 s18 ah) else (if (v5 &&& 63) = 30 then (f_L_law_b18_j1062 g k1 k2 s18 ah) else (if (v5 &&& 63) = 31 then (f_L_law_b18_j1085 g k1 k2 s18 ah) else (if (v5 &&& 63) = 32 then (f_L_law_b18_j1118 g k1 k2 s18 ah) else (if (v5 &&& 63) = 33 then (f_L_law_b18_j1141 g k1 k2 s18 ah) else (if (v5 &&& 63) = 34 then (f_L_law_b18_j1174 g k1 k2 s18 ah) else (if (v5 &&& 63) = 35 then (f_L_law_b18_j1187 g k1 k2 s18 ah) else (if (v5 &&& 63) = 36 then (f_L_law_b18_j1201 g k1 k2 s18 ah) else (if (v5 &&& 63) = 37 then (f_L_law_b18_j1215 g k1 k2 s18 ah) else (if (v5 &&& 63) = 38 then (f_L_law_b18_j1238 g k1 k2 s18 ah) else (if (v5 &&& 63) = 39 then (f_L_law_b18_j1251 g k1 k2 s18 ah) else (if (v5 &&& 63) = 40 then (f_L_law_b18_j1274 g k1 k2 s18 ah) else (some (.inr (.inr (s18 + 6, ah)))))))))))))))))))))))))))))))))))))))))))))
set_option maxRecDepth 100000 in
set_option maxHeartbeats 4000000 in
theorem k_L_law_b18 {l : Launch} {g : GX} {nm : String} (d : Nat) {Q : jQ} {k1 : Option Nat} {k2 : Option Nat} (s18 : Int32) (ah : AH) (out : (Int32 × AH) ⊕ (((Unit) × AH) ⊕ ((Int32) × AH))) (h : f_L_law_b18 g k1 k2 s18 ah = some out) (hR : ∀ q, out = .inl q → jRetI l g (md_L_law nm) room_1 Q (77, 8152) q.1 q.2) (hX : ∀ q, out = .inr (.inl q) → J l g (md_L_law nm) room_1 Q 1294 [] [] q.2 (77, 8152)) (hN : ∀ q, out = .inr (.inr q) → J l g (md_L_law nm) room_1 Q 18 [(0, .inr (.inr (.inr false))), (1, .inr (.inr (.inl k1))), (2, .inr (.inr (.inl k2))), (3, .inl q.1)] [] q.2 (77, 8152)) : J l g (md_L_law nm) room_1 Q 18 [(0, .inr (.inr (.inr false))), (1, .inr (.inr (.inl k1))), (2, .inr (.inr (.inl k2))), (3, .inl s18)] [] ah (77, 8152) := by
  unfold f_L_law_b18 at h
  refine J_seg ok_L_law_0 10 2 (pc' := 20) (ls' := [(0, .inr (.inr (.inr false))), (1, .inr (.inr (.inl k1))), (2, .inr (.inr (.inl k2))), (3, .inl s18)]) (st' := [.inr (.inr (.inr false)), .inl s18]) rfl ?_
  refine J_slen (jat ok_L_law_0 12 (pc := 20) (i := .arraylength) (n := 1) rfl rfl) ?_
  refine J_seg ok_L_law_0 13 2 (pc' := 24) (ls' := [(0, .inr (.inr (.inr false))), (1, .inr (.inr (.inl k1))), (2, .inr (.inr (.inl k2))), (3, .inl s18)]) (st' := [.inl ((Int32.ofNat (jL g)) - 6), .inl s18]) rfl ?_
  refine J_gt (jat ok_L_law_0 15 (pc := 24) (i := .if_icmp .gt 1270) (n := 3) rfl rfl) (tgt := 1294) (by decide) (fun c => ?_) (fun c => ?_)
  · have h := (if_pos c).symm.trans h
    exact J_sub (ls' := []) [] rfl (hX ((), ah) (Option.some.inj h).symm)
  · have h := (if_neg c).symm.trans h
    refine J_seg ok_L_law_0 16 2 (pc' := 29) (ls' := [(0, .inr (.inr (.inr false))), (1, .inr (.inr (.inl k1))), (2, .inr (.inr (.inl k2))), (3, .inl s18)]) (st' := [.inl s18, .inr (.inr (.inr false))]) rfl ?_
    obtain ⟨v5, h6, h⟩ := Option.bind_eq_some_iff.mp h
    refine J_sget (jat ok_L_law_0 18 (pc := 29) (i := .iaload) (n := 1) rfl rfl) h6 ?_
    refine J_seg ok_L_law_0 19 2 (pc' := 33) (ls' := [(0, .inr (.inr (.inr false))), (1, .inr (.inr (.inl k1))), (2, .inr (.inr (.inl k2))), (3, .inl s18)]) (st' := [.inl (v5 &&& 63)]) rfl ?_
    by_cases c0 : (v5 &&& 63) = 0
    · have h := (if_pos c0).symm.trans h
      refine J_tabIn sw_L_law_33 (off := 179) (tgt := 212) (by rw [c0]; decide) (by rw [c0]; decide) (by rw [c0]; decide) (by decide) ?_
      refine J_sub (ls' := [(0, .inr (.inr (.inr false))), (1, .inr (.inr (.inl k1))), (2, .inr (.inr (.inl k2))), (3, .inl s18)]) [0, 1, 2, 3] rfl ?_
      exact k_L_law_b18_j212 d _ _ h hR hX hN
    · have h := (if_neg c0).symm.trans h
      by_cases c1 : (v5 &&& 63) = 1
      · have h := (if_pos c1).symm.trans h
        refine J_tabIn sw_L_law_33 (off := 212) (tgt := 245) (by rw [c1]; decide) (by rw [c1]; decide) (by rw [c1]; decide) (by decide) ?_
        refine J_sub (ls' := [(0, .inr (.inr (.inr false))), (1, .inr (.inr (.inl k1))), (2, .inr (.inr (.inl k2))), (3, .inl s18)]) [0, 1, 2, 3] rfl ?_
        exact k_L_law_b18_j245 d _ _ h hR hX hN
      · have h := (if_neg c1).symm.trans h
        by_cases c2 : (v5 &&& 63) = 2
        · have h := (if_pos c2).symm.trans h
          refine J_tabIn sw_L_law_33 (off := 255) (tgt := 288) (by rw [c2]; decide) (by rw [c2]; decide) (by rw [c2]; decide) (by decide) ?_
          refine J_sub (ls' := [(0, .inr (.inr (.inr false))), (1, .inr (.inr (.inl k1))), (2, .inr (.inr (.inl k2))), (3, .inl s18)]) [0, 1, 2, 3] rfl ?_
          exact k_L_law_b18_j288 d _ _ h hR hX hN
        · have h := (if_neg c2).symm.trans h
          by_cases c3 : (v5 &&& 63) = 3
          · have h := (if_pos c3).symm.trans h
            refine J_tabIn sw_L_law_33 (off := 288) (tgt := 321) (by rw [c3]; decide) (by rw [c3]; decide) (by rw [c3]; decide) (by decide) ?_
            refine J_sub (ls' := [(0, .inr (.inr (.inr false))), (1, .inr (.inr (.inl k1))), (2, .inr (.inr (.inl k2))), (3, .inl s18)]) [0, 1, 2, 3] rfl ?_
            exact k_L_law_b18_j321 d _ _ h hR hX hN
          · have h := (if_neg c3).symm.trans h
            by_cases c4 : (v5 &&& 63) = 4
            · have h := (if_pos c4).symm.trans h
              refine J_tabIn sw_L_law_33 (off := 311) (tgt := 344) (by rw [c4]; decide) (by rw [c4]; decide) (by rw [c4]; decide) (by decide) ?_
              refine J_sub (ls' := [(0, .inr (.inr (.inr false))), (1, .inr (.inr (.inl k1))), (2, .inr (.inr (.inl k2))), (3, .inl s18)]) [0, 1, 2, 3] rfl ?_
              exact k_L_law_b18_j344 d _ _ h hR hX hN
            · have h := (if_neg c4).symm.trans h
              by_cases c5 : (v5 &&& 63) = 5
              · have h := (if_pos c5).symm.trans h
                refine J_tabIn sw_L_law_33 (off := 374) (tgt := 407) (by rw [c5]; decide) (by rw [c5]; decide) (by rw [c5]; decide) (by decide) ?_
                refine J_sub (ls' := [(0, .inr (.inr (.inr false))), (1, .inr (.inr (.inl k1))), (2, .inr (.inr (.inl k2))), (3, .inl s18)]) [0, 1, 2, 3] rfl ?_
                exact k_L_law_b18_j407 d _ _ h hR hX hN
              · have h := (if_neg c5).symm.trans h
                by_cases c6 : (v5 &&& 63) = 6
                · have h := (if_pos c6).symm.trans h
                  refine J_tabIn sw_L_law_33 (off := 397) (tgt := 430) (by rw [c6]; decide) (by rw [c6]; decide) (by rw [c6]; decide) (by decide) ?_
                  refine J_sub (ls' := [(0, .inr (.inr (.inr false))), (1, .inr (.inr (.inl k1))), (2, .inr (.inr (.inl k2))), (3, .inl s18)]) [0, 1, 2, 3] rfl ?_
                  exact k_L_law_b18_j430 d _ _ h hR hX hN
                · have h := (if_neg c6).symm.trans h
                  by_cases c7 : (v5 &&& 63) = 7
                  · have h := (if_pos c7).symm.trans h
                    refine J_tabIn sw_L_law_33 (off := 430) (tgt := 463) (by rw [c7]; decide) (by rw [c7]; decide) (by rw [c7]; decide) (by decide) ?_
                    refine J_sub (ls' := [(0, .inr (.inr (.inr false))), (1, .inr (.inr (.inl k1))), (2, .inr (.inr (.inl k2))), (3, .inl s18)]) [0, 1, 2, 3] rfl ?_
                    exact k_L_law_b18_j463 d _ _ h hR hX hN
                  · have h := (if_neg c7).symm.trans h
                    by_cases c8 : (v5 &&& 63) = 8
                    · have h := (if_pos c8).symm.trans h
                      refine J_tabIn sw_L_law_33 (off := 473) (tgt := 506) (by rw [c8]; decide) (by rw [c8]; decide) (by rw [c8]; decide) (by decide) ?_
                      refine J_sub (ls' := [(0, .inr (.inr (.inr false))), (1, .inr (.inr (.inl k1))), (2, .inr (.inr (.inl k2))), (3, .inl s18)]) [0, 1, 2, 3] rfl ?_
                      exact k_L_law_b18_j506 d _ _ h hR hX hN
                    · have h := (if_neg c8).symm.trans h
                      by_cases c9 : (v5 &&& 63) = 9
                      · have h := (if_pos c9).symm.trans h
                        refine J_tabIn sw_L_law_33 (off := 496) (tgt := 529) (by rw [c9]; decide) (by rw [c9]; decide) (by rw [c9]; decide) (by decide) ?_
                        refine J_sub (ls' := [(0, .inr (.inr (.inr false))), (1, .inr (.inr (.inl k1))), (2, .inr (.inr (.inl k2))), (3, .inl s18)]) [0, 1, 2, 3] rfl ?_
                        exact k_L_law_b18_j529 d _ _ h hR hX hN
                      · have h := (if_neg c9).symm.trans h
                        by_cases c10 : (v5 &&& 63) = 10
                        · have h := (if_pos c10).symm.trans h
                          refine J_tabIn sw_L_law_33 (off := 519) (tgt := 552) (by rw [c10]; decide) (by rw [c10]; decide) (by rw [c10]; decide) (by decide) ?_
                          refine J_sub (ls' := [(0, .inr (.inr (.inr false))), (1, .inr (.inr (.inl k1))), (2, .inr (.inr (.inl k2))), (3, .inl s18)]) [0, 1, 2, 3] rfl ?_
                          exact k_L_law_b18_j552 d _ _ h hR hX hN
                        · have h := (if_neg c10).symm.trans h
                          by_cases c11 : (v5 &&& 63) = 11
                          · have h := (if_pos c11).symm.trans h
                            refine J_tabIn sw_L_law_33 (off := 552) (tgt := 585) (by rw [c11]; decide) (by rw [c11]; decide) (by rw [c11]; decide) (by decide) ?_
                            refine J_sub (ls' := [(0, .inr (.inr (.inr false))), (1, .inr (.inr (.inl k1))), (2, .inr (.inr (.inl k2))), (3, .inl s18)]) [0, 1, 2, 3] rfl ?_
                            exact k_L_law_b18_j585 d _ _ h hR hX hN
                          · have h := (if_neg c11).symm.trans h
                            by_cases c12 : (v5 &&& 63) = 12
                            · have h := (if_pos c12).symm.trans h
                              refine J_tabIn sw_L_law_33 (off := 585) (tgt := 618) (by rw [c12]; decide) (by rw [c12]; decide) (by rw [c12]; decide) (by decide) ?_
                              refine J_sub (ls' := [(0, .inr (.inr (.inr false))), (1, .inr (.inr (.inl k1))), (2, .inr (.inr (.inl k2))), (3, .inl s18)]) [0, 1, 2, 3] rfl ?_
                              exact k_L_law_b18_j618 d _ _ h hR hX hN
                            · have h := (if_neg c12).symm.trans h
                              by_cases c13 : (v5 &&& 63) = 13
                              · have h := (if_pos c13).symm.trans h
                                refine J_tabIn sw_L_law_33 (off := 618) (tgt := 651) (by rw [c13]; decide) (by rw [c13]; decide) (by rw [c13]; decide) (by decide) ?_
                                refine J_sub (ls' := [(0, .inr (.inr (.inr false))), (1, .inr (.inr (.inl k1))), (2, .inr (.inr (.inl k2))), (3, .inl s18)]) [0, 1, 2, 3] rfl ?_
                                exact k_L_law_b18_j651 d _ _ h hR hX hN
                              · have h := (if_neg c13).symm.trans h
                                by_cases c14 : (v5 &&& 63) = 14
                                · have h := (if_pos c14).symm.trans h
                                  refine J_tabIn sw_L_law_33 (off := 641) (tgt := 674) (by rw [c14]; decide) (by rw [c14]; decide) (by rw [c14]; decide) (by decide) ?_
                                  refine J_sub (ls' := [(0, .inr (.inr (.inr false))), (1, .inr (.inr (.inl k1))), (2, .inr (.inr (.inl k2))), (3, .inl s18)]) [0, 1, 2, 3] rfl ?_
                                  exact k_L_law_b18_j674 d _ _ h hR hX hN
                                · have h := (if_neg c14).symm.trans h
                                  by_cases c15 : (v5 &&& 63) = 15
                                  · have h := (if_pos c15).symm.trans h
                                    refine J_tabIn sw_L_law_33 (off := 674) (tgt := 707) (by rw [c15]; decide) (by rw [c15]; decide) (by rw [c15]; decide) (by decide) ?_
                                    refine J_sub (ls' := [(0, .inr (.inr (.inr false))), (1, .inr (.inr (.inl k1))), (2, .inr (.inr (.inl k2))), (3, .inl s18)]) [0, 1, 2, 3] rfl ?_
                                    exact k_L_law_b18_j707 d _ _ h hR hX hN
                                  · have h := (if_neg c15).symm.trans h
                                    by_cases c16 : (v5 &&& 63) = 16
                                    · have h := (if_pos c16).symm.trans h
                                      refine J_tabIn sw_L_law_33 (off := 697) (tgt := 730) (by rw [c16]; decide) (by rw [c16]; decide) (by rw [c16]; decide) (by decide) ?_
                                      refine J_sub (ls' := [(0, .inr (.inr (.inr false))), (1, .inr (.inr (.inl k1))), (2, .inr (.inr (.inl k2))), (3, .inl s18)]) [0, 1, 2, 3] rfl ?_
                                      exact k_L_law_b18_j730 d _ _ h hR hX hN
                                    · have h := (if_neg c16).symm.trans h
                                      by_cases c17 : (v5 &&& 63) = 17
                                      · have h := (if_pos c17).symm.trans h
                                        refine J_tabIn sw_L_law_33 (off := 720) (tgt := 753) (by rw [c17]; decide) (by rw [c17]; decide) (by rw [c17]; decide) (by decide) ?_
                                        refine J_sub (ls' := [(0, .inr (.inr (.inr false))), (1, .inr (.inr (.inl k1))), (2, .inr (.inr (.inl k2))), (3, .inl s18)]) [0, 1, 2, 3] rfl ?_
                                        exact k_L_law_b18_j753 d _ _ h hR hX hN
                                      · have h := (if_neg c17).symm.trans h
                                        by_cases c18 : (v5 &&& 63) = 18
                                        · have h := (if_pos c18).symm.trans h
                                          refine J_tabIn sw_L_law_33 (off := 743) (tgt := 776) (by rw [c18]; decide) (by rw [c18]; decide) (by rw [c18]; decide) (by decide) ?_
                                          refine J_sub (ls' := [(0, .inr (.inr (.inr false))), (1, .inr (.inr (.inl k1))), (2, .inr (.inr (.inl k2))), (3, .inl s18)]) [0, 1, 2, 3] rfl ?_
                                          exact k_L_law_b18_j776 d _ _ h hR hX hN
                                        · have h := (if_neg c18).symm.trans h
                                          by_cases c19 : (v5 &&& 63) = 19
                                          · have h := (if_pos c19).symm.trans h
                                            refine J_tabIn sw_L_law_33 (off := 756) (tgt := 789) (by rw [c19]; decide) (by rw [c19]; decide) (by rw [c19]; decide) (by decide) ?_
                                            refine J_sub (ls' := [(0, .inr (.inr (.inr false))), (1, .inr (.inr (.inl k1))), (2, .inr (.inr (.inl k2))), (3, .inl s18)]) [0, 1, 2, 3] rfl ?_
                                            exact k_L_law_b18_j789 d _ _ h hR hX hN
                                          · have h := (if_neg c19).symm.trans h
                                            by_cases c20 : (v5 &&& 63) = 20
                                            · have h := (if_pos c20).symm.trans h
                                              refine J_tabIn sw_L_law_33 (off := 779) (tgt := 812) (by rw [c20]; decide) (by rw [c20]; decide) (by rw [c20]; decide) (by decide) ?_
                                              refine J_sub (ls' := [(0, .inr (.inr (.inr false))), (1, .inr (.inr (.inl k1))), (2, .inr (.inr (.inl k2))), (3, .inl s18)]) [0, 1, 2, 3] rfl ?_
                                              exact k_L_law_b18_j812 d _ _ h hR hX hN
                                            · have h := (if_neg c20).symm.trans h
                                              by_cases c21 : (v5 &&& 63) = 21
                                              · have h := (if_pos c21).symm.trans h
                                                refine J_tabIn sw_L_law_33 (off := 792) (tgt := 825) (by rw [c21]; decide) (by rw [c21]; decide) (by rw [c21]; decide) (by decide) ?_
                                                refine J_sub (ls' := [(0, .inr (.inr (.inr false))), (1, .inr (.inr (.inl k1))), (2, .inr (.inr (.inl k2))), (3, .inl s18)]) [0, 1, 2, 3] rfl ?_
                                                exact k_L_law_b18_j825 d _ _ h hR hX hN
                                              · have h := (if_neg c21).symm.trans h
                                                by_cases c22 : (v5 &&& 63) = 22
                                                · have h := (if_pos c22).symm.trans h
                                                  refine J_tabIn sw_L_law_33 (off := 825) (tgt := 858) (by rw [c22]; decide) (by rw [c22]; decide) (by rw [c22]; decide) (by decide) ?_
                                                  refine J_sub (ls' := [(0, .inr (.inr (.inr false))), (1, .inr (.inr (.inl k1))), (2, .inr (.inr (.inl k2))), (3, .inl s18)]) [0, 1, 2, 3] rfl ?_
                                                  exact k_L_law_b18_j858 d _ _ h hR hX hN
                                                · have h := (if_neg c22).symm.trans h
                                                  by_cases c23 : (v5 &&& 63) = 23
                                                  · have h := (if_pos c23).symm.trans h
                                                    refine J_tabIn sw_L_law_33 (off := 858) (tgt := 891) (by rw [c23]; decide) (by rw [c23]; decide) (by rw [c23]; decide) (by decide) ?_
                                                    refine J_sub (ls' := [(0, .inr (.inr (.inr false))), (1, .inr (.inr (.inl k1))), (2, .inr (.inr (.inl k2))), (3, .inl s18)]) [0, 1, 2, 3] rfl ?_
                                                    exact k_L_law_b18_j891 d _ _ h hR hX hN
                                                  · have h := (if_neg c23).symm.trans h
                                                    by_cases c24 : (v5 &&& 63) = 24
                                                    · have h := (if_pos c24).symm.trans h
                                                      refine J_tabIn sw_L_law_33 (off := 891) (tgt := 924) (by rw [c24]; decide) (by rw [c24]; decide) (by rw [c24]; decide) (by decide) ?_
                                                      refine J_sub (ls' := [(0, .inr (.inr (.inr false))), (1, .inr (.inr (.inl k1))), (2, .inr (.inr (.inl k2))), (3, .inl s18)]) [0, 1, 2, 3] rfl ?_
                                                      exact k_L_law_b18_j924 d _ _ h hR hX hN
                                                    · have h := (if_neg c24).symm.trans h
                                                      by_cases c25 : (v5 &&& 63) = 25
                                                      · have h := (if_pos c25).symm.trans h
                                                        refine J_tabIn sw_L_law_33 (off := 904) (tgt := 937) (by rw [c25]; decide) (by rw [c25]; decide) (by rw [c25]; decide) (by decide) ?_
                                                        refine J_sub (ls' := [(0, .inr (.inr (.inr false))), (1, .inr (.inr (.inl k1))), (2, .inr (.inr (.inl k2))), (3, .inl s18)]) [0, 1, 2, 3] rfl ?_
                                                        exact k_L_law_b18_j937 d _ _ h hR hX hN
                                                      · have h := (if_neg c25).symm.trans h
                                                        by_cases c26 : (v5 &&& 63) = 26
                                                        · have h := (if_pos c26).symm.trans h
                                                          refine J_tabIn sw_L_law_33 (off := 927) (tgt := 960) (by rw [c26]; decide) (by rw [c26]; decide) (by rw [c26]; decide) (by decide) ?_
                                                          refine J_sub (ls' := [(0, .inr (.inr (.inr false))), (1, .inr (.inr (.inl k1))), (2, .inr (.inr (.inl k2))), (3, .inl s18)]) [0, 1, 2, 3] rfl ?_
                                                          exact k_L_law_b18_j960 d _ _ h hR hX hN
                                                        · have h := (if_neg c26).symm.trans h
                                                          by_cases c27 : (v5 &&& 63) = 27
                                                          · have h := (if_pos c27).symm.trans h
                                                            refine J_tabIn sw_L_law_33 (off := 950) (tgt := 983) (by rw [c27]; decide) (by rw [c27]; decide) (by rw [c27]; decide) (by decide) ?_
                                                            refine J_sub (ls' := [(0, .inr (.inr (.inr false))), (1, .inr (.inr (.inl k1))), (2, .inr (.inr (.inl k2))), (3, .inl s18)]) [0, 1, 2, 3] rfl ?_
                                                            exact k_L_law_b18_j983 d _ _ h hR hX hN
                                                          · have h := (if_neg c27).symm.trans h
                                                            by_cases c28 : (v5 &&& 63) = 28
                                                            · have h := (if_pos c28).symm.trans h
                                                              refine J_tabIn sw_L_law_33 (off := 963) (tgt := 996) (by rw [c28]; decide) (by rw [c28]; decide) (by rw [c28]; decide) (by decide) ?_
                                                              refine J_sub (ls' := [(0, .inr (.inr (.inr false))), (1, .inr (.inr (.inl k1))), (2, .inr (.inr (.inl k2))), (3, .inl s18)]) [0, 1, 2, 3] rfl ?_
                                                              exact k_L_law_b18_j996 d _ _ h hR hX hN
                                                            · have h := (if_neg c28).symm.trans h
                                                              by_cases c29 : (v5 &&& 63) = 29
                                                              · have h := (if_pos c29).symm.trans h
                                                                refine J_tabIn sw_L_law_33 (off := 996) (tgt := 1029) (by rw [c29]; decide) (by rw [c29]; decide) (by rw [c29]; decide) (by decide) ?_
                                                                refine J_sub (ls' := [(0, .inr (.inr (.inr false))), (1, .inr (.inr (.inl k1))), (2, .inr (.inr (.inl k2))), (3, .inl s18)]) [0, 1, 2, 3] rfl ?_
                                                                exact k_L_law_b18_j1029 d _ _ h hR hX hN
                                                              · have h := (if_neg c29).symm.trans h
                                                                by_cases c30 : (v5 &&& 63) = 30
                                                                · have h := (if_pos c30).symm.trans h
                                                                  refine J_tabIn sw_L_law_33 (off := 1029) (tgt := 1062) (by rw [c30]; decide) (by rw [c30]; decide) (by rw [c30]; decide) (by decide) ?_
                                                                  refine J_sub (ls' := [(0, .inr (.inr (.inr false))), (1, .inr (.inr (.inl k1))), (2, .inr (.inr (.inl k2))), (3, .inl s18)]) [0, 1, 2, 3] rfl ?_
                                                                  exact k_L_law_b18_j1062 d _ _ h hR hX hN
                                                                · have h := (if_neg c30).symm.trans h
                                                                  by_cases c31 : (v5 &&& 63) = 31
                                                                  · have h := (if_pos c31).symm.trans h
                                                                    refine J_tabIn sw_L_law_33 (off := 1052) (tgt := 1085) (by rw [c31]; decide) (by rw [c31]; decide) (by rw [c31]; decide) (by decide) ?_
                                                                    refine J_sub (ls' := [(0, .inr (.inr (.inr false))), (1, .inr (.inr (.inl k1))), (2, .inr (.inr (.inl k2))), (3, .inl s18)]) [0, 1, 2, 3] rfl ?_
                                                                    exact k_L_law_b18_j1085 d _ _ h hR hX hN
                                                                  · have h := (if_neg c31).symm.trans h
                                                                    by_cases c32 : (v5 &&& 63) = 32
                                                                    · have h := (if_pos c32).symm.trans h
                                                                      refine J_tabIn sw_L_law_33 (off := 1085) (tgt := 1118) (by rw [c32]; decide) (by rw [c32]; decide) (by rw [c32]; decide) (by decide) ?_
                                                                      refine J_sub (ls' := [(0, .inr (.inr (.inr false))), (1, .inr (.inr (.inl k1))), (2, .inr (.inr (.inl k2))), (3, .inl s18)]) [0, 1, 2, 3] rfl ?_
                                                                      exact k_L_law_b18_j1118 d _ _ h hR hX hN
                                                                    · have h := (if_neg c32).symm.trans h
                                                                      by_cases c33 : (v5 &&& 63) = 33
                                                                      · have h := (if_pos c33).symm.trans h
                                                                        refine J_tabIn sw_L_law_33 (off := 1108) (tgt := 1141) (by rw [c33]; decide) (by rw [c33]; decide) (by rw [c33]; decide) (by decide) ?_
                                                                        refine J_sub (ls' := [(0, .inr (.inr (.inr false))), (1, .inr (.inr (.inl k1))), (2, .inr (.inr (.inl k2))), (3, .inl s18)]) [0, 1, 2, 3] rfl ?_
                                                                        exact k_L_law_b18_j1141 d _ _ h hR hX hN
                                                                      · have h := (if_neg c33).symm.trans h
                                                                        by_cases c34 : (v5 &&& 63) = 34
                                                                        · have h := (if_pos c34).symm.trans h
                                                                          refine J_tabIn sw_L_law_33 (off := 1141) (tgt := 1174) (by rw [c34]; decide) (by rw [c34]; decide) (by rw [c34]; decide) (by decide) ?_
                                                                          refine J_sub (ls' := [(0, .inr (.inr (.inr false))), (1, .inr (.inr (.inl k1))), (2, .inr (.inr (.inl k2))), (3, .inl s18)]) [0, 1, 2, 3] rfl ?_
                                                                          exact k_L_law_b18_j1174 d _ _ h hR hX hN
                                                                        · have h := (if_neg c34).symm.trans h
                                                                          by_cases c35 : (v5 &&& 63) = 35
                                                                          · have h := (if_pos c35).symm.trans h
                                                                            refine J_tabIn sw_L_law_33 (off := 1154) (tgt := 1187) (by rw [c35]; decide) (by rw [c35]; decide) (by rw [c35]; decide) (by decide) ?_
                                                                            refine J_sub (ls' := [(0, .inr (.inr (.inr false))), (1, .inr (.inr (.inl k1))), (2, .inr (.inr (.inl k2))), (3, .inl s18)]) [0, 1, 2, 3] rfl ?_
                                                                            exact k_L_law_b18_j1187 d _ _ h hR hX hN
                                                                          · have h := (if_neg c35).symm.trans h
                                                                            by_cases c36 : (v5 &&& 63) = 36
                                                                            · have h := (if_pos c36).symm.trans h
                                                                              refine J_tabIn sw_L_law_33 (off := 1168) (tgt := 1201) (by rw [c36]; decide) (by rw [c36]; decide) (by rw [c36]; decide) (by decide) ?_
                                                                              refine J_sub (ls' := [(0, .inr (.inr (.inr false))), (1, .inr (.inr (.inl k1))), (2, .inr (.inr (.inl k2))), (3, .inl s18)]) [0, 1, 2, 3] rfl ?_
                                                                              exact k_L_law_b18_j1201 d _ _ h hR hX hN
                                                                            · have h := (if_neg c36).symm.trans h
                                                                              by_cases c37 : (v5 &&& 63) = 37
                                                                              · have h := (if_pos c37).symm.trans h
                                                                                refine J_tabIn sw_L_law_33 (off := 1182) (tgt := 1215) (by rw [c37]; decide) (by rw [c37]; decide) (by rw [c37]; decide) (by decide) ?_
                                                                                refine J_sub (ls' := [(0, .inr (.inr (.inr false))), (1, .inr (.inr (.inl k1))), (2, .inr (.inr (.inl k2))), (3, .inl s18)]) [0, 1, 2, 3] rfl ?_
                                                                                exact k_L_law_b18_j1215 d _ _ h hR hX hN
                                                                              · have h := (if_neg c37).symm.trans h
                                                                                by_cases c38 : (v5 &&& 63) = 38
                                                                                · have h := (if_pos c38).symm.trans h
                                                                                  refine J_tabIn sw_L_law_33 (off := 1205) (tgt := 1238) (by rw [c38]; decide) (by rw [c38]; decide) (by rw [c38]; decide) (by decide) ?_
                                                                                  refine J_sub (ls' := [(0, .inr (.inr (.inr false))), (1, .inr (.inr (.inl k1))), (2, .inr (.inr (.inl k2))), (3, .inl s18)]) [0, 1, 2, 3] rfl ?_
                                                                                  exact k_L_law_b18_j1238 d _ _ h hR hX hN
                                                                                · have h := (if_neg c38).symm.trans h
                                                                                  by_cases c39 : (v5 &&& 63) = 39
                                                                                  · have h := (if_pos c39).symm.trans h
                                                                                    refine J_tabIn sw_L_law_33 (off := 1218) (tgt := 1251) (by rw [c39]; decide) (by rw [c39]; decide) (by rw [c39]; decide) (by decide) ?_
                                                                                    refine J_sub (ls' := [(0, .inr (.inr (.inr false))), (1, .inr (.inr (.inl k1))), (2, .inr (.inr (.inl k2))), (3, .inl s18)]) [0, 1, 2, 3] rfl ?_
                                                                                    exact k_L_law_b18_j1251 d _ _ h hR hX hN
                                                                                  · have h := (if_neg c39).symm.trans h
                                                                                    by_cases c40 : (v5 &&& 63) = 40
                                                                                    · have h := (if_pos c40).symm.trans h
                                                                                      refine J_tabIn sw_L_law_33 (off := 1241) (tgt := 1274) (by rw [c40]; decide) (by rw [c40]; decide) (by rw [c40]; decide) (by decide) ?_
                                                                                      refine J_sub (ls' := [(0, .inr (.inr (.inr false))), (1, .inr (.inr (.inl k1))), (2, .inr (.inr (.inl k2))), (3, .inl s18)]) [0, 1, 2, 3] rfl ?_
                                                                                      exact k_L_law_b18_j1274 d _ _ h hR hX hN
                                                                                    · have h := (if_neg c40).symm.trans h
                                                                                      have c0 := jtoInt_ne (n := 0) (by decide) c0
                                                                                      have c1 := jtoInt_ne (n := 1) (by decide) c1
                                                                                      have c2 := jtoInt_ne (n := 2) (by decide) c2
                                                                                      have c3 := jtoInt_ne (n := 3) (by decide) c3
                                                                                      have c4 := jtoInt_ne (n := 4) (by decide) c4
                                                                                      have c5 := jtoInt_ne (n := 5) (by decide) c5
                                                                                      have c6 := jtoInt_ne (n := 6) (by decide) c6
                                                                                      have c7 := jtoInt_ne (n := 7) (by decide) c7
                                                                                      have c8 := jtoInt_ne (n := 8) (by decide) c8
                                                                                      have c9 := jtoInt_ne (n := 9) (by decide) c9
                                                                                      have c10 := jtoInt_ne (n := 10) (by decide) c10
                                                                                      have c11 := jtoInt_ne (n := 11) (by decide) c11
                                                                                      have c12 := jtoInt_ne (n := 12) (by decide) c12
                                                                                      have c13 := jtoInt_ne (n := 13) (by decide) c13
                                                                                      have c14 := jtoInt_ne (n := 14) (by decide) c14
                                                                                      have c15 := jtoInt_ne (n := 15) (by decide) c15
                                                                                      have c16 := jtoInt_ne (n := 16) (by decide) c16
                                                                                      have c17 := jtoInt_ne (n := 17) (by decide) c17
                                                                                      have c18 := jtoInt_ne (n := 18) (by decide) c18
                                                                                      have c19 := jtoInt_ne (n := 19) (by decide) c19
                                                                                      have c20 := jtoInt_ne (n := 20) (by decide) c20
                                                                                      have c21 := jtoInt_ne (n := 21) (by decide) c21
                                                                                      have c22 := jtoInt_ne (n := 22) (by decide) c22
                                                                                      have c23 := jtoInt_ne (n := 23) (by decide) c23
                                                                                      have c24 := jtoInt_ne (n := 24) (by decide) c24
                                                                                      have c25 := jtoInt_ne (n := 25) (by decide) c25
                                                                                      have c26 := jtoInt_ne (n := 26) (by decide) c26
                                                                                      have c27 := jtoInt_ne (n := 27) (by decide) c27
                                                                                      have c28 := jtoInt_ne (n := 28) (by decide) c28
                                                                                      have c29 := jtoInt_ne (n := 29) (by decide) c29
                                                                                      have c30 := jtoInt_ne (n := 30) (by decide) c30
                                                                                      have c31 := jtoInt_ne (n := 31) (by decide) c31
                                                                                      have c32 := jtoInt_ne (n := 32) (by decide) c32
                                                                                      have c33 := jtoInt_ne (n := 33) (by decide) c33
                                                                                      have c34 := jtoInt_ne (n := 34) (by decide) c34
                                                                                      have c35 := jtoInt_ne (n := 35) (by decide) c35
                                                                                      have c36 := jtoInt_ne (n := 36) (by decide) c36
                                                                                      have c37 := jtoInt_ne (n := 37) (by decide) c37
                                                                                      have c38 := jtoInt_ne (n := 38) (by decide) c38
                                                                                      have c39 := jtoInt_ne (n := 39) (by decide) c39
                                                                                      have c40 := jtoInt_ne (n := 40) (by decide) c40
                                                                                      refine J_tabOut sw_L_law_33 (tgt := 1288) (by omega) (by decide) ?_
                                                                                      refine J_seg ok_L_law_14 8 2 (pc' := 18) (ls' := [(3, .inl (s18 + 6)), (0, .inr (.inr (.inr false))), (1, .inr (.inr (.inl k1))), (2, .inr (.inr (.inl k2)))]) (st' := []) rfl ?_
                                                                                      exact J_sub (ls' := [(0, .inr (.inr (.inr false))), (1, .inr (.inr (.inl k1))), (2, .inr (.inr (.inl k2))), (3, .inl (s18 + 6))]) [1, 2, 3, 0] rfl (hN (s18 + 6, ah) (Option.some.inj h).symm)
def f_L_law (g : GX) (ah : AH) : Option (Int32 × AH) :=
  (f_X5_init ah.length (ah ++ [.inr (.inr (5, [.inr (.inr (.inl none)), .inr (.inr (.inl none)), .inr (.inr (.inl none)), .inr (.inr (.inl none)), .inr (.inr (.inl none)), .inr (.inr (.inl none)), .inr (.inr (.inl none)), .inr (.inr (.inl none)), .inr (.inr (.inl none)), .inr (.inr (.inl none)), .inl 0, .inl 0, .inr (.inl 0), .inr (.inl 0)]))])).bind fun q1 => (f_X6_init q1.2.length (q1.2 ++ [.inr (.inr (6, [.inr (.inr (.inl none)), .inl 0, .inr (.inr (.inl none)), .inr (.inr (.inl none)), .inr (.inr (.inl none)), .inr (.inr (.inl none)), .inl 0, .inr (.inr (.inl none)), .inr (.inr (.inl none)), .inr (.inr (.inl none)), .inr (.inr (.inl none)), .inl 0, .inr (.inl 0), .inr (.inl 0), .inl 0, .inr (.inr (.inl none)), .inl 0, .inl 0, .inl 0, .inr (.inr (.inl none)), .inl 0, .inr (.inr (.inl none)), .inl 0, .inr (.inr (.inl none)), .inr (.inr (.inl none)), .inr (.inr (.inl none)), .inl 0, .inr (.inr (.inl none))]))])).bind fun q3 => (jloop (f_L_law_b18 g (some ah.length) (some q1.2.length)) jfuel 0 q3.2).bind fun q469 => match q469 with | .inl r => some r | .inr z471 => some (1, z471.2)
set_option maxRecDepth 100000 in
set_option maxHeartbeats 4000000 in
theorem k_L_law {l : Launch} {g : GX} {nm : String} (d : Nat) {Q : jQ} (ah : AH) (out : Int32 × AH) (h : f_L_law g ah = some out) (hR : jRetI l g (md_L_law nm) room_1 Q (77, 8152) out.1 out.2) : J l g (md_L_law nm) room_1 Q 0 [(0, .inr (.inr (.inr false)))] [] ah (0, 0) := by
  unfold f_L_law at h
  refine J_new (c := 5) (fs := [.inr (.inr (.inl none)), .inr (.inr (.inl none)), .inr (.inr (.inl none)), .inr (.inr (.inl none)), .inr (.inr (.inl none)), .inr (.inr (.inl none)), .inr (.inr (.inl none)), .inr (.inr (.inl none)), .inr (.inr (.inl none)), .inr (.inr (.inl none)), .inl 0, .inl 0, .inr (.inl 0), .inr (.inl 0)]) (cs' := (1, 14)) (jat ok_L_law_0 0 (pc := 0) (i := .new 7) (n := 3) rfl rfl) rfl cl_RL_7 it_5 in_5 tyX5 tyX5_ok df_5 rfl ⟨Nat.le_of_ble_eq_true rfl, Nat.le_of_ble_eq_true rfl⟩ ?_
  refine J_seg ok_L_law_0 1 1 (pc' := 4) (ls' := [(0, .inr (.inr (.inr false)))]) (st' := [.inr (.inr (.inl (some ah.length))), .inr (.inr (.inl (some ah.length)))]) rfl ?_
  obtain ⟨q1, h2, h⟩ := Option.bind_eq_some_iff.mp h
  refine J_callI (md' := md_X5_init) (As := []) (st := [.inr (.inr (.inl (some ah.length)))]) (cs' := (60, 4107)) (jat ok_L_law_0 2 (pc := 4) (i := .invokespecial 9) (n := 3) rfl rfl) (Or.inl ml_RL_9) yi_X5_init rfl (c_X5_init l g 26 h2) (jRo_law (by decide) (by decide)) (Nat.le_of_ble_eq_true rfl) ⟨Nat.le_of_ble_eq_true rfl, Nat.le_of_ble_eq_true rfl⟩ rfl rfl ?_
  refine J_seg ok_L_law_0 3 1 (pc' := 8) (ls' := [(1, .inr (.inr (.inl (some ah.length)))), (0, .inr (.inr (.inr false)))]) (st' := []) rfl ?_
  refine J_new (c := 6) (fs := [.inr (.inr (.inl none)), .inl 0, .inr (.inr (.inl none)), .inr (.inr (.inl none)), .inr (.inr (.inl none)), .inr (.inr (.inl none)), .inl 0, .inr (.inr (.inl none)), .inr (.inr (.inl none)), .inr (.inr (.inl none)), .inr (.inr (.inl none)), .inl 0, .inr (.inl 0), .inr (.inl 0), .inl 0, .inr (.inr (.inl none)), .inl 0, .inl 0, .inl 0, .inr (.inr (.inl none)), .inl 0, .inr (.inr (.inl none)), .inl 0, .inr (.inr (.inl none)), .inr (.inr (.inl none)), .inr (.inr (.inl none)), .inl 0, .inr (.inr (.inl none))]) (cs' := (61, 4135)) (jat ok_L_law_0 4 (pc := 8) (i := .new 10) (n := 3) rfl rfl) rfl cl_RL_10 it_6 in_6 tyX6 tyX6_ok df_6 rfl ⟨Nat.le_of_ble_eq_true rfl, Nat.le_of_ble_eq_true rfl⟩ ?_
  refine J_seg ok_L_law_0 5 1 (pc' := 12) (ls' := [(1, .inr (.inr (.inl (some ah.length)))), (0, .inr (.inr (.inr false)))]) (st' := [.inr (.inr (.inl (some q1.2.length))), .inr (.inr (.inl (some q1.2.length)))]) rfl ?_
  obtain ⟨q3, h4, h⟩ := Option.bind_eq_some_iff.mp h
  refine J_callI (md' := md_X6_init) (As := []) (st := [.inr (.inr (.inl (some q1.2.length)))]) (cs' := (77, 8152)) (jat ok_L_law_0 6 (pc := 12) (i := .invokespecial 12) (n := 3) rfl rfl) (Or.inl ml_RL_12) yi_X6_init rfl (c_X6_init l g 28 h4) (jRo_law (by decide) (by decide)) (Nat.le_of_ble_eq_true rfl) ⟨Nat.le_of_ble_eq_true rfl, Nat.le_of_ble_eq_true rfl⟩ rfl rfl ?_
  refine J_seg ok_L_law_0 7 3 (pc' := 18) (ls' := [(3, .inl 0), (2, .inr (.inr (.inl (some q1.2.length)))), (1, .inr (.inr (.inl (some ah.length)))), (0, .inr (.inr (.inr false)))]) (st' := []) rfl ?_
  obtain ⟨q469, h470, h⟩ := Option.bind_eq_some_iff.mp h
  refine J_sub (ls' := [(0, .inr (.inr (.inr false))), (1, .inr (.inr (.inl (some ah.length)))), (2, .inr (.inr (.inl (some q1.2.length)))), (3, .inl 0)]) [3, 2, 1, 0] rfl ?_
  refine J_loop (pE := 1294) (lh := fun t472 => [(0, .inr (.inr (.inr false))), (1, .inr (.inr (.inl (some ah.length)))), (2, .inr (.inr (.inl (some q1.2.length)))), (3, .inl t472)]) (lx := fun z471 => []) (P := jRetI l g (md_L_law nm) room_1 Q (77, 8152)) (fun s ah out hb hR hX hN => k_L_law_b18 d s ah out hb hR hX hN) jfuel 0 _ _ h470 (fun r e => ?_) (fun z471 e => ?_)
  · subst e
    dsimp only at h
    have h := Option.some.inj h
    subst h
    exact hR
  · subst e
    dsimp only at h
    refine J_seg ok_L_law_14 10 1 (pc' := 1295) (ls' := []) (st' := [.inl 1]) rfl ?_
    have h := Option.some.inj h
    subst h
    exact hR _ _ (jat ok_L_law_14 11 (pc := 1295) (i := .ireturn) (n := 1) rfl rfl)
