def f_X6_victimsNow_b4 (k0 : Option Nat) (s4 : Int32 × Int32) (ah : AH) : Option ((Unit × AH) ⊕ (((Int32) × AH) ⊕ ((Int32 × Int32) × AH))) :=
  (gI ah k0 6 1).bind fun v1 => if v1 ≤ s4.2 then (some (.inr (.inl (s4.1, ah)))) else (if qO ah k0 6 = true then ((f_X6_victim k0 s4.2 ah).bind fun q3 => if q3.1 = (-9) then (some (.inr (.inr ((s4.1 ||| 0, s4.2 + 1), q3.2)))) else (if qO q3.2 k0 6 = true then ((f_X6_victim k0 s4.2 q3.2).bind fun q6 => some (.inr (.inr ((s4.1 ||| (1 <<< (q6.1 &&& 31)), s4.2 + 1), q6.2)))) else none)) else none)
set_option maxRecDepth 100000 in
set_option maxHeartbeats 4000000 in
theorem k_X6_victimsNow_b4 {l : Launch} {g : GX} (d : Nat) {Q : jQ} {k0 : Option Nat} (s4 : Int32 × Int32) (ah : AH) (out : (Unit × AH) ⊕ (((Int32) × AH) ⊕ ((Int32 × Int32) × AH))) (h : f_X6_victimsNow_b4 k0 s4 ah = some out) (hR : ∀ q, out = .inl q → jRetN q.1 q.2) (hX : ∀ q, out = .inr (.inl q) → J l g md_X6_victimsNow (jRm (d + 1) md_X6_victimsNow) Q 42 [(1, .inl q.1)] [] q.2 (0, 0)) (hN : ∀ q, out = .inr (.inr q) → J l g md_X6_victimsNow (jRm (d + 1) md_X6_victimsNow) Q 4 [(0, .inr (.inr (.inl k0))), (1, .inl q.1.1), (2, .inl q.1.2)] [] q.2 (0, 0)) : J l g md_X6_victimsNow (jRm (d + 1) md_X6_victimsNow) Q 4 [(0, .inr (.inr (.inl k0))), (1, .inl s4.1), (2, .inl s4.2)] [] ah (0, 0) := by
  unfold f_X6_victimsNow_b4 at h
  refine J_seg ok_X6_victimsNow 4 2 (pc' := 6) (ls' := [(0, .inr (.inr (.inl k0))), (1, .inl s4.1), (2, .inl s4.2)]) (st' := [.inr (.inr (.inl k0)), .inl s4.2]) rfl ?_
  obtain ⟨v1, h2, h⟩ := Option.bind_eq_some_iff.mp h
  refine J_getI (jat ok_X6_victimsNow 6 (pc := 6) (i := .getfield 148) (n := 3) rfl rfl) fl_RX6_148 h2 ?_
  refine J_ge (jat ok_X6_victimsNow 7 (pc := 9) (i := .if_icmp .ge 33) (n := 3) rfl rfl) (tgt := 42) (by decide) (fun c => ?_) (fun c => ?_)
  · have h := (if_pos c).symm.trans h
    exact J_sub (ls' := [(1, .inl s4.1)]) [1] rfl (hX (s4.1, ah) (Option.some.inj h).symm)
  · have h := (if_neg c).symm.trans h
    refine J_seg ok_X6_victimsNow 8 3 (pc' := 15) (ls' := [(0, .inr (.inr (.inl k0))), (1, .inl s4.1), (2, .inl s4.2)]) (st' := [.inl s4.2, .inr (.inr (.inl k0)), .inl s4.1]) rfl ?_
    by_cases c5 : qO ah k0 6 = true
    case neg => exact absurd ((if_neg c5).symm.trans h) (by simp)
    have h := (if_pos c5).symm.trans h
    obtain ⟨q3, h4, h⟩ := Option.bind_eq_some_iff.mp h
    refine J_callV (md' := md_X6_victim) (As := [.inl s4.2]) (st := [.inl s4.1]) (cs' := (0, 0)) (st' := [.inl q3.1, .inl s4.1]) (jat ok_X6_victimsNow 11 (pc := 15) (i := .invokevirtual 157) (n := 3) rfl rfl) ml_RX6_157 yv_X6_victim c5 (c_X6_victim l g (d + 0) h4) (jRo_of (by decide)) (Nat.le_of_ble_eq_true rfl) ⟨Nat.le_of_ble_eq_true rfl, Nat.le_of_ble_eq_true rfl⟩ rfl rfl rfl ?_
    refine J_seg ok_X6_victimsNow 12 1 (pc' := 20) (ls' := [(0, .inr (.inr (.inl k0))), (1, .inl s4.1), (2, .inl s4.2)]) (st' := [.inl (-9), .inl q3.1, .inl s4.1]) rfl ?_
    refine J_ne (jat ok_X6_victimsNow 13 (pc := 20) (i := .if_icmp .ne 7) (n := 3) rfl rfl) (tgt := 27) (by decide) (fun c => ?_) (fun c => ?_)
    · have h := (if_neg c).symm.trans h
      refine J_seg ok_X6_victimsNow 16 3 (pc' := 30) (ls' := [(0, .inr (.inr (.inl k0))), (1, .inl s4.1), (2, .inl s4.2)]) (st' := [.inl s4.2, .inr (.inr (.inl k0)), .inl 1, .inl s4.1]) rfl ?_
      by_cases c8 : qO q3.2 k0 6 = true
      case neg => exact absurd ((if_neg c8).symm.trans h) (by simp)
      have h := (if_pos c8).symm.trans h
      obtain ⟨q6, h7, h⟩ := Option.bind_eq_some_iff.mp h
      refine J_callV (md' := md_X6_victim) (As := [.inl s4.2]) (st := [.inl 1, .inl s4.1]) (cs' := (0, 0)) (st' := [.inl q6.1, .inl 1, .inl s4.1]) (jat ok_X6_victimsNow 19 (pc := 30) (i := .invokevirtual 157) (n := 3) rfl rfl) ml_RX6_157 yv_X6_victim c8 (c_X6_victim l g (d + 0) h7) (jRo_of (by decide)) (Nat.le_of_ble_eq_true rfl) ⟨Nat.le_of_ble_eq_true rfl, Nat.le_of_ble_eq_true rfl⟩ rfl rfl rfl ?_
      refine J_seg ok_X6_victimsNow 20 5 (pc' := 4) (ls' := [(2, .inl (s4.2 + 1)), (1, .inl (s4.1 ||| (1 <<< (q6.1 &&& 31)))), (0, .inr (.inr (.inl k0)))]) (st' := []) rfl ?_
      exact J_sub (ls' := [(0, .inr (.inr (.inl k0))), (1, .inl (s4.1 ||| (1 <<< (q6.1 &&& 31)))), (2, .inl (s4.2 + 1))]) [2, 1, 0] rfl (hN ((s4.1 ||| (1 <<< (q6.1 &&& 31)), s4.2 + 1), q6.2) (Option.some.inj h).symm)
    · have h := (if_pos c).symm.trans h
      refine J_seg ok_X6_victimsNow 14 2 (pc' := 34) (ls' := [(0, .inr (.inr (.inl k0))), (1, .inl s4.1), (2, .inl s4.2)]) (st' := [.inl 0, .inl s4.1]) rfl ?_
      refine J_seg ok_X6_victimsNow 21 4 (pc' := 4) (ls' := [(2, .inl (s4.2 + 1)), (1, .inl (s4.1 ||| 0)), (0, .inr (.inr (.inl k0)))]) (st' := []) rfl ?_
      exact J_sub (ls' := [(0, .inr (.inr (.inl k0))), (1, .inl (s4.1 ||| 0)), (2, .inl (s4.2 + 1))]) [2, 1, 0] rfl (hN ((s4.1 ||| 0, s4.2 + 1), q3.2) (Option.some.inj h).symm)
def f_X6_victimsNow (x0 : Option Nat) (ah : AH) : Option (Int32 × AH) :=
  (jloop (f_X6_victimsNow_b4 x0) jfuel (0, 0) ah).bind fun q9 => match q9 with | .inl r => none | .inr z11 => some (z11.1, z11.2)
set_option maxRecDepth 100000 in
set_option maxHeartbeats 4000000 in
theorem k_X6_victimsNow {l : Launch} {g : GX} (d : Nat) {Q : jQ} {x0 : Option Nat} (ah : AH) (out : Int32 × AH) (h : f_X6_victimsNow x0 ah = some out) (hR : jRetI l g md_X6_victimsNow (jRm (d + 1) md_X6_victimsNow) Q (0, 0) out.1 out.2) : J l g md_X6_victimsNow (jRm (d + 1) md_X6_victimsNow) Q 0 [(0, .inr (.inr (.inl x0)))] [] ah (0, 0) := by
  unfold f_X6_victimsNow at h
  refine J_seg ok_X6_victimsNow 0 4 (pc' := 4) (ls' := [(2, .inl 0), (1, .inl 0), (0, .inr (.inr (.inl x0)))]) (st' := []) rfl ?_
  obtain ⟨q9, h10, h⟩ := Option.bind_eq_some_iff.mp h
  refine J_sub (ls' := [(0, .inr (.inr (.inl x0))), (1, .inl 0), (2, .inl 0)]) [2, 1, 0] rfl ?_
  refine J_loop (pE := 42) (lh := fun t12 => [(0, .inr (.inr (.inl x0))), (1, .inl t12.1), (2, .inl t12.2)]) (lx := fun z11 => [(1, .inl z11)]) (P := jRetN) (fun s ah out hb hR hX hN => k_X6_victimsNow_b4 d s ah out hb hR hX hN) jfuel (0, 0) _ _ h10 (fun r e => ?_) (fun z11 e => ?_)
  · subst e
    dsimp only at h
    cases h
  · subst e
    dsimp only at h
    refine J_seg ok_X6_victimsNow 25 1 (pc' := 43) (ls' := [(1, .inl z11.1)]) (st' := [.inl z11.1]) rfl ?_
    have h := Option.some.inj h
    subst h
    exact hR _ _ (jat ok_X6_victimsNow 26 (pc := 43) (i := .ireturn) (n := 1) rfl rfl)
theorem c_X6_victimsNow (l : Launch) (g : GX) (d : Nat) {x0 : Option Nat} {ah : AH} {q : Int32 × AH} (h : f_X6_victimsNow x0 ah = some q) : jM l g (d + 1) md_X6_victimsNow [.inr (.inr (.inl x0))] ah (some (.inl q.1)) q.2 :=
  jM_of (by decide) (Nat.le_of_ble_eq_true rfl) (k_X6_victimsNow d ah q h (fun pc ls hd => J_reti hd rfl (jPV_int _) rfl (Nat.le_refl _) rfl rfl))
def f_X6_leftOf_b4 (k0 : Option Nat) (s4 : Int32 × Int32) (ah : AH) : Option ((Int32 × AH) ⊕ (((Int32) × AH) ⊕ ((Int32 × Int32) × AH))) :=
  (gI ah k0 6 1).bind fun v1 => if v1 ≤ s4.2 then (some (.inr (.inl (s4.1, ah)))) else ((gR ah k0 6 24).bind fun v3 => (gA ah v3 s4.2).bind fun v5 => (gI ah k0 6 1).bind fun v7 => if v7 ≤ v5 then (some (.inr (.inr ((s4.1, s4.2 + 1), ah)))) else ((gR ah k0 6 24).bind fun v9 => (gA ah v9 s4.2).bind fun v11 => if v11 = s4.2 then (some (.inl ((-1), ah))) else ((gR ah k0 6 24).bind fun v13 => (gA ah v13 s4.2).bind fun v15 => (f_X6_has s4.1 v15 ah).bind fun q17 => if q17.1 = 0 then (some (.inl ((-1), q17.2))) else ((gR q17.2 k0 6 24).bind fun v19 => (gA q17.2 v19 s4.2).bind fun v21 => some (.inr (.inr ((s4.1 &&& ((1 <<< (v21 &&& 31)) ^^^ (-1)), s4.2 + 1), q17.2)))))))
set_option maxRecDepth 100000 in
set_option maxHeartbeats 4000000 in
theorem k_X6_leftOf_b4 {l : Launch} {g : GX} (d : Nat) {Q : jQ} {k0 : Option Nat} (s4 : Int32 × Int32) (ah : AH) (out : (Int32 × AH) ⊕ (((Int32) × AH) ⊕ ((Int32 × Int32) × AH))) (h : f_X6_leftOf_b4 k0 s4 ah = some out) (hR : ∀ q, out = .inl q → jRetI l g md_X6_leftOf (jRm (d + 1) md_X6_leftOf) Q (0, 0) q.1 q.2) (hX : ∀ q, out = .inr (.inl q) → J l g md_X6_leftOf (jRm (d + 1) md_X6_leftOf) Q 69 [(2, .inl q.1)] [] q.2 (0, 0)) (hN : ∀ q, out = .inr (.inr q) → J l g md_X6_leftOf (jRm (d + 1) md_X6_leftOf) Q 4 [(0, .inr (.inr (.inl k0))), (2, .inl q.1.1), (3, .inl q.1.2)] [] q.2 (0, 0)) : J l g md_X6_leftOf (jRm (d + 1) md_X6_leftOf) Q 4 [(0, .inr (.inr (.inl k0))), (2, .inl s4.1), (3, .inl s4.2)] [] ah (0, 0) := by
  unfold f_X6_leftOf_b4 at h
  refine J_seg ok_X6_leftOf 4 2 (pc' := 6) (ls' := [(0, .inr (.inr (.inl k0))), (2, .inl s4.1), (3, .inl s4.2)]) (st' := [.inr (.inr (.inl k0)), .inl s4.2]) rfl ?_
  obtain ⟨v1, h2, h⟩ := Option.bind_eq_some_iff.mp h
  refine J_getI (jat ok_X6_leftOf 6 (pc := 6) (i := .getfield 148) (n := 3) rfl rfl) fl_RX6_148 h2 ?_
  refine J_ge (jat ok_X6_leftOf 7 (pc := 9) (i := .if_icmp .ge 60) (n := 3) rfl rfl) (tgt := 69) (by decide) (fun c => ?_) (fun c => ?_)
  · have h := (if_pos c).symm.trans h
    exact J_sub (ls' := [(2, .inl s4.1)]) [1] rfl (hX (s4.1, ah) (Option.some.inj h).symm)
  · have h := (if_neg c).symm.trans h
    refine J_seg ok_X6_leftOf 8 1 (pc' := 13) (ls' := [(0, .inr (.inr (.inl k0))), (2, .inl s4.1), (3, .inl s4.2)]) (st' := [.inr (.inr (.inl k0))]) rfl ?_
    obtain ⟨v3, h4, h⟩ := Option.bind_eq_some_iff.mp h
    refine J_getR (jat ok_X6_leftOf 9 (pc := 13) (i := .getfield 53) (n := 3) rfl rfl) fl_RX6_53 h4 ?_
    refine J_seg ok_X6_leftOf 10 1 (pc' := 17) (ls' := [(0, .inr (.inr (.inl k0))), (2, .inl s4.1), (3, .inl s4.2)]) (st' := [.inl s4.2, .inr (.inr (.inl v3))]) rfl ?_
    obtain ⟨v5, h6, h⟩ := Option.bind_eq_some_iff.mp h
    refine J_iald (jat ok_X6_leftOf 11 (pc := 17) (i := .iaload) (n := 1) rfl rfl) h6 ?_
    refine J_seg ok_X6_leftOf 12 1 (pc' := 19) (ls' := [(0, .inr (.inr (.inl k0))), (2, .inl s4.1), (3, .inl s4.2)]) (st' := [.inr (.inr (.inl k0)), .inl v5]) rfl ?_
    obtain ⟨v7, h8, h⟩ := Option.bind_eq_some_iff.mp h
    refine J_getI (jat ok_X6_leftOf 13 (pc := 19) (i := .getfield 148) (n := 3) rfl rfl) fl_RX6_148 h8 ?_
    refine J_ge (jat ok_X6_leftOf 14 (pc := 22) (i := .if_icmp .ge 41) (n := 3) rfl rfl) (tgt := 63) (by decide) (fun c => ?_) (fun c => ?_)
    · have h := (if_pos c).symm.trans h
      refine J_seg ok_X6_leftOf 41 2 (pc' := 4) (ls' := [(3, .inl (s4.2 + 1)), (0, .inr (.inr (.inl k0))), (2, .inl s4.1)]) (st' := []) rfl ?_
      exact J_sub (ls' := [(0, .inr (.inr (.inl k0))), (2, .inl s4.1), (3, .inl (s4.2 + 1))]) [1, 2, 0] rfl (hN ((s4.1, s4.2 + 1), ah) (Option.some.inj h).symm)
    · have h := (if_neg c).symm.trans h
      refine J_seg ok_X6_leftOf 15 1 (pc' := 26) (ls' := [(0, .inr (.inr (.inl k0))), (2, .inl s4.1), (3, .inl s4.2)]) (st' := [.inr (.inr (.inl k0))]) rfl ?_
      obtain ⟨v9, h10, h⟩ := Option.bind_eq_some_iff.mp h
      refine J_getR (jat ok_X6_leftOf 16 (pc := 26) (i := .getfield 53) (n := 3) rfl rfl) fl_RX6_53 h10 ?_
      refine J_seg ok_X6_leftOf 17 1 (pc' := 30) (ls' := [(0, .inr (.inr (.inl k0))), (2, .inl s4.1), (3, .inl s4.2)]) (st' := [.inl s4.2, .inr (.inr (.inl v9))]) rfl ?_
      obtain ⟨v11, h12, h⟩ := Option.bind_eq_some_iff.mp h
      refine J_iald (jat ok_X6_leftOf 18 (pc := 30) (i := .iaload) (n := 1) rfl rfl) h12 ?_
      refine J_seg ok_X6_leftOf 19 1 (pc' := 32) (ls' := [(0, .inr (.inr (.inl k0))), (2, .inl s4.1), (3, .inl s4.2)]) (st' := [.inl s4.2, .inl v11]) rfl ?_
      refine J_eq (jat ok_X6_leftOf 20 (pc := 32) (i := .if_icmp .eq 16) (n := 3) rfl rfl) (tgt := 48) (by decide) (fun c => ?_) (fun c => ?_)
      · have h := (if_pos c).symm.trans h
        refine J_seg ok_X6_leftOf 28 1 (pc' := 49) (ls' := [(0, .inr (.inr (.inl k0))), (2, .inl s4.1), (3, .inl s4.2)]) (st' := [.inl (-1)]) rfl ?_
        exact hR _ (Option.some.inj h).symm _ _ (jat ok_X6_leftOf 29 (pc := 49) (i := .ireturn) (n := 1) rfl rfl)
      · have h := (if_neg c).symm.trans h
        refine J_seg ok_X6_leftOf 21 2 (pc' := 37) (ls' := [(0, .inr (.inr (.inl k0))), (2, .inl s4.1), (3, .inl s4.2)]) (st' := [.inr (.inr (.inl k0)), .inl s4.1]) rfl ?_
        obtain ⟨v13, h14, h⟩ := Option.bind_eq_some_iff.mp h
        refine J_getR (jat ok_X6_leftOf 23 (pc := 37) (i := .getfield 53) (n := 3) rfl rfl) fl_RX6_53 h14 ?_
        refine J_seg ok_X6_leftOf 24 1 (pc' := 41) (ls' := [(0, .inr (.inr (.inl k0))), (2, .inl s4.1), (3, .inl s4.2)]) (st' := [.inl s4.2, .inr (.inr (.inl v13)), .inl s4.1]) rfl ?_
        obtain ⟨v15, h16, h⟩ := Option.bind_eq_some_iff.mp h
        refine J_iald (jat ok_X6_leftOf 25 (pc := 41) (i := .iaload) (n := 1) rfl rfl) h16 ?_
        obtain ⟨q17, h18, h⟩ := Option.bind_eq_some_iff.mp h
        refine J_callS (md' := md_X6_has) (As := [.inl s4.1, .inl v15]) (st := []) (cs' := (0, 0)) (st' := [.inl q17.1]) (jat ok_X6_leftOf 26 (pc := 42) (i := .invokestatic 128) (n := 3) rfl rfl) (Or.inl ml_RX6_128) ys_X6_has (c_X6_has l g (d + 0) h18) (jRo_of (by decide)) (Nat.le_of_ble_eq_true rfl) ⟨Nat.le_of_ble_eq_true rfl, Nat.le_of_ble_eq_true rfl⟩ rfl rfl rfl ?_
        refine J_ne0 (jat ok_X6_leftOf 27 (pc := 45) (i := .ifCond .ne 5) (n := 3) rfl rfl) (tgt := 50) (by decide) (fun c => ?_) (fun c => ?_)
        · have h := (if_neg c).symm.trans h
          refine J_seg ok_X6_leftOf 30 3 (pc' := 53) (ls' := [(0, .inr (.inr (.inl k0))), (2, .inl s4.1), (3, .inl s4.2)]) (st' := [.inr (.inr (.inl k0)), .inl 1, .inl s4.1]) rfl ?_
          obtain ⟨v19, h20, h⟩ := Option.bind_eq_some_iff.mp h
          refine J_getR (jat ok_X6_leftOf 33 (pc := 53) (i := .getfield 53) (n := 3) rfl rfl) fl_RX6_53 h20 ?_
          refine J_seg ok_X6_leftOf 34 1 (pc' := 57) (ls' := [(0, .inr (.inr (.inl k0))), (2, .inl s4.1), (3, .inl s4.2)]) (st' := [.inl s4.2, .inr (.inr (.inl v19)), .inl 1, .inl s4.1]) rfl ?_
          obtain ⟨v21, h22, h⟩ := Option.bind_eq_some_iff.mp h
          refine J_iald (jat ok_X6_leftOf 35 (pc := 57) (i := .iaload) (n := 1) rfl rfl) h22 ?_
          refine J_seg ok_X6_leftOf 36 7 (pc' := 4) (ls' := [(3, .inl (s4.2 + 1)), (2, .inl (s4.1 &&& ((1 <<< (v21 &&& 31)) ^^^ (-1)))), (0, .inr (.inr (.inl k0)))]) (st' := []) rfl ?_
          exact J_sub (ls' := [(0, .inr (.inr (.inl k0))), (2, .inl (s4.1 &&& ((1 <<< (v21 &&& 31)) ^^^ (-1)))), (3, .inl (s4.2 + 1))]) [2, 1, 0] rfl (hN ((s4.1 &&& ((1 <<< (v21 &&& 31)) ^^^ (-1)), s4.2 + 1), q17.2) (Option.some.inj h).symm)
        · have h := (if_pos c).symm.trans h
          refine J_seg ok_X6_leftOf 28 1 (pc' := 49) (ls' := [(0, .inr (.inr (.inl k0))), (2, .inl s4.1), (3, .inl s4.2)]) (st' := [.inl (-1)]) rfl ?_
          exact hR _ (Option.some.inj h).symm _ _ (jat ok_X6_leftOf 29 (pc := 49) (i := .ireturn) (n := 1) rfl rfl)
def f_X6_leftOf (x0 : Option Nat) (x1 : Int32) (ah : AH) : Option (Int32 × AH) :=
  (jloop (f_X6_leftOf_b4 x0) jfuel (x1, 0) ah).bind fun q23 => match q23 with | .inl r => some r | .inr z25 => some (z25.1, z25.2)
set_option maxRecDepth 100000 in
set_option maxHeartbeats 4000000 in
theorem k_X6_leftOf {l : Launch} {g : GX} (d : Nat) {Q : jQ} {x0 : Option Nat} {x1 : Int32} (ah : AH) (out : Int32 × AH) (h : f_X6_leftOf x0 x1 ah = some out) (hR : jRetI l g md_X6_leftOf (jRm (d + 1) md_X6_leftOf) Q (0, 0) out.1 out.2) : J l g md_X6_leftOf (jRm (d + 1) md_X6_leftOf) Q 0 [(0, .inr (.inr (.inl x0))), (1, .inl x1)] [] ah (0, 0) := by
  unfold f_X6_leftOf at h
  refine J_seg ok_X6_leftOf 0 4 (pc' := 4) (ls' := [(3, .inl 0), (2, .inl x1), (0, .inr (.inr (.inl x0))), (1, .inl x1)]) (st' := []) rfl ?_
  obtain ⟨q23, h24, h⟩ := Option.bind_eq_some_iff.mp h
  refine J_sub (ls' := [(0, .inr (.inr (.inl x0))), (2, .inl x1), (3, .inl 0)]) [2, 1, 0] rfl ?_
  refine J_loop (pE := 69) (lh := fun t26 => [(0, .inr (.inr (.inl x0))), (2, .inl t26.1), (3, .inl t26.2)]) (lx := fun z25 => [(2, .inl z25)]) (P := jRetI l g md_X6_leftOf (jRm (d + 1) md_X6_leftOf) Q (0, 0)) (fun s ah out hb hR hX hN => k_X6_leftOf_b4 d s ah out hb hR hX hN) jfuel (x1, 0) _ _ h24 (fun r e => ?_) (fun z25 e => ?_)
  · subst e
    dsimp only at h
    have h := Option.some.inj h
    subst h
    exact hR
  · subst e
    dsimp only at h
    refine J_seg ok_X6_leftOf 43 1 (pc' := 70) (ls' := [(2, .inl z25.1)]) (st' := [.inl z25.1]) rfl ?_
    have h := Option.some.inj h
    subst h
    exact hR _ _ (jat ok_X6_leftOf 44 (pc := 70) (i := .ireturn) (n := 1) rfl rfl)
theorem c_X6_leftOf (l : Launch) (g : GX) (d : Nat) {x0 : Option Nat} {x1 : Int32} {ah : AH} {q : Int32 × AH} (h : f_X6_leftOf x0 x1 ah = some q) : jM l g (d + 1) md_X6_leftOf [.inr (.inr (.inl x0)), .inl x1] ah (some (.inl q.1)) q.2 :=
  jM_of (by decide) (Nat.le_of_ble_eq_true rfl) (k_X6_leftOf d ah q h (fun pc ls hd => J_reti hd rfl (jPV_int _) rfl (Nat.le_refl _) rfl rfl))
def f_X6_nextTried_b7 (k0 : Option Nat) (s7 : Int32) (ah : AH) : Option ((Unit × AH) ⊕ (((Int32) × AH) ⊕ ((Int32) × AH))) :=
  if s7 < 0 then (some (.inr (.inl (s7, ah)))) else ((gR ah k0 6 24).bind fun v3 => (gA ah v3 s7).bind fun v5 => (gI ah k0 6 1).bind fun v7 => if v5 = v7 then ((gR ah k0 6 24).bind fun v9 => (sA ah v9 s7 0).bind fun a11 => some (.inr (.inr (s7 + (-1), a11)))) else (some (.inr (.inl (s7, ah)))))
set_option maxRecDepth 100000 in
set_option maxHeartbeats 4000000 in
theorem k_X6_nextTried_b7 {l : Launch} {g : GX} (d : Nat) {Q : jQ} {k0 : Option Nat} (s7 : Int32) (ah : AH) (out : (Unit × AH) ⊕ (((Int32) × AH) ⊕ ((Int32) × AH))) (h : f_X6_nextTried_b7 k0 s7 ah = some out) (hR : ∀ q, out = .inl q → jRetN q.1 q.2) (hX : ∀ q, out = .inr (.inl q) → J l g md_X6_nextTried (jRm (d + 0) md_X6_nextTried) Q 37 [(0, .inr (.inr (.inl k0))), (1, .inl q.1)] [] q.2 (0, 0)) (hN : ∀ q, out = .inr (.inr q) → J l g md_X6_nextTried (jRm (d + 0) md_X6_nextTried) Q 7 [(0, .inr (.inr (.inl k0))), (1, .inl q.1)] [] q.2 (0, 0)) : J l g md_X6_nextTried (jRm (d + 0) md_X6_nextTried) Q 7 [(0, .inr (.inr (.inl k0))), (1, .inl s7)] [] ah (0, 0) := by
  unfold f_X6_nextTried_b7 at h
  refine J_seg ok_X6_nextTried 5 1 (pc' := 8) (ls' := [(0, .inr (.inr (.inl k0))), (1, .inl s7)]) (st' := [.inl s7]) rfl ?_
  refine J_lt0 (jat ok_X6_nextTried 6 (pc := 8) (i := .ifCond .lt 29) (n := 3) rfl rfl) (tgt := 37) (by decide) (fun c => ?_) (fun c => ?_)
  · have h := (if_pos c).symm.trans h
    exact J_sub (ls' := [(0, .inr (.inr (.inl k0))), (1, .inl s7)]) [0, 1] rfl (hX (s7, ah) (Option.some.inj h).symm)
  · have h := (if_neg c).symm.trans h
    refine J_seg ok_X6_nextTried 7 1 (pc' := 12) (ls' := [(0, .inr (.inr (.inl k0))), (1, .inl s7)]) (st' := [.inr (.inr (.inl k0))]) rfl ?_
    obtain ⟨v3, h4, h⟩ := Option.bind_eq_some_iff.mp h
    refine J_getR (jat ok_X6_nextTried 8 (pc := 12) (i := .getfield 53) (n := 3) rfl rfl) fl_RX6_53 h4 ?_
    refine J_seg ok_X6_nextTried 9 1 (pc' := 16) (ls' := [(0, .inr (.inr (.inl k0))), (1, .inl s7)]) (st' := [.inl s7, .inr (.inr (.inl v3))]) rfl ?_
    obtain ⟨v5, h6, h⟩ := Option.bind_eq_some_iff.mp h
    refine J_iald (jat ok_X6_nextTried 10 (pc := 16) (i := .iaload) (n := 1) rfl rfl) h6 ?_
    refine J_seg ok_X6_nextTried 11 1 (pc' := 18) (ls' := [(0, .inr (.inr (.inl k0))), (1, .inl s7)]) (st' := [.inr (.inr (.inl k0)), .inl v5]) rfl ?_
    obtain ⟨v7, h8, h⟩ := Option.bind_eq_some_iff.mp h
    refine J_getI (jat ok_X6_nextTried 12 (pc := 18) (i := .getfield 148) (n := 3) rfl rfl) fl_RX6_148 h8 ?_
    refine J_ne (jat ok_X6_nextTried 13 (pc := 21) (i := .if_icmp .ne 16) (n := 3) rfl rfl) (tgt := 37) (by decide) (fun c => ?_) (fun c => ?_)
    · have h := (if_neg c).symm.trans h
      exact J_sub (ls' := [(0, .inr (.inr (.inl k0))), (1, .inl s7)]) [0, 1] rfl (hX (s7, ah) (Option.some.inj h).symm)
    · have h := (if_pos c).symm.trans h
      refine J_seg ok_X6_nextTried 14 1 (pc' := 25) (ls' := [(0, .inr (.inr (.inl k0))), (1, .inl s7)]) (st' := [.inr (.inr (.inl k0))]) rfl ?_
      obtain ⟨v9, h10, h⟩ := Option.bind_eq_some_iff.mp h
      refine J_getR (jat ok_X6_nextTried 15 (pc := 25) (i := .getfield 53) (n := 3) rfl rfl) fl_RX6_53 h10 ?_
      refine J_seg ok_X6_nextTried 16 2 (pc' := 30) (ls' := [(0, .inr (.inr (.inl k0))), (1, .inl s7)]) (st' := [.inl 0, .inl s7, .inr (.inr (.inl v9))]) rfl ?_
      obtain ⟨a11, h12, h⟩ := Option.bind_eq_some_iff.mp h
      refine J_iast (jat ok_X6_nextTried 18 (pc := 30) (i := .iastore) (n := 1) rfl rfl) h12 ?_
      refine J_seg ok_X6_nextTried 19 2 (pc' := 7) (ls' := [(1, .inl (s7 + (-1))), (0, .inr (.inr (.inl k0)))]) (st' := []) rfl ?_
      exact J_sub (ls' := [(0, .inr (.inr (.inl k0))), (1, .inl (s7 + (-1)))]) [1, 0] rfl (hN (s7 + (-1), a11) (Option.some.inj h).symm)
def f_X6_nextTried_j37 (x0 : Option Nat) (x1 : Int32) (ah : AH) : Option (Int32 × AH) :=
  if 0 ≤ x1 then ((gR ah x0 6 24).bind fun v17 => (gA ah v17 x1).bind fun v19 => (sA ah v17 x1 (v19 + 1)).bind fun a21 => some (1, a21)) else (some (0, ah))
set_option maxRecDepth 100000 in
set_option maxHeartbeats 4000000 in
theorem k_X6_nextTried_j37 {l : Launch} {g : GX} (d : Nat) {Q : jQ} {x0 : Option Nat} {x1 : Int32} (ah : AH) (out : Int32 × AH) (h : f_X6_nextTried_j37 x0 x1 ah = some out) (hR : jRetZ l g md_X6_nextTried (jRm (d + 0) md_X6_nextTried) Q (0, 0) out.1 out.2) : J l g md_X6_nextTried (jRm (d + 0) md_X6_nextTried) Q 37 [(0, .inr (.inr (.inl x0))), (1, .inl x1)] [] ah (0, 0) := by
  unfold f_X6_nextTried_j37 at h
  refine J_seg ok_X6_nextTried 21 1 (pc' := 38) (ls' := [(0, .inr (.inr (.inl x0))), (1, .inl x1)]) (st' := [.inl x1]) rfl ?_
  refine J_ge0 (jat ok_X6_nextTried 22 (pc := 38) (i := .ifCond .ge 5) (n := 3) rfl rfl) (tgt := 43) (by decide) (fun c => ?_) (fun c => ?_)
  · have h := (if_pos c).symm.trans h
    refine J_seg ok_X6_nextTried 25 1 (pc' := 44) (ls' := [(0, .inr (.inr (.inl x0))), (1, .inl x1)]) (st' := [.inr (.inr (.inl x0))]) rfl ?_
    obtain ⟨v17, h18, h⟩ := Option.bind_eq_some_iff.mp h
    refine J_getR (jat ok_X6_nextTried 26 (pc := 44) (i := .getfield 53) (n := 3) rfl rfl) fl_RX6_53 h18 ?_
    refine J_seg ok_X6_nextTried 27 2 (pc' := 49) (ls' := [(0, .inr (.inr (.inl x0))), (1, .inl x1)]) (st' := [.inl x1, .inr (.inr (.inl v17)), .inl x1, .inr (.inr (.inl v17))]) rfl ?_
    obtain ⟨v19, h20, h⟩ := Option.bind_eq_some_iff.mp h
    refine J_iald (jat ok_X6_nextTried 29 (pc := 49) (i := .iaload) (n := 1) rfl rfl) h20 ?_
    refine J_seg ok_X6_nextTried 30 2 (pc' := 52) (ls' := [(0, .inr (.inr (.inl x0))), (1, .inl x1)]) (st' := [.inl (v19 + 1), .inl x1, .inr (.inr (.inl v17))]) rfl ?_
    obtain ⟨a21, h22, h⟩ := Option.bind_eq_some_iff.mp h
    refine J_iast (jat ok_X6_nextTried 32 (pc := 52) (i := .iastore) (n := 1) rfl rfl) h22 ?_
    refine J_seg ok_X6_nextTried 33 1 (pc' := 54) (ls' := [(0, .inr (.inr (.inl x0))), (1, .inl x1)]) (st' := [.inl 1]) rfl ?_
    have h := Option.some.inj h
    subst h
    exact hR _ _ (jat ok_X6_nextTried 34 (pc := 54) (i := .ireturn) (n := 1) rfl rfl) (Or.inr rfl)
  · have h := (if_neg c).symm.trans h
    refine J_seg ok_X6_nextTried 23 1 (pc' := 42) (ls' := [(0, .inr (.inr (.inl x0))), (1, .inl x1)]) (st' := [.inl 0]) rfl ?_
    have h := Option.some.inj h
    subst h
    exact hR _ _ (jat ok_X6_nextTried 24 (pc := 42) (i := .ireturn) (n := 1) rfl rfl) (Or.inl rfl)
def f_X6_nextTried (x0 : Option Nat) (ah : AH) : Option (Int32 × AH) :=
  (gI ah x0 6 1).bind fun v1 => (jloop (f_X6_nextTried_b7 x0) jfuel (v1 - 1) ah).bind fun q13 => match q13 with | .inl r => none | .inr z15 => f_X6_nextTried_j37 x0 z15.1 z15.2
set_option maxRecDepth 100000 in
set_option maxHeartbeats 4000000 in
theorem k_X6_nextTried {l : Launch} {g : GX} (d : Nat) {Q : jQ} {x0 : Option Nat} (ah : AH) (out : Int32 × AH) (h : f_X6_nextTried x0 ah = some out) (hR : jRetZ l g md_X6_nextTried (jRm (d + 0) md_X6_nextTried) Q (0, 0) out.1 out.2) : J l g md_X6_nextTried (jRm (d + 0) md_X6_nextTried) Q 0 [(0, .inr (.inr (.inl x0)))] [] ah (0, 0) := by
  unfold f_X6_nextTried at h
  refine J_seg ok_X6_nextTried 0 1 (pc' := 1) (ls' := [(0, .inr (.inr (.inl x0)))]) (st' := [.inr (.inr (.inl x0))]) rfl ?_
  obtain ⟨v1, h2, h⟩ := Option.bind_eq_some_iff.mp h
  refine J_getI (jat ok_X6_nextTried 1 (pc := 1) (i := .getfield 148) (n := 3) rfl rfl) fl_RX6_148 h2 ?_
  refine J_seg ok_X6_nextTried 2 3 (pc' := 7) (ls' := [(1, .inl (v1 - 1)), (0, .inr (.inr (.inl x0)))]) (st' := []) rfl ?_
  obtain ⟨q13, h14, h⟩ := Option.bind_eq_some_iff.mp h
  refine J_sub (ls' := [(0, .inr (.inr (.inl x0))), (1, .inl (v1 - 1))]) [1, 0] rfl ?_
  refine J_loop (pE := 37) (lh := fun t16 => [(0, .inr (.inr (.inl x0))), (1, .inl t16)]) (lx := fun z15 => [(0, .inr (.inr (.inl x0))), (1, .inl z15)]) (P := jRetN) (fun s ah out hb hR hX hN => k_X6_nextTried_b7 d s ah out hb hR hX hN) jfuel (v1 - 1) _ _ h14 (fun r e => ?_) (fun z15 e => ?_)
  · subst e
    dsimp only at h
    cases h
  · subst e
    dsimp only at h
    refine J_sub (ls' := [(0, .inr (.inr (.inl x0))), (1, .inl z15.1)]) [0, 1] rfl ?_
    exact k_X6_nextTried_j37 d _ _ h hR
theorem c_X6_nextTried (l : Launch) (g : GX) (d : Nat) {x0 : Option Nat} {ah : AH} {q : Int32 × AH} (h : f_X6_nextTried x0 ah = some q) : jM l g (d + 0) md_X6_nextTried [.inr (.inr (.inl x0))] ah (some (.inl q.1)) q.2 :=
  jM_of (by decide) (Nat.le_of_ble_eq_true rfl) (k_X6_nextTried d ah q h (fun pc ls hd c => J_reti hd rfl (jPV_z c) rfl (Nat.le_refl _) rfl rfl))
def f_X6_strengthsTried_b4 (k0 : Option Nat) (s4 : Int32 × Int32) (ah : AH) : Option ((Unit × AH) ⊕ (((Int32) × AH) ⊕ ((Int32 × Int32) × AH))) :=
  (gI ah k0 6 1).bind fun v1 => if v1 ≤ s4.2 then (some (.inr (.inl (s4.1, ah)))) else ((gR ah k0 6 24).bind fun v3 => (gA ah v3 s4.2).bind fun v5 => (gI ah k0 6 1).bind fun v7 => if v5 = v7 then (some (.inr (.inr ((s4.1 + 0, s4.2 + 1), ah)))) else ((gR ah k0 6 24).bind fun v9 => (gA ah v9 s4.2).bind fun v11 => if qO ah k0 6 = true then ((f_X6_strengthOf k0 s4.2 v11 ah).bind fun q13 => some (.inr (.inr ((s4.1 + q13.1, s4.2 + 1), q13.2)))) else none))
set_option maxRecDepth 100000 in
set_option maxHeartbeats 4000000 in
theorem k_X6_strengthsTried_b4 {l : Launch} {g : GX} (d : Nat) {Q : jQ} {k0 : Option Nat} (s4 : Int32 × Int32) (ah : AH) (out : (Unit × AH) ⊕ (((Int32) × AH) ⊕ ((Int32 × Int32) × AH))) (h : f_X6_strengthsTried_b4 k0 s4 ah = some out) (hR : ∀ q, out = .inl q → jRetN q.1 q.2) (hX : ∀ q, out = .inr (.inl q) → J l g md_X6_strengthsTried (jRm (d + 2) md_X6_strengthsTried) Q 49 [(1, .inl q.1)] [] q.2 (0, 0)) (hN : ∀ q, out = .inr (.inr q) → J l g md_X6_strengthsTried (jRm (d + 2) md_X6_strengthsTried) Q 4 [(0, .inr (.inr (.inl k0))), (1, .inl q.1.1), (2, .inl q.1.2)] [] q.2 (0, 0)) : J l g md_X6_strengthsTried (jRm (d + 2) md_X6_strengthsTried) Q 4 [(0, .inr (.inr (.inl k0))), (1, .inl s4.1), (2, .inl s4.2)] [] ah (0, 0) := by
  unfold f_X6_strengthsTried_b4 at h
  refine J_seg ok_X6_strengthsTried 4 2 (pc' := 6) (ls' := [(0, .inr (.inr (.inl k0))), (1, .inl s4.1), (2, .inl s4.2)]) (st' := [.inr (.inr (.inl k0)), .inl s4.2]) rfl ?_
  obtain ⟨v1, h2, h⟩ := Option.bind_eq_some_iff.mp h
  refine J_getI (jat ok_X6_strengthsTried 6 (pc := 6) (i := .getfield 148) (n := 3) rfl rfl) fl_RX6_148 h2 ?_
  refine J_ge (jat ok_X6_strengthsTried 7 (pc := 9) (i := .if_icmp .ge 40) (n := 3) rfl rfl) (tgt := 49) (by decide) (fun c => ?_) (fun c => ?_)
  · have h := (if_pos c).symm.trans h
    exact J_sub (ls' := [(1, .inl s4.1)]) [1] rfl (hX (s4.1, ah) (Option.some.inj h).symm)
  · have h := (if_neg c).symm.trans h
    refine J_seg ok_X6_strengthsTried 8 2 (pc' := 14) (ls' := [(0, .inr (.inr (.inl k0))), (1, .inl s4.1), (2, .inl s4.2)]) (st' := [.inr (.inr (.inl k0)), .inl s4.1]) rfl ?_
    obtain ⟨v3, h4, h⟩ := Option.bind_eq_some_iff.mp h
    refine J_getR (jat ok_X6_strengthsTried 10 (pc := 14) (i := .getfield 53) (n := 3) rfl rfl) fl_RX6_53 h4 ?_
    refine J_seg ok_X6_strengthsTried 11 1 (pc' := 18) (ls' := [(0, .inr (.inr (.inl k0))), (1, .inl s4.1), (2, .inl s4.2)]) (st' := [.inl s4.2, .inr (.inr (.inl v3)), .inl s4.1]) rfl ?_
    obtain ⟨v5, h6, h⟩ := Option.bind_eq_some_iff.mp h
    refine J_iald (jat ok_X6_strengthsTried 12 (pc := 18) (i := .iaload) (n := 1) rfl rfl) h6 ?_
    refine J_seg ok_X6_strengthsTried 13 1 (pc' := 20) (ls' := [(0, .inr (.inr (.inl k0))), (1, .inl s4.1), (2, .inl s4.2)]) (st' := [.inr (.inr (.inl k0)), .inl v5, .inl s4.1]) rfl ?_
    obtain ⟨v7, h8, h⟩ := Option.bind_eq_some_iff.mp h
    refine J_getI (jat ok_X6_strengthsTried 14 (pc := 20) (i := .getfield 148) (n := 3) rfl rfl) fl_RX6_148 h8 ?_
    refine J_ne (jat ok_X6_strengthsTried 15 (pc := 23) (i := .if_icmp .ne 7) (n := 3) rfl rfl) (tgt := 30) (by decide) (fun c => ?_) (fun c => ?_)
    · have h := (if_neg c).symm.trans h
      refine J_seg ok_X6_strengthsTried 18 3 (pc' := 33) (ls' := [(0, .inr (.inr (.inl k0))), (1, .inl s4.1), (2, .inl s4.2)]) (st' := [.inr (.inr (.inl k0)), .inl s4.2, .inr (.inr (.inl k0)), .inl s4.1]) rfl ?_
      obtain ⟨v9, h10, h⟩ := Option.bind_eq_some_iff.mp h
      refine J_getR (jat ok_X6_strengthsTried 21 (pc := 33) (i := .getfield 53) (n := 3) rfl rfl) fl_RX6_53 h10 ?_
      refine J_seg ok_X6_strengthsTried 22 1 (pc' := 37) (ls' := [(0, .inr (.inr (.inl k0))), (1, .inl s4.1), (2, .inl s4.2)]) (st' := [.inl s4.2, .inr (.inr (.inl v9)), .inl s4.2, .inr (.inr (.inl k0)), .inl s4.1]) rfl ?_
      obtain ⟨v11, h12, h⟩ := Option.bind_eq_some_iff.mp h
      refine J_iald (jat ok_X6_strengthsTried 23 (pc := 37) (i := .iaload) (n := 1) rfl rfl) h12 ?_
      by_cases c15 : qO ah k0 6 = true
      case neg => exact absurd ((if_neg c15).symm.trans h) (by simp)
      have h := (if_pos c15).symm.trans h
      obtain ⟨q13, h14, h⟩ := Option.bind_eq_some_iff.mp h
      refine J_callV (md' := md_X6_strengthOf) (As := [.inl s4.2, .inl v11]) (st := [.inl s4.1]) (cs' := (0, 0)) (st' := [.inl q13.1, .inl s4.1]) (jat ok_X6_strengthsTried 24 (pc := 38) (i := .invokevirtual 166) (n := 3) rfl rfl) ml_RX6_166 yv_X6_strengthOf c15 (c_X6_strengthOf l g (d + 0) h14) (jRo_of (by decide)) (Nat.le_of_ble_eq_true rfl) ⟨Nat.le_of_ble_eq_true rfl, Nat.le_of_ble_eq_true rfl⟩ rfl rfl rfl ?_
      refine J_seg ok_X6_strengthsTried 25 4 (pc' := 4) (ls' := [(2, .inl (s4.2 + 1)), (1, .inl (s4.1 + q13.1)), (0, .inr (.inr (.inl k0)))]) (st' := []) rfl ?_
      exact J_sub (ls' := [(0, .inr (.inr (.inl k0))), (1, .inl (s4.1 + q13.1)), (2, .inl (s4.2 + 1))]) [2, 1, 0] rfl (hN ((s4.1 + q13.1, s4.2 + 1), q13.2) (Option.some.inj h).symm)
    · have h := (if_pos c).symm.trans h
      refine J_seg ok_X6_strengthsTried 16 2 (pc' := 41) (ls' := [(0, .inr (.inr (.inl k0))), (1, .inl s4.1), (2, .inl s4.2)]) (st' := [.inl 0, .inl s4.1]) rfl ?_
      refine J_seg ok_X6_strengthsTried 25 4 (pc' := 4) (ls' := [(2, .inl (s4.2 + 1)), (1, .inl (s4.1 + 0)), (0, .inr (.inr (.inl k0)))]) (st' := []) rfl ?_
      exact J_sub (ls' := [(0, .inr (.inr (.inl k0))), (1, .inl (s4.1 + 0)), (2, .inl (s4.2 + 1))]) [2, 1, 0] rfl (hN ((s4.1 + 0, s4.2 + 1), ah) (Option.some.inj h).symm)
def f_X6_strengthsTried (x0 : Option Nat) (ah : AH) : Option (Int32 × AH) :=
  (jloop (f_X6_strengthsTried_b4 x0) jfuel (0, 0) ah).bind fun q16 => match q16 with | .inl r => none | .inr z18 => some (z18.1, z18.2)
set_option maxRecDepth 100000 in
set_option maxHeartbeats 4000000 in
theorem k_X6_strengthsTried {l : Launch} {g : GX} (d : Nat) {Q : jQ} {x0 : Option Nat} (ah : AH) (out : Int32 × AH) (h : f_X6_strengthsTried x0 ah = some out) (hR : jRetI l g md_X6_strengthsTried (jRm (d + 2) md_X6_strengthsTried) Q (0, 0) out.1 out.2) : J l g md_X6_strengthsTried (jRm (d + 2) md_X6_strengthsTried) Q 0 [(0, .inr (.inr (.inl x0)))] [] ah (0, 0) := by
  unfold f_X6_strengthsTried at h
  refine J_seg ok_X6_strengthsTried 0 4 (pc' := 4) (ls' := [(2, .inl 0), (1, .inl 0), (0, .inr (.inr (.inl x0)))]) (st' := []) rfl ?_
  obtain ⟨q16, h17, h⟩ := Option.bind_eq_some_iff.mp h
  refine J_sub (ls' := [(0, .inr (.inr (.inl x0))), (1, .inl 0), (2, .inl 0)]) [2, 1, 0] rfl ?_
  refine J_loop (pE := 49) (lh := fun t19 => [(0, .inr (.inr (.inl x0))), (1, .inl t19.1), (2, .inl t19.2)]) (lx := fun z18 => [(1, .inl z18)]) (P := jRetN) (fun s ah out hb hR hX hN => k_X6_strengthsTried_b4 d s ah out hb hR hX hN) jfuel (0, 0) _ _ h17 (fun r e => ?_) (fun z18 e => ?_)
  · subst e
    dsimp only at h
    cases h
  · subst e
    dsimp only at h
    refine J_seg ok_X6_strengthsTried 29 1 (pc' := 50) (ls' := [(1, .inl z18.1)]) (st' := [.inl z18.1]) rfl ?_
    have h := Option.some.inj h
    subst h
    exact hR _ _ (jat ok_X6_strengthsTried 30 (pc := 50) (i := .ireturn) (n := 1) rfl rfl)
theorem c_X6_strengthsTried (l : Launch) (g : GX) (d : Nat) {x0 : Option Nat} {ah : AH} {q : Int32 × AH} (h : f_X6_strengthsTried x0 ah = some q) : jM l g (d + 2) md_X6_strengthsTried [.inr (.inr (.inl x0))] ah (some (.inl q.1)) q.2 :=
  jM_of (by decide) (Nat.le_of_ble_eq_true rfl) (k_X6_strengthsTried d ah q h (fun pc ls hd => J_reti hd rfl (jPV_int _) rfl (Nat.le_refl _) rfl rfl))
def f_X6_mildest_b30 (k0 : Option Nat) (k1 : Int32) (k2 : Int32) (k3 : Int32) (s30 : Int32) (ah : AH) : Option ((Unit × AH) ⊕ (((Unit) × AH) ⊕ ((Int32) × AH))) :=
  (gI ah k0 6 1).bind fun v8 => if v8 ≤ s30 then (some (.inr (.inl ((), ah)))) else ((gR ah k0 6 24).bind fun v10 => (sA ah v10 s30 0).bind fun a12 => some (.inr (.inr (s30 + 1, a12))))
set_option maxRecDepth 100000 in
set_option maxHeartbeats 4000000 in
theorem k_X6_mildest_b30 {l : Launch} {g : GX} (d : Nat) {Q : jQ} {k0 : Option Nat} {k1 : Int32} {k2 : Int32} {k3 : Int32} (s30 : Int32) (ah : AH) (out : (Unit × AH) ⊕ (((Unit) × AH) ⊕ ((Int32) × AH))) (h : f_X6_mildest_b30 k0 k1 k2 k3 s30 ah = some out) (hR : ∀ q, out = .inl q → jRetN q.1 q.2) (hX : ∀ q, out = .inr (.inl q) → J l g md_X6_mildest (jRm (d + 3) md_X6_mildest) Q 53 [(0, .inr (.inr (.inl k0))), (1, .inl k1), (2, .inl k2), (3, .inl k3)] [] q.2 (0, 0)) (hN : ∀ q, out = .inr (.inr q) → J l g md_X6_mildest (jRm (d + 3) md_X6_mildest) Q 30 [(0, .inr (.inr (.inl k0))), (1, .inl k1), (2, .inl k2), (3, .inl k3), (4, .inl q.1)] [] q.2 (0, 0)) : J l g md_X6_mildest (jRm (d + 3) md_X6_mildest) Q 30 [(0, .inr (.inr (.inl k0))), (1, .inl k1), (2, .inl k2), (3, .inl k3), (4, .inl s30)] [] ah (0, 0) := by
  unfold f_X6_mildest_b30 at h
  refine J_seg ok_X6_mildest 17 2 (pc' := 33) (ls' := [(0, .inr (.inr (.inl k0))), (1, .inl k1), (2, .inl k2), (3, .inl k3), (4, .inl s30)]) (st' := [.inr (.inr (.inl k0)), .inl s30]) rfl ?_
  obtain ⟨v8, h9, h⟩ := Option.bind_eq_some_iff.mp h
  refine J_getI (jat ok_X6_mildest 19 (pc := 33) (i := .getfield 148) (n := 3) rfl rfl) fl_RX6_148 h9 ?_
  refine J_ge (jat ok_X6_mildest 20 (pc := 36) (i := .if_icmp .ge 17) (n := 3) rfl rfl) (tgt := 53) (by decide) (fun c => ?_) (fun c => ?_)
  · have h := (if_pos c).symm.trans h
    exact J_sub (ls' := [(0, .inr (.inr (.inl k0))), (1, .inl k1), (2, .inl k2), (3, .inl k3)]) [0, 1, 2, 3] rfl (hX ((), ah) (Option.some.inj h).symm)
  · have h := (if_neg c).symm.trans h
    refine J_seg ok_X6_mildest 21 1 (pc' := 40) (ls' := [(0, .inr (.inr (.inl k0))), (1, .inl k1), (2, .inl k2), (3, .inl k3), (4, .inl s30)]) (st' := [.inr (.inr (.inl k0))]) rfl ?_
    obtain ⟨v10, h11, h⟩ := Option.bind_eq_some_iff.mp h
    refine J_getR (jat ok_X6_mildest 22 (pc := 40) (i := .getfield 53) (n := 3) rfl rfl) fl_RX6_53 h11 ?_
    refine J_seg ok_X6_mildest 23 2 (pc' := 46) (ls' := [(0, .inr (.inr (.inl k0))), (1, .inl k1), (2, .inl k2), (3, .inl k3), (4, .inl s30)]) (st' := [.inl 0, .inl s30, .inr (.inr (.inl v10))]) rfl ?_
    obtain ⟨a12, h13, h⟩ := Option.bind_eq_some_iff.mp h
    refine J_iast (jat ok_X6_mildest 25 (pc := 46) (i := .iastore) (n := 1) rfl rfl) h13 ?_
    refine J_seg ok_X6_mildest 26 2 (pc' := 30) (ls' := [(4, .inl (s30 + 1)), (0, .inr (.inr (.inl k0))), (1, .inl k1), (2, .inl k2), (3, .inl k3)]) (st' := []) rfl ?_
    exact J_sub (ls' := [(0, .inr (.inr (.inl k0))), (1, .inl k1), (2, .inl k2), (3, .inl k3), (4, .inl (s30 + 1))]) [1, 2, 3, 4, 0] rfl (hN (s30 + 1, a12) (Option.some.inj h).symm)
def f_X6_mildest_b56_j155 (k0 : Option Nat) (k1 : Int32) (k2 : Int32) (x3 : Int32) (ah : AH) : Option ((Unit × AH) ⊕ (((Int32) × AH) ⊕ ((Int32 × Int32) × AH))) :=
  if qO ah k0 6 = true then ((f_X6_nextTried k0 ah).bind fun q21 => some (.inr (.inr ((x3, q21.1), q21.2)))) else none
set_option maxRecDepth 100000 in
set_option maxHeartbeats 4000000 in
theorem k_X6_mildest_b56_j155 {l : Launch} {g : GX} (d : Nat) {Q : jQ} {k0 : Option Nat} {k1 : Int32} {k2 : Int32} {x3 : Int32} (ah : AH) (out : (Unit × AH) ⊕ (((Int32) × AH) ⊕ ((Int32 × Int32) × AH))) (h : f_X6_mildest_b56_j155 k0 k1 k2 x3 ah = some out) (hR : ∀ q, out = .inl q → jRetN q.1 q.2) (hX : ∀ q, out = .inr (.inl q) → J l g md_X6_mildest (jRm (d + 3) md_X6_mildest) Q 164 [(3, .inl q.1)] [] q.2 (0, 0)) (hN : ∀ q, out = .inr (.inr q) → J l g md_X6_mildest (jRm (d + 3) md_X6_mildest) Q 56 [(0, .inr (.inr (.inl k0))), (1, .inl k1), (2, .inl k2), (3, .inl q.1.1), (4, .inl q.1.2)] [] q.2 (0, 0)) : J l g md_X6_mildest (jRm (d + 3) md_X6_mildest) Q 155 [(0, .inr (.inr (.inl k0))), (1, .inl k1), (2, .inl k2), (3, .inl x3)] [] ah (0, 0) := by
  unfold f_X6_mildest_b56_j155 at h
  refine J_seg ok_X6_mildest 81 1 (pc' := 156) (ls' := [(0, .inr (.inr (.inl k0))), (1, .inl k1), (2, .inl k2), (3, .inl x3)]) (st' := [.inr (.inr (.inl k0))]) rfl ?_
  by_cases c23 : qO ah k0 6 = true
  case neg => exact absurd ((if_neg c23).symm.trans h) (by simp)
  have h := (if_pos c23).symm.trans h
  obtain ⟨q21, h22, h⟩ := Option.bind_eq_some_iff.mp h
  refine J_callV (md' := md_X6_nextTried) (As := []) (st := []) (cs' := (0, 0)) (st' := [.inl q21.1]) (jat ok_X6_mildest 82 (pc := 156) (i := .invokevirtual 241) (n := 3) rfl rfl) ml_RX6_241 yv_X6_nextTried c23 (c_X6_nextTried l g (d + 2) h22) (jRo_of (by decide)) (Nat.le_of_ble_eq_true rfl) ⟨Nat.le_of_ble_eq_true rfl, Nat.le_of_ble_eq_true rfl⟩ rfl rfl rfl ?_
  refine J_seg ok_X6_mildest 83 2 (pc' := 56) (ls' := [(4, .inl q21.1), (0, .inr (.inr (.inl k0))), (1, .inl k1), (2, .inl k2), (3, .inl x3)]) (st' := []) rfl ?_
  exact J_sub (ls' := [(0, .inr (.inr (.inl k0))), (1, .inl k1), (2, .inl k2), (3, .inl x3), (4, .inl q21.1)]) [1, 2, 3, 4, 0] rfl (hN ((x3, q21.1), q21.2) (Option.some.inj h).symm)
def f_X6_mildest_b102_j148 (k0 : Option Nat) (k1 : Int32) (k2 : Int32) (k3 : Int32) (x6 : Int32) (y0 : Int32) (y1 : Int32) (y2 : Option Nat) (ah : AH) : Option ((Unit × AH) ⊕ (((Unit) × AH) ⊕ ((Int32) × AH))) :=
  (sA ah y2 y1 y0).bind fun a46 => some (.inr (.inr (x6 + 1, a46)))
set_option maxRecDepth 100000 in
set_option maxHeartbeats 4000000 in
theorem k_X6_mildest_b102_j148 {l : Launch} {g : GX} (d : Nat) {Q : jQ} {k0 : Option Nat} {k1 : Int32} {k2 : Int32} {k3 : Int32} {x6 : Int32} {y0 : Int32} {y1 : Int32} {y2 : Option Nat} (ah : AH) (out : (Unit × AH) ⊕ (((Unit) × AH) ⊕ ((Int32) × AH))) (h : f_X6_mildest_b102_j148 k0 k1 k2 k3 x6 y0 y1 y2 ah = some out) (hR : ∀ q, out = .inl q → jRetN q.1 q.2) (hX : ∀ q, out = .inr (.inl q) → J l g md_X6_mildest (jRm (d + 3) md_X6_mildest) Q 155 [(0, .inr (.inr (.inl k0))), (1, .inl k1), (2, .inl k2), (3, .inl k3)] [] q.2 (0, 0)) (hN : ∀ q, out = .inr (.inr q) → J l g md_X6_mildest (jRm (d + 3) md_X6_mildest) Q 102 [(0, .inr (.inr (.inl k0))), (1, .inl k1), (2, .inl k2), (3, .inl k3), (6, .inl q.1)] [] q.2 (0, 0)) : J l g md_X6_mildest (jRm (d + 3) md_X6_mildest) Q 148 [(0, .inr (.inr (.inl k0))), (1, .inl k1), (2, .inl k2), (3, .inl k3), (6, .inl x6)] [.inl y0, .inl y1, .inr (.inr (.inl y2))] ah (0, 0) := by
  unfold f_X6_mildest_b102_j148 at h
  obtain ⟨a46, h47, h⟩ := Option.bind_eq_some_iff.mp h
  refine J_iast (jat ok_X6_mildest 78 (pc := 148) (i := .iastore) (n := 1) rfl rfl) h47 ?_
  refine J_seg ok_X6_mildest 79 2 (pc' := 102) (ls' := [(6, .inl (x6 + 1)), (0, .inr (.inr (.inl k0))), (1, .inl k1), (2, .inl k2), (3, .inl k3)]) (st' := []) rfl ?_
  exact J_sub (ls' := [(0, .inr (.inr (.inl k0))), (1, .inl k1), (2, .inl k2), (3, .inl k3), (6, .inl (x6 + 1))]) [1, 2, 3, 4, 0] rfl (hN (x6 + 1, a46) (Option.some.inj h).symm)
def f_X6_mildest_b102 (k0 : Option Nat) (k1 : Int32) (k2 : Int32) (k3 : Int32) (s102 : Int32) (ah : AH) : Option ((Unit × AH) ⊕ (((Unit) × AH) ⊕ ((Int32) × AH))) :=
  (gI ah k0 6 1).bind fun v32 => if v32 ≤ s102 then (some (.inr (.inl ((), ah)))) else ((gR ah k0 6 8).bind fun v34 => (gR ah k0 6 24).bind fun v36 => (gA ah v36 s102).bind fun v38 => (gI ah k0 6 1).bind fun v40 => if v38 = v40 then (f_X6_mildest_b102_j148 k0 k1 k2 k3 s102 (-9) ((40 * k1) + s102) v34 ah) else ((gR ah k0 6 24).bind fun v42 => (gA ah v42 s102).bind fun v44 => f_X6_mildest_b102_j148 k0 k1 k2 k3 s102 v44 ((40 * k1) + s102) v34 ah))
set_option maxRecDepth 100000 in
set_option maxHeartbeats 4000000 in
theorem k_X6_mildest_b102 {l : Launch} {g : GX} (d : Nat) {Q : jQ} {k0 : Option Nat} {k1 : Int32} {k2 : Int32} {k3 : Int32} (s102 : Int32) (ah : AH) (out : (Unit × AH) ⊕ (((Unit) × AH) ⊕ ((Int32) × AH))) (h : f_X6_mildest_b102 k0 k1 k2 k3 s102 ah = some out) (hR : ∀ q, out = .inl q → jRetN q.1 q.2) (hX : ∀ q, out = .inr (.inl q) → J l g md_X6_mildest (jRm (d + 3) md_X6_mildest) Q 155 [(0, .inr (.inr (.inl k0))), (1, .inl k1), (2, .inl k2), (3, .inl k3)] [] q.2 (0, 0)) (hN : ∀ q, out = .inr (.inr q) → J l g md_X6_mildest (jRm (d + 3) md_X6_mildest) Q 102 [(0, .inr (.inr (.inl k0))), (1, .inl k1), (2, .inl k2), (3, .inl k3), (6, .inl q.1)] [] q.2 (0, 0)) : J l g md_X6_mildest (jRm (d + 3) md_X6_mildest) Q 102 [(0, .inr (.inr (.inl k0))), (1, .inl k1), (2, .inl k2), (3, .inl k3), (6, .inl s102)] [] ah (0, 0) := by
  unfold f_X6_mildest_b102 at h
  refine J_seg ok_X6_mildest 54 2 (pc' := 105) (ls' := [(0, .inr (.inr (.inl k0))), (1, .inl k1), (2, .inl k2), (3, .inl k3), (6, .inl s102)]) (st' := [.inr (.inr (.inl k0)), .inl s102]) rfl ?_
  obtain ⟨v32, h33, h⟩ := Option.bind_eq_some_iff.mp h
  refine J_getI (jat ok_X6_mildest 56 (pc := 105) (i := .getfield 148) (n := 3) rfl rfl) fl_RX6_148 h33 ?_
  refine J_ge (jat ok_X6_mildest 57 (pc := 108) (i := .if_icmp .ge 47) (n := 3) rfl rfl) (tgt := 155) (by decide) (fun c => ?_) (fun c => ?_)
  · have h := (if_pos c).symm.trans h
    exact J_sub (ls' := [(0, .inr (.inr (.inl k0))), (1, .inl k1), (2, .inl k2), (3, .inl k3)]) [0, 1, 2, 3] rfl (hX ((), ah) (Option.some.inj h).symm)
  · have h := (if_neg c).symm.trans h
    refine J_seg ok_X6_mildest 58 1 (pc' := 112) (ls' := [(0, .inr (.inr (.inl k0))), (1, .inl k1), (2, .inl k2), (3, .inl k3), (6, .inl s102)]) (st' := [.inr (.inr (.inl k0))]) rfl ?_
    obtain ⟨v34, h35, h⟩ := Option.bind_eq_some_iff.mp h
    refine J_getR (jat ok_X6_mildest 59 (pc := 112) (i := .getfield 28) (n := 3) rfl rfl) fl_RX6_28 h35 ?_
    refine J_seg ok_X6_mildest 60 6 (pc' := 123) (ls' := [(0, .inr (.inr (.inl k0))), (1, .inl k1), (2, .inl k2), (3, .inl k3), (6, .inl s102)]) (st' := [.inr (.inr (.inl k0)), .inl ((40 * k1) + s102), .inr (.inr (.inl v34))]) rfl ?_
    obtain ⟨v36, h37, h⟩ := Option.bind_eq_some_iff.mp h
    refine J_getR (jat ok_X6_mildest 66 (pc := 123) (i := .getfield 53) (n := 3) rfl rfl) fl_RX6_53 h37 ?_
    refine J_seg ok_X6_mildest 67 1 (pc' := 128) (ls' := [(0, .inr (.inr (.inl k0))), (1, .inl k1), (2, .inl k2), (3, .inl k3), (6, .inl s102)]) (st' := [.inl s102, .inr (.inr (.inl v36)), .inl ((40 * k1) + s102), .inr (.inr (.inl v34))]) rfl ?_
    obtain ⟨v38, h39, h⟩ := Option.bind_eq_some_iff.mp h
    refine J_iald (jat ok_X6_mildest 68 (pc := 128) (i := .iaload) (n := 1) rfl rfl) h39 ?_
    refine J_seg ok_X6_mildest 69 1 (pc' := 130) (ls' := [(0, .inr (.inr (.inl k0))), (1, .inl k1), (2, .inl k2), (3, .inl k3), (6, .inl s102)]) (st' := [.inr (.inr (.inl k0)), .inl v38, .inl ((40 * k1) + s102), .inr (.inr (.inl v34))]) rfl ?_
    obtain ⟨v40, h41, h⟩ := Option.bind_eq_some_iff.mp h
    refine J_getI (jat ok_X6_mildest 70 (pc := 130) (i := .getfield 148) (n := 3) rfl rfl) fl_RX6_148 h41 ?_
    refine J_ne (jat ok_X6_mildest 71 (pc := 133) (i := .if_icmp .ne 8) (n := 3) rfl rfl) (tgt := 141) (by decide) (fun c => ?_) (fun c => ?_)
    · have h := (if_neg c).symm.trans h
      refine J_seg ok_X6_mildest 74 1 (pc' := 142) (ls' := [(0, .inr (.inr (.inl k0))), (1, .inl k1), (2, .inl k2), (3, .inl k3), (6, .inl s102)]) (st' := [.inr (.inr (.inl k0)), .inl ((40 * k1) + s102), .inr (.inr (.inl v34))]) rfl ?_
      obtain ⟨v42, h43, h⟩ := Option.bind_eq_some_iff.mp h
      refine J_getR (jat ok_X6_mildest 75 (pc := 142) (i := .getfield 53) (n := 3) rfl rfl) fl_RX6_53 h43 ?_
      refine J_seg ok_X6_mildest 76 1 (pc' := 147) (ls' := [(0, .inr (.inr (.inl k0))), (1, .inl k1), (2, .inl k2), (3, .inl k3), (6, .inl s102)]) (st' := [.inl s102, .inr (.inr (.inl v42)), .inl ((40 * k1) + s102), .inr (.inr (.inl v34))]) rfl ?_
      obtain ⟨v44, h45, h⟩ := Option.bind_eq_some_iff.mp h
      refine J_iald (jat ok_X6_mildest 77 (pc := 147) (i := .iaload) (n := 1) rfl rfl) h45 ?_
      refine J_sub (ls' := [(0, .inr (.inr (.inl k0))), (1, .inl k1), (2, .inl k2), (3, .inl k3), (6, .inl s102)]) [0, 1, 2, 3, 4] rfl ?_
      exact k_X6_mildest_b102_j148 d _ _ h hR hX hN
    · have h := (if_pos c).symm.trans h
      refine J_seg ok_X6_mildest 72 2 (pc' := 148) (ls' := [(0, .inr (.inr (.inl k0))), (1, .inl k1), (2, .inl k2), (3, .inl k3), (6, .inl s102)]) (st' := [.inl (-9), .inl ((40 * k1) + s102), .inr (.inr (.inl v34))]) rfl ?_
      refine J_sub (ls' := [(0, .inr (.inr (.inl k0))), (1, .inl k1), (2, .inl k2), (3, .inl k3), (6, .inl s102)]) [0, 1, 2, 3, 4] rfl ?_
      exact k_X6_mildest_b102_j148 d _ _ h hR hX hN
def f_X6_mildest_b56_j87 (k0 : Option Nat) (k1 : Int32) (k2 : Int32) (x5 : Int32) (ah : AH) : Option ((Unit × AH) ⊕ (((Int32) × AH) ⊕ ((Int32 × Int32) × AH))) :=
  (gI ah k0 6 1).bind fun v27 => if qO ah k0 6 = true then ((f_X6_makeRow k0 k1 v27 ah).bind fun q29 => (jloop (f_X6_mildest_b102 k0 k1 k2 x5) jfuel 0 q29.2).bind fun q48 => match q48 with | .inl r => none | .inr z50 => f_X6_mildest_b56_j155 k0 k1 k2 x5 z50.2) else none
set_option maxRecDepth 100000 in
set_option maxHeartbeats 4000000 in
theorem k_X6_mildest_b56_j87 {l : Launch} {g : GX} (d : Nat) {Q : jQ} {k0 : Option Nat} {k1 : Int32} {k2 : Int32} {x5 : Int32} (ah : AH) (out : (Unit × AH) ⊕ (((Int32) × AH) ⊕ ((Int32 × Int32) × AH))) (h : f_X6_mildest_b56_j87 k0 k1 k2 x5 ah = some out) (hR : ∀ q, out = .inl q → jRetN q.1 q.2) (hX : ∀ q, out = .inr (.inl q) → J l g md_X6_mildest (jRm (d + 3) md_X6_mildest) Q 164 [(3, .inl q.1)] [] q.2 (0, 0)) (hN : ∀ q, out = .inr (.inr q) → J l g md_X6_mildest (jRm (d + 3) md_X6_mildest) Q 56 [(0, .inr (.inr (.inl k0))), (1, .inl k1), (2, .inl k2), (3, .inl q.1.1), (4, .inl q.1.2)] [] q.2 (0, 0)) : J l g md_X6_mildest (jRm (d + 3) md_X6_mildest) Q 87 [(0, .inr (.inr (.inl k0))), (1, .inl k1), (2, .inl k2), (5, .inl x5)] [] ah (0, 0) := by
  unfold f_X6_mildest_b56_j87 at h
  refine J_seg ok_X6_mildest 45 5 (pc' := 93) (ls' := [(3, .inl x5), (0, .inr (.inr (.inl k0))), (1, .inl k1), (2, .inl k2), (5, .inl x5)]) (st' := [.inr (.inr (.inl k0)), .inl k1, .inr (.inr (.inl k0))]) rfl ?_
  obtain ⟨v27, h28, h⟩ := Option.bind_eq_some_iff.mp h
  refine J_getI (jat ok_X6_mildest 50 (pc := 93) (i := .getfield 148) (n := 3) rfl rfl) fl_RX6_148 h28 ?_
  by_cases c31 : qO ah k0 6 = true
  case neg => exact absurd ((if_neg c31).symm.trans h) (by simp)
  have h := (if_pos c31).symm.trans h
  obtain ⟨q29, h30, h⟩ := Option.bind_eq_some_iff.mp h
  refine J_callV (md' := md_X6_makeRow) (As := [.inl k1, .inl v27]) (st := []) (cs' := (0, 0)) (st' := []) (jat ok_X6_mildest 51 (pc := 96) (i := .invokevirtual 85) (n := 3) rfl rfl) ml_RX6_85 yv_X6_makeRow c31 (c_X6_makeRow l g (d + 2) h30) (jRo_of (by decide)) (Nat.le_of_ble_eq_true rfl) ⟨Nat.le_of_ble_eq_true rfl, Nat.le_of_ble_eq_true rfl⟩ rfl rfl rfl ?_
  refine J_seg ok_X6_mildest 52 2 (pc' := 102) (ls' := [(6, .inl 0), (3, .inl x5), (0, .inr (.inr (.inl k0))), (1, .inl k1), (2, .inl k2), (5, .inl x5)]) (st' := []) rfl ?_
  obtain ⟨q48, h49, h⟩ := Option.bind_eq_some_iff.mp h
  refine J_sub (ls' := [(0, .inr (.inr (.inl k0))), (1, .inl k1), (2, .inl k2), (3, .inl x5), (6, .inl 0)]) [2, 3, 4, 1, 0] rfl ?_
  refine J_loop (pE := 155) (lh := fun t51 => [(0, .inr (.inr (.inl k0))), (1, .inl k1), (2, .inl k2), (3, .inl x5), (6, .inl t51)]) (lx := fun z50 => [(0, .inr (.inr (.inl k0))), (1, .inl k1), (2, .inl k2), (3, .inl x5)]) (P := jRetN) (fun s ah out hb hR hX hN => k_X6_mildest_b102 d s ah out hb hR hX hN) jfuel 0 _ _ h49 (fun r e => ?_) (fun z50 e => ?_)
  · subst e
    dsimp only at h
    cases h
  · subst e
    dsimp only at h
    refine J_sub (ls' := [(0, .inr (.inr (.inl k0))), (1, .inl k1), (2, .inl k2), (3, .inl x5)]) [0, 1, 2, 3] rfl ?_
    exact k_X6_mildest_b56_j155 d _ _ h hR hX hN
def f_X6_mildest_b56 (k0 : Option Nat) (k1 : Int32) (k2 : Int32) (s56 : Int32 × Int32) (ah : AH) : Option ((Unit × AH) ⊕ (((Int32) × AH) ⊕ ((Int32 × Int32) × AH))) :=
  if s56.2 = 0 then (some (.inr (.inl (s56.1, ah)))) else (if qO ah k0 6 = true then ((f_X6_leftOf k0 k2 ah).bind fun q18 => if q18.1 = 0 then (if qO q18.2 k0 6 = true then ((f_X6_strengthsTried k0 q18.2).bind fun q24 => if s56.1 = (-9) then (f_X6_mildest_b56_j87 k0 k1 k2 q24.1 q24.2) else (if s56.1 ≤ q24.1 then (f_X6_mildest_b56_j155 k0 k1 k2 s56.1 q24.2) else (f_X6_mildest_b56_j87 k0 k1 k2 q24.1 q24.2))) else none) else (f_X6_mildest_b56_j155 k0 k1 k2 s56.1 q18.2)) else none)
set_option maxRecDepth 100000 in
set_option maxHeartbeats 4000000 in
theorem k_X6_mildest_b56 {l : Launch} {g : GX} (d : Nat) {Q : jQ} {k0 : Option Nat} {k1 : Int32} {k2 : Int32} (s56 : Int32 × Int32) (ah : AH) (out : (Unit × AH) ⊕ (((Int32) × AH) ⊕ ((Int32 × Int32) × AH))) (h : f_X6_mildest_b56 k0 k1 k2 s56 ah = some out) (hR : ∀ q, out = .inl q → jRetN q.1 q.2) (hX : ∀ q, out = .inr (.inl q) → J l g md_X6_mildest (jRm (d + 3) md_X6_mildest) Q 164 [(3, .inl q.1)] [] q.2 (0, 0)) (hN : ∀ q, out = .inr (.inr q) → J l g md_X6_mildest (jRm (d + 3) md_X6_mildest) Q 56 [(0, .inr (.inr (.inl k0))), (1, .inl k1), (2, .inl k2), (3, .inl q.1.1), (4, .inl q.1.2)] [] q.2 (0, 0)) : J l g md_X6_mildest (jRm (d + 3) md_X6_mildest) Q 56 [(0, .inr (.inr (.inl k0))), (1, .inl k1), (2, .inl k2), (3, .inl s56.1), (4, .inl s56.2)] [] ah (0, 0) := by
  unfold f_X6_mildest_b56 at h
  refine J_seg ok_X6_mildest 30 1 (pc' := 58) (ls' := [(0, .inr (.inr (.inl k0))), (1, .inl k1), (2, .inl k2), (3, .inl s56.1), (4, .inl s56.2)]) (st' := [.inl s56.2]) rfl ?_
  refine J_eq0 (jat ok_X6_mildest 31 (pc := 58) (i := .ifCond .eq 106) (n := 3) rfl rfl) (tgt := 164) (by decide) (fun c => ?_) (fun c => ?_)
  · have h := (if_pos c).symm.trans h
    exact J_sub (ls' := [(3, .inl s56.1)]) [3] rfl (hX (s56.1, ah) (Option.some.inj h).symm)
  · have h := (if_neg c).symm.trans h
    refine J_seg ok_X6_mildest 32 2 (pc' := 63) (ls' := [(0, .inr (.inr (.inl k0))), (1, .inl k1), (2, .inl k2), (3, .inl s56.1), (4, .inl s56.2)]) (st' := [.inl k2, .inr (.inr (.inl k0))]) rfl ?_
    by_cases c20 : qO ah k0 6 = true
    case neg => exact absurd ((if_neg c20).symm.trans h) (by simp)
    have h := (if_pos c20).symm.trans h
    obtain ⟨q18, h19, h⟩ := Option.bind_eq_some_iff.mp h
    refine J_callV (md' := md_X6_leftOf) (As := [.inl k2]) (st := []) (cs' := (0, 0)) (st' := [.inl q18.1]) (jat ok_X6_mildest 34 (pc := 63) (i := .invokevirtual 235) (n := 3) rfl rfl) ml_RX6_235 yv_X6_leftOf c20 (c_X6_leftOf l g (d + 1) h19) (jRo_of (by decide)) (Nat.le_of_ble_eq_true rfl) ⟨Nat.le_of_ble_eq_true rfl, Nat.le_of_ble_eq_true rfl⟩ rfl rfl rfl ?_
    refine J_ne0 (jat ok_X6_mildest 35 (pc := 66) (i := .ifCond .ne 89) (n := 3) rfl rfl) (tgt := 155) (by decide) (fun c => ?_) (fun c => ?_)
    · have h := (if_neg c).symm.trans h
      refine J_sub (ls' := [(0, .inr (.inr (.inl k0))), (1, .inl k1), (2, .inl k2), (3, .inl s56.1)]) [0, 1, 2, 3] rfl ?_
      exact k_X6_mildest_b56_j155 d _ _ h hR hX hN
    · have h := (if_pos c).symm.trans h
      refine J_seg ok_X6_mildest 36 1 (pc' := 70) (ls' := [(0, .inr (.inr (.inl k0))), (1, .inl k1), (2, .inl k2), (3, .inl s56.1), (4, .inl s56.2)]) (st' := [.inr (.inr (.inl k0))]) rfl ?_
      by_cases c26 : qO q18.2 k0 6 = true
      case neg => exact absurd ((if_neg c26).symm.trans h) (by simp)
      have h := (if_pos c26).symm.trans h
      obtain ⟨q24, h25, h⟩ := Option.bind_eq_some_iff.mp h
      refine J_callV (md' := md_X6_strengthsTried) (As := []) (st := []) (cs' := (0, 0)) (st' := [.inl q24.1]) (jat ok_X6_mildest 37 (pc := 70) (i := .invokevirtual 238) (n := 3) rfl rfl) ml_RX6_238 yv_X6_strengthsTried c26 (c_X6_strengthsTried l g (d + 0) h25) (jRo_of (by decide)) (Nat.le_of_ble_eq_true rfl) ⟨Nat.le_of_ble_eq_true rfl, Nat.le_of_ble_eq_true rfl⟩ rfl rfl rfl ?_
      refine J_seg ok_X6_mildest 38 3 (pc' := 78) (ls' := [(5, .inl q24.1), (0, .inr (.inr (.inl k0))), (1, .inl k1), (2, .inl k2), (3, .inl s56.1), (4, .inl s56.2)]) (st' := [.inl (-9), .inl s56.1]) rfl ?_
      refine J_eq (jat ok_X6_mildest 41 (pc := 78) (i := .if_icmp .eq 9) (n := 3) rfl rfl) (tgt := 87) (by decide) (fun c => ?_) (fun c => ?_)
      · have h := (if_pos c).symm.trans h
        refine J_sub (ls' := [(0, .inr (.inr (.inl k0))), (1, .inl k1), (2, .inl k2), (5, .inl q24.1)]) [1, 2, 3, 0] rfl ?_
        exact k_X6_mildest_b56_j87 d _ _ h hR hX hN
      · have h := (if_neg c).symm.trans h
        refine J_seg ok_X6_mildest 42 2 (pc' := 84) (ls' := [(5, .inl q24.1), (0, .inr (.inr (.inl k0))), (1, .inl k1), (2, .inl k2), (3, .inl s56.1), (4, .inl s56.2)]) (st' := [.inl s56.1, .inl q24.1]) rfl ?_
        refine J_ge (jat ok_X6_mildest 44 (pc := 84) (i := .if_icmp .ge 71) (n := 3) rfl rfl) (tgt := 155) (by decide) (fun c => ?_) (fun c => ?_)
        · have h := (if_pos c).symm.trans h
          refine J_sub (ls' := [(0, .inr (.inr (.inl k0))), (1, .inl k1), (2, .inl k2), (3, .inl s56.1)]) [1, 2, 3, 4] rfl ?_
          exact k_X6_mildest_b56_j155 d _ _ h hR hX hN
        · have h := (if_neg c).symm.trans h
          refine J_sub (ls' := [(0, .inr (.inr (.inl k0))), (1, .inl k1), (2, .inl k2), (5, .inl q24.1)]) [1, 2, 3, 0] rfl ?_
          exact k_X6_mildest_b56_j87 d _ _ h hR hX hN
def f_X6_mildest (x0 : Option Nat) (x1 : Int32) (ah : AH) : Option (Int32 × AH) :=
  (f_X6_isRow x1 ah).bind fun q1 => if q1.1 = 0 then (some ((-1), q1.2)) else ((gI q1.2 x0 6 1).bind fun v3 => if v3 = 0 then (some ((-4), q1.2)) else (if qO q1.2 x0 6 = true then ((f_X6_victimsNow x0 q1.2).bind fun q5 => (jloop (f_X6_mildest_b30 x0 x1 q5.1 (-9)) jfuel 0 q5.2).bind fun q14 => match q14 with | .inl r => none | .inr z16 => (jloop (f_X6_mildest_b56 x0 x1 q5.1) jfuel ((-9), 1) z16.2).bind fun q52 => match q52 with | .inl r => none | .inr z54 => some (z54.1, z54.2)) else none))
set_option maxRecDepth 100000 in
set_option maxHeartbeats 4000000 in
theorem k_X6_mildest {l : Launch} {g : GX} (d : Nat) {Q : jQ} {x0 : Option Nat} {x1 : Int32} (ah : AH) (out : Int32 × AH) (h : f_X6_mildest x0 x1 ah = some out) (hR : jRetI l g md_X6_mildest (jRm (d + 3) md_X6_mildest) Q (0, 0) out.1 out.2) : J l g md_X6_mildest (jRm (d + 3) md_X6_mildest) Q 0 [(0, .inr (.inr (.inl x0))), (1, .inl x1)] [] ah (0, 0) := by
  unfold f_X6_mildest at h
  refine J_seg ok_X6_mildest 0 1 (pc' := 1) (ls' := [(0, .inr (.inr (.inl x0))), (1, .inl x1)]) (st' := [.inl x1]) rfl ?_
  obtain ⟨q1, h2, h⟩ := Option.bind_eq_some_iff.mp h
  refine J_callS (md' := md_X6_isRow) (As := [.inl x1]) (st := []) (cs' := (0, 0)) (st' := [.inl q1.1]) (jat ok_X6_mildest 1 (pc := 1) (i := .invokestatic 77) (n := 3) rfl rfl) (Or.inl ml_RX6_77) ys_X6_isRow (c_X6_isRow l g (d + 1) h2) (jRo_of (by decide)) (Nat.le_of_ble_eq_true rfl) ⟨Nat.le_of_ble_eq_true rfl, Nat.le_of_ble_eq_true rfl⟩ rfl rfl rfl ?_
  refine J_ne0 (jat ok_X6_mildest 2 (pc := 4) (i := .ifCond .ne 5) (n := 3) rfl rfl) (tgt := 9) (by decide) (fun c => ?_) (fun c => ?_)
  · have h := (if_neg c).symm.trans h
    refine J_seg ok_X6_mildest 5 1 (pc' := 10) (ls' := [(0, .inr (.inr (.inl x0))), (1, .inl x1)]) (st' := [.inr (.inr (.inl x0))]) rfl ?_
    obtain ⟨v3, h4, h⟩ := Option.bind_eq_some_iff.mp h
    refine J_getI (jat ok_X6_mildest 6 (pc := 10) (i := .getfield 148) (n := 3) rfl rfl) fl_RX6_148 h4 ?_
    refine J_ne0 (jat ok_X6_mildest 7 (pc := 13) (i := .ifCond .ne 6) (n := 3) rfl rfl) (tgt := 19) (by decide) (fun c => ?_) (fun c => ?_)
    · have h := (if_neg c).symm.trans h
      refine J_seg ok_X6_mildest 10 1 (pc' := 20) (ls' := [(0, .inr (.inr (.inl x0))), (1, .inl x1)]) (st' := [.inr (.inr (.inl x0))]) rfl ?_
      by_cases c7 : qO q1.2 x0 6 = true
      case neg => exact absurd ((if_neg c7).symm.trans h) (by simp)
      have h := (if_pos c7).symm.trans h
      obtain ⟨q5, h6, h⟩ := Option.bind_eq_some_iff.mp h
      refine J_callV (md' := md_X6_victimsNow) (As := []) (st := []) (cs' := (0, 0)) (st' := [.inl q5.1]) (jat ok_X6_mildest 11 (pc := 20) (i := .invokevirtual 232) (n := 3) rfl rfl) ml_RX6_232 yv_X6_victimsNow c7 (c_X6_victimsNow l g (d + 1) h6) (jRo_of (by decide)) (Nat.le_of_ble_eq_true rfl) ⟨Nat.le_of_ble_eq_true rfl, Nat.le_of_ble_eq_true rfl⟩ rfl rfl rfl ?_
      refine J_seg ok_X6_mildest 12 5 (pc' := 30) (ls' := [(4, .inl 0), (3, .inl (-9)), (2, .inl q5.1), (0, .inr (.inr (.inl x0))), (1, .inl x1)]) (st' := []) rfl ?_
      obtain ⟨q14, h15, h⟩ := Option.bind_eq_some_iff.mp h
      refine J_sub (ls' := [(0, .inr (.inr (.inl x0))), (1, .inl x1), (2, .inl q5.1), (3, .inl (-9)), (4, .inl 0)]) [3, 4, 2, 1, 0] rfl ?_
      refine J_loop (pE := 53) (lh := fun t17 => [(0, .inr (.inr (.inl x0))), (1, .inl x1), (2, .inl q5.1), (3, .inl (-9)), (4, .inl t17)]) (lx := fun z16 => [(0, .inr (.inr (.inl x0))), (1, .inl x1), (2, .inl q5.1), (3, .inl (-9))]) (P := jRetN) (fun s ah out hb hR hX hN => k_X6_mildest_b30 d s ah out hb hR hX hN) jfuel 0 _ _ h15 (fun r e => ?_) (fun z16 e => ?_)
      · subst e
        dsimp only at h
        cases h
      · subst e
        dsimp only at h
        refine J_seg ok_X6_mildest 28 2 (pc' := 56) (ls' := [(4, .inl 1), (0, .inr (.inr (.inl x0))), (1, .inl x1), (2, .inl q5.1), (3, .inl (-9))]) (st' := []) rfl ?_
        obtain ⟨q52, h53, h⟩ := Option.bind_eq_some_iff.mp h
        refine J_sub (ls' := [(0, .inr (.inr (.inl x0))), (1, .inl x1), (2, .inl q5.1), (3, .inl (-9)), (4, .inl 1)]) [1, 2, 3, 4, 0] rfl ?_
        refine J_loop (pE := 164) (lh := fun t55 => [(0, .inr (.inr (.inl x0))), (1, .inl x1), (2, .inl q5.1), (3, .inl t55.1), (4, .inl t55.2)]) (lx := fun z54 => [(3, .inl z54)]) (P := jRetN) (fun s ah out hb hR hX hN => k_X6_mildest_b56 d s ah out hb hR hX hN) jfuel ((-9), 1) _ _ h53 (fun r e => ?_) (fun z54 e => ?_)
        · subst e
          dsimp only at h
          cases h
        · subst e
          dsimp only at h
          refine J_seg ok_X6_mildest 85 1 (pc' := 165) (ls' := [(3, .inl z54.1)]) (st' := [.inl z54.1]) rfl ?_
          have h := Option.some.inj h
          subst h
          exact hR _ _ (jat ok_X6_mildest 86 (pc := 165) (i := .ireturn) (n := 1) rfl rfl)
    · have h := (if_pos c).symm.trans h
      refine J_seg ok_X6_mildest 8 1 (pc' := 18) (ls' := [(0, .inr (.inr (.inl x0))), (1, .inl x1)]) (st' := [.inl (-4)]) rfl ?_
      have h := Option.some.inj h
      subst h
      exact hR _ _ (jat ok_X6_mildest 9 (pc := 18) (i := .ireturn) (n := 1) rfl rfl)
  · have h := (if_pos c).symm.trans h
    refine J_seg ok_X6_mildest 3 1 (pc' := 8) (ls' := [(0, .inr (.inr (.inl x0))), (1, .inl x1)]) (st' := [.inl (-1)]) rfl ?_
    have h := Option.some.inj h
    subst h
    exact hR _ _ (jat ok_X6_mildest 4 (pc := 8) (i := .ireturn) (n := 1) rfl rfl)
theorem c_X6_mildest (l : Launch) (g : GX) (d : Nat) {x0 : Option Nat} {x1 : Int32} {ah : AH} {q : Int32 × AH} (h : f_X6_mildest x0 x1 ah = some q) : jM l g (d + 3) md_X6_mildest [.inr (.inr (.inl x0)), .inl x1] ah (some (.inl q.1)) q.2 :=
  jM_of (by decide) (Nat.le_of_ble_eq_true rfl) (k_X6_mildest d ah q h (fun pc ls hd => J_reti hd rfl (jPV_int _) rfl (Nat.le_refl _) rfl rfl))
def f_X6_isMap_b4_j72 (k0 : Option Nat) (k1 : Int32) (x2 : Int32) (x3 : Int32) (y0 : Int32) (y1 : Int32) (y2 : Option Nat) (ah : AH) : Option ((Unit × AH) ⊕ (((Int32) × AH) ⊕ ((Int32 × Int32) × AH))) :=
  (sA ah y2 y1 y0).bind fun a9 => some (.inr (.inr ((x2, x3 + 1), a9)))
set_option maxRecDepth 100000 in
set_option maxHeartbeats 4000000 in
theorem k_X6_isMap_b4_j72 {l : Launch} {g : GX} (d : Nat) {Q : jQ} {k0 : Option Nat} {k1 : Int32} {x2 : Int32} {x3 : Int32} {y0 : Int32} {y1 : Int32} {y2 : Option Nat} (ah : AH) (out : (Unit × AH) ⊕ (((Int32) × AH) ⊕ ((Int32 × Int32) × AH))) (h : f_X6_isMap_b4_j72 k0 k1 x2 x3 y0 y1 y2 ah = some out) (hR : ∀ q, out = .inl q → jRetN q.1 q.2) (hX : ∀ q, out = .inr (.inl q) → J l g md_X6_isMap (jRm (d + 2) md_X6_isMap) Q 79 [(0, .inr (.inr (.inl k0))), (2, .inl q.1)] [] q.2 (0, 0)) (hN : ∀ q, out = .inr (.inr q) → J l g md_X6_isMap (jRm (d + 2) md_X6_isMap) Q 4 [(0, .inr (.inr (.inl k0))), (1, .inl k1), (2, .inl q.1.1), (3, .inl q.1.2)] [] q.2 (0, 0)) : J l g md_X6_isMap (jRm (d + 2) md_X6_isMap) Q 72 [(0, .inr (.inr (.inl k0))), (1, .inl k1), (2, .inl x2), (3, .inl x3)] [.inl y0, .inl y1, .inr (.inr (.inl y2))] ah (0, 0) := by
  unfold f_X6_isMap_b4_j72 at h
  obtain ⟨a9, h10, h⟩ := Option.bind_eq_some_iff.mp h
  refine J_iast (jat ok_X6_isMap 40 (pc := 72) (i := .iastore) (n := 1) rfl rfl) h10 ?_
  refine J_seg ok_X6_isMap 41 2 (pc' := 4) (ls' := [(3, .inl (x3 + 1)), (0, .inr (.inr (.inl k0))), (1, .inl k1), (2, .inl x2)]) (st' := []) rfl ?_
  exact J_sub (ls' := [(0, .inr (.inr (.inl k0))), (1, .inl k1), (2, .inl x2), (3, .inl (x3 + 1))]) [1, 2, 3, 0] rfl (hN ((x2, x3 + 1), a9) (Option.some.inj h).symm)
def f_X6_isMap_b4_j50 (k0 : Option Nat) (k1 : Int32) (x3 : Int32) (x4 : Int32) (y0 : Int32) (ah : AH) : Option ((Unit × AH) ⊕ (((Int32) × AH) ⊕ ((Int32 × Int32) × AH))) :=
  (gR ah k0 6 24).bind fun v7 => if x4 = (-9) then ((gI ah k0 6 1).bind fun v11 => f_X6_isMap_b4_j72 k0 k1 y0 x3 v11 x3 v7 ah) else (f_X6_isMap_b4_j72 k0 k1 y0 x3 x4 x3 v7 ah)
set_option maxRecDepth 100000 in
set_option maxHeartbeats 4000000 in
theorem k_X6_isMap_b4_j50 {l : Launch} {g : GX} (d : Nat) {Q : jQ} {k0 : Option Nat} {k1 : Int32} {x3 : Int32} {x4 : Int32} {y0 : Int32} (ah : AH) (out : (Unit × AH) ⊕ (((Int32) × AH) ⊕ ((Int32 × Int32) × AH))) (h : f_X6_isMap_b4_j50 k0 k1 x3 x4 y0 ah = some out) (hR : ∀ q, out = .inl q → jRetN q.1 q.2) (hX : ∀ q, out = .inr (.inl q) → J l g md_X6_isMap (jRm (d + 2) md_X6_isMap) Q 79 [(0, .inr (.inr (.inl k0))), (2, .inl q.1)] [] q.2 (0, 0)) (hN : ∀ q, out = .inr (.inr q) → J l g md_X6_isMap (jRm (d + 2) md_X6_isMap) Q 4 [(0, .inr (.inr (.inl k0))), (1, .inl k1), (2, .inl q.1.1), (3, .inl q.1.2)] [] q.2 (0, 0)) : J l g md_X6_isMap (jRm (d + 2) md_X6_isMap) Q 50 [(0, .inr (.inr (.inl k0))), (1, .inl k1), (3, .inl x3), (4, .inl x4)] [.inl y0] ah (0, 0) := by
  unfold f_X6_isMap_b4_j50 at h
  refine J_seg ok_X6_isMap 29 2 (pc' := 52) (ls' := [(2, .inl y0), (0, .inr (.inr (.inl k0))), (1, .inl k1), (3, .inl x3), (4, .inl x4)]) (st' := [.inr (.inr (.inl k0))]) rfl ?_
  obtain ⟨v7, h8, h⟩ := Option.bind_eq_some_iff.mp h
  refine J_getR (jat ok_X6_isMap 31 (pc := 52) (i := .getfield 53) (n := 3) rfl rfl) fl_RX6_53 h8 ?_
  refine J_seg ok_X6_isMap 32 3 (pc' := 60) (ls' := [(2, .inl y0), (0, .inr (.inr (.inl k0))), (1, .inl k1), (3, .inl x3), (4, .inl x4)]) (st' := [.inl (-9), .inl x4, .inl x3, .inr (.inr (.inl v7))]) rfl ?_
  refine J_ne (jat ok_X6_isMap 35 (pc := 60) (i := .if_icmp .ne 10) (n := 3) rfl rfl) (tgt := 70) (by decide) (fun c => ?_) (fun c => ?_)
  · have h := (if_neg c).symm.trans h
    refine J_seg ok_X6_isMap 39 1 (pc' := 72) (ls' := [(2, .inl y0), (0, .inr (.inr (.inl k0))), (1, .inl k1), (3, .inl x3), (4, .inl x4)]) (st' := [.inl x4, .inl x3, .inr (.inr (.inl v7))]) rfl ?_
    refine J_sub (ls' := [(0, .inr (.inr (.inl k0))), (1, .inl k1), (2, .inl y0), (3, .inl x3)]) [1, 2, 0, 3] rfl ?_
    exact k_X6_isMap_b4_j72 d _ _ h hR hX hN
  · have h := (if_pos c).symm.trans h
    refine J_seg ok_X6_isMap 36 1 (pc' := 64) (ls' := [(2, .inl y0), (0, .inr (.inr (.inl k0))), (1, .inl k1), (3, .inl x3), (4, .inl x4)]) (st' := [.inr (.inr (.inl k0)), .inl x3, .inr (.inr (.inl v7))]) rfl ?_
    obtain ⟨v11, h12, h⟩ := Option.bind_eq_some_iff.mp h
    refine J_getI (jat ok_X6_isMap 37 (pc := 64) (i := .getfield 148) (n := 3) rfl rfl) fl_RX6_148 h12 ?_
    refine J_seg ok_X6_isMap 38 1 (pc' := 72) (ls' := [(2, .inl y0), (0, .inr (.inr (.inl k0))), (1, .inl k1), (3, .inl x3), (4, .inl x4)]) (st' := [.inl v11, .inl x3, .inr (.inr (.inl v7))]) rfl ?_
    refine J_sub (ls' := [(0, .inr (.inr (.inl k0))), (1, .inl k1), (2, .inl y0), (3, .inl x3)]) [1, 2, 0, 3] rfl ?_
    exact k_X6_isMap_b4_j72 d _ _ h hR hX hN
def f_X6_isMap_b4_j49 (k0 : Option Nat) (k1 : Int32) (x3 : Int32) (x4 : Int32) (ah : AH) : Option ((Unit × AH) ⊕ (((Int32) × AH) ⊕ ((Int32 × Int32) × AH))) :=
  f_X6_isMap_b4_j50 k0 k1 x3 x4 0 ah
set_option maxRecDepth 100000 in
set_option maxHeartbeats 4000000 in
theorem k_X6_isMap_b4_j49 {l : Launch} {g : GX} (d : Nat) {Q : jQ} {k0 : Option Nat} {k1 : Int32} {x3 : Int32} {x4 : Int32} (ah : AH) (out : (Unit × AH) ⊕ (((Int32) × AH) ⊕ ((Int32 × Int32) × AH))) (h : f_X6_isMap_b4_j49 k0 k1 x3 x4 ah = some out) (hR : ∀ q, out = .inl q → jRetN q.1 q.2) (hX : ∀ q, out = .inr (.inl q) → J l g md_X6_isMap (jRm (d + 2) md_X6_isMap) Q 79 [(0, .inr (.inr (.inl k0))), (2, .inl q.1)] [] q.2 (0, 0)) (hN : ∀ q, out = .inr (.inr q) → J l g md_X6_isMap (jRm (d + 2) md_X6_isMap) Q 4 [(0, .inr (.inr (.inl k0))), (1, .inl k1), (2, .inl q.1.1), (3, .inl q.1.2)] [] q.2 (0, 0)) : J l g md_X6_isMap (jRm (d + 2) md_X6_isMap) Q 49 [(0, .inr (.inr (.inl k0))), (1, .inl k1), (3, .inl x3), (4, .inl x4)] [] ah (0, 0) := by
  unfold f_X6_isMap_b4_j49 at h
  refine J_seg ok_X6_isMap 28 1 (pc' := 50) (ls' := [(0, .inr (.inr (.inl k0))), (1, .inl k1), (3, .inl x3), (4, .inl x4)]) (st' := [.inl 0]) rfl ?_
  refine J_sub (ls' := [(0, .inr (.inr (.inl k0))), (1, .inl k1), (3, .inl x3), (4, .inl x4)]) [0, 1, 2, 3] rfl ?_
  exact k_X6_isMap_b4_j50 d _ _ h hR hX hN
def f_X6_isMap_b4_j45 (k0 : Option Nat) (k1 : Int32) (x3 : Int32) (x4 : Int32) (ah : AH) : Option ((Unit × AH) ⊕ (((Int32) × AH) ⊕ ((Int32 × Int32) × AH))) :=
  f_X6_isMap_b4_j50 k0 k1 x3 x4 1 ah
set_option maxRecDepth 100000 in
set_option maxHeartbeats 4000000 in
theorem k_X6_isMap_b4_j45 {l : Launch} {g : GX} (d : Nat) {Q : jQ} {k0 : Option Nat} {k1 : Int32} {x3 : Int32} {x4 : Int32} (ah : AH) (out : (Unit × AH) ⊕ (((Int32) × AH) ⊕ ((Int32 × Int32) × AH))) (h : f_X6_isMap_b4_j45 k0 k1 x3 x4 ah = some out) (hR : ∀ q, out = .inl q → jRetN q.1 q.2) (hX : ∀ q, out = .inr (.inl q) → J l g md_X6_isMap (jRm (d + 2) md_X6_isMap) Q 79 [(0, .inr (.inr (.inl k0))), (2, .inl q.1)] [] q.2 (0, 0)) (hN : ∀ q, out = .inr (.inr q) → J l g md_X6_isMap (jRm (d + 2) md_X6_isMap) Q 4 [(0, .inr (.inr (.inl k0))), (1, .inl k1), (2, .inl q.1.1), (3, .inl q.1.2)] [] q.2 (0, 0)) : J l g md_X6_isMap (jRm (d + 2) md_X6_isMap) Q 45 [(0, .inr (.inr (.inl k0))), (1, .inl k1), (3, .inl x3), (4, .inl x4)] [] ah (0, 0) := by
  unfold f_X6_isMap_b4_j45 at h
  refine J_seg ok_X6_isMap 26 2 (pc' := 50) (ls' := [(0, .inr (.inr (.inl k0))), (1, .inl k1), (3, .inl x3), (4, .inl x4)]) (st' := [.inl 1]) rfl ?_
  refine J_sub (ls' := [(0, .inr (.inr (.inl k0))), (1, .inl k1), (3, .inl x3), (4, .inl x4)]) [0, 1, 2, 3] rfl ?_
  exact k_X6_isMap_b4_j50 d _ _ h hR hX hN
def f_X6_isMap_b4 (k0 : Option Nat) (k1 : Int32) (s4 : Int32 × Int32) (ah : AH) : Option ((Unit × AH) ⊕ (((Int32) × AH) ⊕ ((Int32 × Int32) × AH))) :=
  (gI ah k0 6 1).bind fun v1 => if v1 ≤ s4.2 then (some (.inr (.inl (s4.1, ah)))) else ((gR ah k0 6 8).bind fun v3 => (gA ah v3 ((40 * k1) + s4.2)).bind fun v5 => if s4.1 = 0 then (f_X6_isMap_b4_j49 k0 k1 s4.2 v5 ah) else (if v5 = (-9) then (f_X6_isMap_b4_j45 k0 k1 s4.2 v5 ah) else (if qO ah k0 6 = true then ((f_X6_isPerson k0 v5 ah).bind fun q13 => if q13.1 = 0 then (f_X6_isMap_b4_j49 k0 k1 s4.2 v5 q13.2) else (f_X6_isMap_b4_j45 k0 k1 s4.2 v5 q13.2)) else none)))
set_option maxRecDepth 100000 in
set_option maxHeartbeats 4000000 in
theorem k_X6_isMap_b4 {l : Launch} {g : GX} (d : Nat) {Q : jQ} {k0 : Option Nat} {k1 : Int32} (s4 : Int32 × Int32) (ah : AH) (out : (Unit × AH) ⊕ (((Int32) × AH) ⊕ ((Int32 × Int32) × AH))) (h : f_X6_isMap_b4 k0 k1 s4 ah = some out) (hR : ∀ q, out = .inl q → jRetN q.1 q.2) (hX : ∀ q, out = .inr (.inl q) → J l g md_X6_isMap (jRm (d + 2) md_X6_isMap) Q 79 [(0, .inr (.inr (.inl k0))), (2, .inl q.1)] [] q.2 (0, 0)) (hN : ∀ q, out = .inr (.inr q) → J l g md_X6_isMap (jRm (d + 2) md_X6_isMap) Q 4 [(0, .inr (.inr (.inl k0))), (1, .inl k1), (2, .inl q.1.1), (3, .inl q.1.2)] [] q.2 (0, 0)) : J l g md_X6_isMap (jRm (d + 2) md_X6_isMap) Q 4 [(0, .inr (.inr (.inl k0))), (1, .inl k1), (2, .inl s4.1), (3, .inl s4.2)] [] ah (0, 0) := by
  unfold f_X6_isMap_b4 at h
  refine J_seg ok_X6_isMap 4 2 (pc' := 6) (ls' := [(0, .inr (.inr (.inl k0))), (1, .inl k1), (2, .inl s4.1), (3, .inl s4.2)]) (st' := [.inr (.inr (.inl k0)), .inl s4.2]) rfl ?_
  obtain ⟨v1, h2, h⟩ := Option.bind_eq_some_iff.mp h
  refine J_getI (jat ok_X6_isMap 6 (pc := 6) (i := .getfield 148) (n := 3) rfl rfl) fl_RX6_148 h2 ?_
  refine J_ge (jat ok_X6_isMap 7 (pc := 9) (i := .if_icmp .ge 70) (n := 3) rfl rfl) (tgt := 79) (by decide) (fun c => ?_) (fun c => ?_)
  · have h := (if_pos c).symm.trans h
    exact J_sub (ls' := [(0, .inr (.inr (.inl k0))), (2, .inl s4.1)]) [0, 2] rfl (hX (s4.1, ah) (Option.some.inj h).symm)
  · have h := (if_neg c).symm.trans h
    refine J_seg ok_X6_isMap 8 1 (pc' := 13) (ls' := [(0, .inr (.inr (.inl k0))), (1, .inl k1), (2, .inl s4.1), (3, .inl s4.2)]) (st' := [.inr (.inr (.inl k0))]) rfl ?_
    obtain ⟨v3, h4, h⟩ := Option.bind_eq_some_iff.mp h
    refine J_getR (jat ok_X6_isMap 9 (pc := 13) (i := .getfield 28) (n := 3) rfl rfl) fl_RX6_28 h4 ?_
    refine J_seg ok_X6_isMap 10 5 (pc' := 22) (ls' := [(0, .inr (.inr (.inl k0))), (1, .inl k1), (2, .inl s4.1), (3, .inl s4.2)]) (st' := [.inl ((40 * k1) + s4.2), .inr (.inr (.inl v3))]) rfl ?_
    obtain ⟨v5, h6, h⟩ := Option.bind_eq_some_iff.mp h
    refine J_iald (jat ok_X6_isMap 15 (pc := 22) (i := .iaload) (n := 1) rfl rfl) h6 ?_
    refine J_seg ok_X6_isMap 16 2 (pc' := 26) (ls' := [(4, .inl v5), (0, .inr (.inr (.inl k0))), (1, .inl k1), (2, .inl s4.1), (3, .inl s4.2)]) (st' := [.inl s4.1]) rfl ?_
    refine J_eq0 (jat ok_X6_isMap 18 (pc := 26) (i := .ifCond .eq 23) (n := 3) rfl rfl) (tgt := 49) (by decide) (fun c => ?_) (fun c => ?_)
    · have h := (if_pos c).symm.trans h
      refine J_sub (ls' := [(0, .inr (.inr (.inl k0))), (1, .inl k1), (3, .inl s4.2), (4, .inl v5)]) [1, 2, 4, 0] rfl ?_
      exact k_X6_isMap_b4_j49 d _ _ h hR hX hN
    · have h := (if_neg c).symm.trans h
      refine J_seg ok_X6_isMap 19 2 (pc' := 33) (ls' := [(4, .inl v5), (0, .inr (.inr (.inl k0))), (1, .inl k1), (2, .inl s4.1), (3, .inl s4.2)]) (st' := [.inl (-9), .inl v5]) rfl ?_
      refine J_eq (jat ok_X6_isMap 21 (pc := 33) (i := .if_icmp .eq 12) (n := 3) rfl rfl) (tgt := 45) (by decide) (fun c => ?_) (fun c => ?_)
      · have h := (if_pos c).symm.trans h
        refine J_sub (ls' := [(0, .inr (.inr (.inl k0))), (1, .inl k1), (3, .inl s4.2), (4, .inl v5)]) [1, 2, 4, 0] rfl ?_
        exact k_X6_isMap_b4_j45 d _ _ h hR hX hN
      · have h := (if_neg c).symm.trans h
        refine J_seg ok_X6_isMap 22 2 (pc' := 39) (ls' := [(4, .inl v5), (0, .inr (.inr (.inl k0))), (1, .inl k1), (2, .inl s4.1), (3, .inl s4.2)]) (st' := [.inl v5, .inr (.inr (.inl k0))]) rfl ?_
        by_cases c15 : qO ah k0 6 = true
        case neg => exact absurd ((if_neg c15).symm.trans h) (by simp)
        have h := (if_pos c15).symm.trans h
        obtain ⟨q13, h14, h⟩ := Option.bind_eq_some_iff.mp h
        refine J_callV (md' := md_X6_isPerson) (As := [.inl v5]) (st := []) (cs' := (0, 0)) (st' := [.inl q13.1]) (jat ok_X6_isMap 24 (pc := 39) (i := .invokevirtual 154) (n := 3) rfl rfl) ml_RX6_154 yv_X6_isPerson c15 (c_X6_isPerson l g (d + 0) h14) (jRo_of (by decide)) (Nat.le_of_ble_eq_true rfl) ⟨Nat.le_of_ble_eq_true rfl, Nat.le_of_ble_eq_true rfl⟩ rfl rfl rfl ?_
        refine J_eq0 (jat ok_X6_isMap 25 (pc := 42) (i := .ifCond .eq 7) (n := 3) rfl rfl) (tgt := 49) (by decide) (fun c => ?_) (fun c => ?_)
        · have h := (if_pos c).symm.trans h
          refine J_sub (ls' := [(0, .inr (.inr (.inl k0))), (1, .inl k1), (3, .inl s4.2), (4, .inl v5)]) [1, 2, 4, 0] rfl ?_
          exact k_X6_isMap_b4_j49 d _ _ h hR hX hN
        · have h := (if_neg c).symm.trans h
          refine J_sub (ls' := [(0, .inr (.inr (.inl k0))), (1, .inl k1), (3, .inl s4.2), (4, .inl v5)]) [1, 2, 4, 0] rfl ?_
          exact k_X6_isMap_b4_j45 d _ _ h hR hX hN
def f_X6_isMap (x0 : Option Nat) (x1 : Int32) (ah : AH) : Option (Int32 × AH) :=
  (jloop (f_X6_isMap_b4 x0 x1) jfuel (1, 0) ah).bind fun q16 => match q16 with | .inl r => none | .inr z18 => if z18.1 = 0 then (some (0, z18.2)) else (if qO z18.2 x0 6 = true then ((f_X6_victimsNow x0 z18.2).bind fun q20 => if qO q20.2 x0 6 = true then ((f_X6_leftOf x0 q20.1 q20.2).bind fun q23 => if q23.1 = 0 then (some (1, q23.2)) else (some (0, q23.2))) else none) else none)
set_option maxRecDepth 100000 in
set_option maxHeartbeats 4000000 in
theorem k_X6_isMap {l : Launch} {g : GX} (d : Nat) {Q : jQ} {x0 : Option Nat} {x1 : Int32} (ah : AH) (out : Int32 × AH) (h : f_X6_isMap x0 x1 ah = some out) (hR : jRetZ l g md_X6_isMap (jRm (d + 2) md_X6_isMap) Q (0, 0) out.1 out.2) : J l g md_X6_isMap (jRm (d + 2) md_X6_isMap) Q 0 [(0, .inr (.inr (.inl x0))), (1, .inl x1)] [] ah (0, 0) := by
  unfold f_X6_isMap at h
  refine J_seg ok_X6_isMap 0 4 (pc' := 4) (ls' := [(3, .inl 0), (2, .inl 1), (0, .inr (.inr (.inl x0))), (1, .inl x1)]) (st' := []) rfl ?_
  obtain ⟨q16, h17, h⟩ := Option.bind_eq_some_iff.mp h
  refine J_sub (ls' := [(0, .inr (.inr (.inl x0))), (1, .inl x1), (2, .inl 1), (3, .inl 0)]) [2, 3, 1, 0] rfl ?_
  refine J_loop (pE := 79) (lh := fun t19 => [(0, .inr (.inr (.inl x0))), (1, .inl x1), (2, .inl t19.1), (3, .inl t19.2)]) (lx := fun z18 => [(0, .inr (.inr (.inl x0))), (2, .inl z18)]) (P := jRetN) (fun s ah out hb hR hX hN => k_X6_isMap_b4 d s ah out hb hR hX hN) jfuel (1, 0) _ _ h17 (fun r e => ?_) (fun z18 e => ?_)
  · subst e
    dsimp only at h
    cases h
  · subst e
    dsimp only at h
    refine J_seg ok_X6_isMap 43 1 (pc' := 80) (ls' := [(0, .inr (.inr (.inl x0))), (2, .inl z18.1)]) (st' := [.inl z18.1]) rfl ?_
    refine J_eq0 (jat ok_X6_isMap 44 (pc := 80) (i := .ifCond .eq 18) (n := 3) rfl rfl) (tgt := 98) (by decide) (fun c => ?_) (fun c => ?_)
    · have h := (if_pos c).symm.trans h
      refine J_seg ok_X6_isMap 52 1 (pc' := 99) (ls' := [(0, .inr (.inr (.inl x0))), (2, .inl z18.1)]) (st' := [.inl 0]) rfl ?_
      have h := Option.some.inj h
      subst h
      exact hR _ _ (jat ok_X6_isMap 53 (pc := 99) (i := .ireturn) (n := 1) rfl rfl) (Or.inl rfl)
    · have h := (if_neg c).symm.trans h
      refine J_seg ok_X6_isMap 45 2 (pc' := 85) (ls' := [(0, .inr (.inr (.inl x0))), (2, .inl z18.1)]) (st' := [.inr (.inr (.inl x0)), .inr (.inr (.inl x0))]) rfl ?_
      by_cases c22 : qO z18.2 x0 6 = true
      case neg => exact absurd ((if_neg c22).symm.trans h) (by simp)
      have h := (if_pos c22).symm.trans h
      obtain ⟨q20, h21, h⟩ := Option.bind_eq_some_iff.mp h
      refine J_callV (md' := md_X6_victimsNow) (As := []) (st := [.inr (.inr (.inl x0))]) (cs' := (0, 0)) (st' := [.inl q20.1, .inr (.inr (.inl x0))]) (jat ok_X6_isMap 47 (pc := 85) (i := .invokevirtual 232) (n := 3) rfl rfl) ml_RX6_232 yv_X6_victimsNow c22 (c_X6_victimsNow l g (d + 0) h21) (jRo_of (by decide)) (Nat.le_of_ble_eq_true rfl) ⟨Nat.le_of_ble_eq_true rfl, Nat.le_of_ble_eq_true rfl⟩ rfl rfl rfl ?_
      by_cases c25 : qO q20.2 x0 6 = true
      case neg => exact absurd ((if_neg c25).symm.trans h) (by simp)
      have h := (if_pos c25).symm.trans h
      obtain ⟨q23, h24, h⟩ := Option.bind_eq_some_iff.mp h
      refine J_callV (md' := md_X6_leftOf) (As := [.inl q20.1]) (st := []) (cs' := (0, 0)) (st' := [.inl q23.1]) (jat ok_X6_isMap 48 (pc := 88) (i := .invokevirtual 235) (n := 3) rfl rfl) ml_RX6_235 yv_X6_leftOf c25 (c_X6_leftOf l g (d + 0) h24) (jRo_of (by decide)) (Nat.le_of_ble_eq_true rfl) ⟨Nat.le_of_ble_eq_true rfl, Nat.le_of_ble_eq_true rfl⟩ rfl rfl rfl ?_
      refine J_ne0 (jat ok_X6_isMap 49 (pc := 91) (i := .ifCond .ne 7) (n := 3) rfl rfl) (tgt := 98) (by decide) (fun c => ?_) (fun c => ?_)
      · have h := (if_neg c).symm.trans h
        refine J_seg ok_X6_isMap 52 1 (pc' := 99) (ls' := [(0, .inr (.inr (.inl x0))), (2, .inl z18.1)]) (st' := [.inl 0]) rfl ?_
        have h := Option.some.inj h
        subst h
        exact hR _ _ (jat ok_X6_isMap 53 (pc := 99) (i := .ireturn) (n := 1) rfl rfl) (Or.inl rfl)
      · have h := (if_pos c).symm.trans h
        refine J_seg ok_X6_isMap 50 2 (pc' := 99) (ls' := [(0, .inr (.inr (.inl x0))), (2, .inl z18.1)]) (st' := [.inl 1]) rfl ?_
        have h := Option.some.inj h
        subst h
        exact hR _ _ (jat ok_X6_isMap 53 (pc := 99) (i := .ireturn) (n := 1) rfl rfl) (Or.inr rfl)
theorem c_X6_isMap (l : Launch) (g : GX) (d : Nat) {x0 : Option Nat} {x1 : Int32} {ah : AH} {q : Int32 × AH} (h : f_X6_isMap x0 x1 ah = some q) : jM l g (d + 2) md_X6_isMap [.inr (.inr (.inl x0)), .inl x1] ah (some (.inl q.1)) q.2 :=
  jM_of (by decide) (Nat.le_of_ble_eq_true rfl) (k_X6_isMap d ah q h (fun pc ls hd c => J_reti hd rfl (jPV_z c) rfl (Nat.le_refl _) rfl rfl))
def f_X6_none_b71_j120 (k0 : Option Nat) (x3 : Int32) (ah : AH) : Option ((Unit × AH) ⊕ (((Int32) × AH) ⊕ ((Int32 × Int32) × AH))) :=
  some (.inr (.inr ((1, x3 + 1), ah)))
set_option maxRecDepth 100000 in
set_option maxHeartbeats 4000000 in
theorem k_X6_none_b71_j120 {l : Launch} {g : GX} (d : Nat) {Q : jQ} {k0 : Option Nat} {x3 : Int32} (ah : AH) (out : (Unit × AH) ⊕ (((Int32) × AH) ⊕ ((Int32 × Int32) × AH))) (h : f_X6_none_b71_j120 k0 x3 ah = some out) (hR : ∀ q, out = .inl q → jRetN q.1 q.2) (hX : ∀ q, out = .inr (.inl q) → J l g md_X6_none (jRm (d + 3) md_X6_none) Q 132 [(2, .inl q.1)] [] q.2 (0, 0)) (hN : ∀ q, out = .inr (.inr q) → J l g md_X6_none (jRm (d + 3) md_X6_none) Q 71 [(0, .inr (.inr (.inl k0))), (2, .inl q.1.1), (3, .inl q.1.2)] [] q.2 (0, 0)) : J l g md_X6_none (jRm (d + 3) md_X6_none) Q 120 [(0, .inr (.inr (.inl k0))), (3, .inl x3)] [] ah (0, 0) := by
  unfold f_X6_none_b71_j120 at h
  refine J_seg ok_X6_none 69 2 (pc' := 125) (ls' := [(0, .inr (.inr (.inl k0))), (3, .inl x3)]) (st' := [.inl 1]) rfl ?_
  refine J_seg ok_X6_none 72 3 (pc' := 71) (ls' := [(3, .inl (x3 + 1)), (2, .inl 1), (0, .inr (.inr (.inl k0)))]) (st' := []) rfl ?_
  exact J_sub (ls' := [(0, .inr (.inr (.inl k0))), (2, .inl 1), (3, .inl (x3 + 1))]) [2, 1, 0] rfl (hN ((1, x3 + 1), ah) (Option.some.inj h).symm)
def f_X6_none_b71 (k0 : Option Nat) (s71 : Int32 × Int32) (ah : AH) : Option ((Unit × AH) ⊕ (((Int32) × AH) ⊕ ((Int32 × Int32) × AH))) :=
  (gI ah k0 6 1).bind fun v18 => if v18 ≤ s71.2 then (some (.inr (.inl (s71.1, ah)))) else (if s71.1 = 0 then (some (.inr (.inr ((0, s71.2 + 1), ah)))) else ((gR ah k0 6 24).bind fun v20 => (gA ah v20 s71.2).bind fun v22 => (gI ah k0 6 1).bind fun v24 => if v22 = v24 then (f_X6_none_b71_j120 k0 s71.2 ah) else ((gR ah k0 6 24).bind fun v26 => (gA ah v26 s71.2).bind fun v28 => if qO ah k0 6 = true then ((f_X6_strengthOf k0 s71.2 v28 ah).bind fun q30 => (gR q30.2 k0 6 24).bind fun v33 => (gA q30.2 v33 s71.2).bind fun v35 => if qO q30.2 k0 6 = true then ((f_X6_against k0 v35 q30.2).bind fun q37 => if q37.1 < q30.1 then (some (.inr (.inr ((0, s71.2 + 1), q37.2)))) else (f_X6_none_b71_j120 k0 s71.2 q37.2)) else none) else none)))
set_option maxRecDepth 100000 in
set_option maxHeartbeats 4000000 in
theorem k_X6_none_b71 {l : Launch} {g : GX} (d : Nat) {Q : jQ} {k0 : Option Nat} (s71 : Int32 × Int32) (ah : AH) (out : (Unit × AH) ⊕ (((Int32) × AH) ⊕ ((Int32 × Int32) × AH))) (h : f_X6_none_b71 k0 s71 ah = some out) (hR : ∀ q, out = .inl q → jRetN q.1 q.2) (hX : ∀ q, out = .inr (.inl q) → J l g md_X6_none (jRm (d + 3) md_X6_none) Q 132 [(2, .inl q.1)] [] q.2 (0, 0)) (hN : ∀ q, out = .inr (.inr q) → J l g md_X6_none (jRm (d + 3) md_X6_none) Q 71 [(0, .inr (.inr (.inl k0))), (2, .inl q.1.1), (3, .inl q.1.2)] [] q.2 (0, 0)) : J l g md_X6_none (jRm (d + 3) md_X6_none) Q 71 [(0, .inr (.inr (.inl k0))), (2, .inl s71.1), (3, .inl s71.2)] [] ah (0, 0) := by
  unfold f_X6_none_b71 at h
  refine J_seg ok_X6_none 42 2 (pc' := 73) (ls' := [(0, .inr (.inr (.inl k0))), (2, .inl s71.1), (3, .inl s71.2)]) (st' := [.inr (.inr (.inl k0)), .inl s71.2]) rfl ?_
  obtain ⟨v18, h19, h⟩ := Option.bind_eq_some_iff.mp h
  refine J_getI (jat ok_X6_none 44 (pc := 73) (i := .getfield 148) (n := 3) rfl rfl) fl_RX6_148 h19 ?_
  refine J_ge (jat ok_X6_none 45 (pc := 76) (i := .if_icmp .ge 56) (n := 3) rfl rfl) (tgt := 132) (by decide) (fun c => ?_) (fun c => ?_)
  · have h := (if_pos c).symm.trans h
    exact J_sub (ls' := [(2, .inl s71.1)]) [1] rfl (hX (s71.1, ah) (Option.some.inj h).symm)
  · have h := (if_neg c).symm.trans h
    refine J_seg ok_X6_none 46 1 (pc' := 80) (ls' := [(0, .inr (.inr (.inl k0))), (2, .inl s71.1), (3, .inl s71.2)]) (st' := [.inl s71.1]) rfl ?_
    refine J_eq0 (jat ok_X6_none 47 (pc := 80) (i := .ifCond .eq 44) (n := 3) rfl rfl) (tgt := 124) (by decide) (fun c => ?_) (fun c => ?_)
    · have h := (if_pos c).symm.trans h
      refine J_seg ok_X6_none 71 4 (pc' := 71) (ls' := [(3, .inl (s71.2 + 1)), (2, .inl 0), (0, .inr (.inr (.inl k0)))]) (st' := []) rfl ?_
      exact J_sub (ls' := [(0, .inr (.inr (.inl k0))), (2, .inl 0), (3, .inl (s71.2 + 1))]) [2, 1, 0] rfl (hN ((0, s71.2 + 1), ah) (Option.some.inj h).symm)
    · have h := (if_neg c).symm.trans h
      refine J_seg ok_X6_none 48 1 (pc' := 84) (ls' := [(0, .inr (.inr (.inl k0))), (2, .inl s71.1), (3, .inl s71.2)]) (st' := [.inr (.inr (.inl k0))]) rfl ?_
      obtain ⟨v20, h21, h⟩ := Option.bind_eq_some_iff.mp h
      refine J_getR (jat ok_X6_none 49 (pc := 84) (i := .getfield 53) (n := 3) rfl rfl) fl_RX6_53 h21 ?_
      refine J_seg ok_X6_none 50 1 (pc' := 88) (ls' := [(0, .inr (.inr (.inl k0))), (2, .inl s71.1), (3, .inl s71.2)]) (st' := [.inl s71.2, .inr (.inr (.inl v20))]) rfl ?_
      obtain ⟨v22, h23, h⟩ := Option.bind_eq_some_iff.mp h
      refine J_iald (jat ok_X6_none 51 (pc := 88) (i := .iaload) (n := 1) rfl rfl) h23 ?_
      refine J_seg ok_X6_none 52 1 (pc' := 90) (ls' := [(0, .inr (.inr (.inl k0))), (2, .inl s71.1), (3, .inl s71.2)]) (st' := [.inr (.inr (.inl k0)), .inl v22]) rfl ?_
      obtain ⟨v24, h25, h⟩ := Option.bind_eq_some_iff.mp h
      refine J_getI (jat ok_X6_none 53 (pc := 90) (i := .getfield 148) (n := 3) rfl rfl) fl_RX6_148 h25 ?_
      refine J_eq (jat ok_X6_none 54 (pc := 93) (i := .if_icmp .eq 27) (n := 3) rfl rfl) (tgt := 120) (by decide) (fun c => ?_) (fun c => ?_)
      · have h := (if_pos c).symm.trans h
        refine J_sub (ls' := [(0, .inr (.inr (.inl k0))), (3, .inl s71.2)]) [0, 2] rfl ?_
        exact k_X6_none_b71_j120 d _ _ h hR hX hN
      · have h := (if_neg c).symm.trans h
        refine J_seg ok_X6_none 55 3 (pc' := 99) (ls' := [(0, .inr (.inr (.inl k0))), (2, .inl s71.1), (3, .inl s71.2)]) (st' := [.inr (.inr (.inl k0)), .inl s71.2, .inr (.inr (.inl k0))]) rfl ?_
        obtain ⟨v26, h27, h⟩ := Option.bind_eq_some_iff.mp h
        refine J_getR (jat ok_X6_none 58 (pc := 99) (i := .getfield 53) (n := 3) rfl rfl) fl_RX6_53 h27 ?_
        refine J_seg ok_X6_none 59 1 (pc' := 103) (ls' := [(0, .inr (.inr (.inl k0))), (2, .inl s71.1), (3, .inl s71.2)]) (st' := [.inl s71.2, .inr (.inr (.inl v26)), .inl s71.2, .inr (.inr (.inl k0))]) rfl ?_
        obtain ⟨v28, h29, h⟩ := Option.bind_eq_some_iff.mp h
        refine J_iald (jat ok_X6_none 60 (pc := 103) (i := .iaload) (n := 1) rfl rfl) h29 ?_
        by_cases c32 : qO ah k0 6 = true
        case neg => exact absurd ((if_neg c32).symm.trans h) (by simp)
        have h := (if_pos c32).symm.trans h
        obtain ⟨q30, h31, h⟩ := Option.bind_eq_some_iff.mp h
        refine J_callV (md' := md_X6_strengthOf) (As := [.inl s71.2, .inl v28]) (st := []) (cs' := (0, 0)) (st' := [.inl q30.1]) (jat ok_X6_none 61 (pc := 104) (i := .invokevirtual 166) (n := 3) rfl rfl) ml_RX6_166 yv_X6_strengthOf c32 (c_X6_strengthOf l g (d + 1) h31) (jRo_of (by decide)) (Nat.le_of_ble_eq_true rfl) ⟨Nat.le_of_ble_eq_true rfl, Nat.le_of_ble_eq_true rfl⟩ rfl rfl rfl ?_
        refine J_seg ok_X6_none 62 2 (pc' := 109) (ls' := [(0, .inr (.inr (.inl k0))), (2, .inl s71.1), (3, .inl s71.2)]) (st' := [.inr (.inr (.inl k0)), .inr (.inr (.inl k0)), .inl q30.1]) rfl ?_
        obtain ⟨v33, h34, h⟩ := Option.bind_eq_some_iff.mp h
        refine J_getR (jat ok_X6_none 64 (pc := 109) (i := .getfield 53) (n := 3) rfl rfl) fl_RX6_53 h34 ?_
        refine J_seg ok_X6_none 65 1 (pc' := 113) (ls' := [(0, .inr (.inr (.inl k0))), (2, .inl s71.1), (3, .inl s71.2)]) (st' := [.inl s71.2, .inr (.inr (.inl v33)), .inr (.inr (.inl k0)), .inl q30.1]) rfl ?_
        obtain ⟨v35, h36, h⟩ := Option.bind_eq_some_iff.mp h
        refine J_iald (jat ok_X6_none 66 (pc := 113) (i := .iaload) (n := 1) rfl rfl) h36 ?_
        by_cases c39 : qO q30.2 k0 6 = true
        case neg => exact absurd ((if_neg c39).symm.trans h) (by simp)
        have h := (if_pos c39).symm.trans h
        obtain ⟨q37, h38, h⟩ := Option.bind_eq_some_iff.mp h
        refine J_callV (md' := md_X6_against) (As := [.inl v35]) (st := [.inl q30.1]) (cs' := (0, 0)) (st' := [.inl q37.1, .inl q30.1]) (jat ok_X6_none 67 (pc := 114) (i := .invokevirtual 215) (n := 3) rfl rfl) ml_RX6_215 yv_X6_against c39 (c_X6_against l g (d + 0) h38) (jRo_of (by decide)) (Nat.le_of_ble_eq_true rfl) ⟨Nat.le_of_ble_eq_true rfl, Nat.le_of_ble_eq_true rfl⟩ rfl rfl rfl ?_
        refine J_gt (jat ok_X6_none 68 (pc := 117) (i := .if_icmp .gt 7) (n := 3) rfl rfl) (tgt := 124) (by decide) (fun c => ?_) (fun c => ?_)
        · have h := (if_pos c).symm.trans h
          refine J_seg ok_X6_none 71 4 (pc' := 71) (ls' := [(3, .inl (s71.2 + 1)), (2, .inl 0), (0, .inr (.inr (.inl k0)))]) (st' := []) rfl ?_
          exact J_sub (ls' := [(0, .inr (.inr (.inl k0))), (2, .inl 0), (3, .inl (s71.2 + 1))]) [2, 1, 0] rfl (hN ((0, s71.2 + 1), q37.2) (Option.some.inj h).symm)
        · have h := (if_neg c).symm.trans h
          refine J_sub (ls' := [(0, .inr (.inr (.inl k0))), (3, .inl s71.2)]) [0, 2] rfl ?_
          exact k_X6_none_b71_j120 d _ _ h hR hX hN
def f_X6_none (x0 : Option Nat) (x1 : Int32) (ah : AH) : Option (Int32 × AH) :=
  (f_X6_isRow x1 ah).bind fun q1 => if q1.1 = 0 then (some ((-1), q1.2)) else ((gI q1.2 x0 6 1).bind fun v3 => if v3 = 0 then (some ((-4), q1.2)) else ((gR q1.2 x0 6 7).bind fun v5 => (gA q1.2 v5 x1).bind fun v7 => if 0 ≤ v7 then ((gR q1.2 x0 6 7).bind fun v9 => (gA q1.2 v9 x1).bind fun v11 => (gI q1.2 x0 6 1).bind fun v13 => if v11 = v13 then (if qO q1.2 x0 6 = true then ((f_X6_isMap x0 x1 q1.2).bind fun q15 => if q15.1 = 0 then (if qO q15.2 x0 6 = true then ((f_X6_find x0 3 q15.2).bind fun q44 => some (q44.1, q44.2)) else none) else ((jloop (f_X6_none_b71 x0) jfuel (1, 0) q15.2).bind fun q40 => match q40 with | .inl r => none | .inr z42 => if z42.1 = 0 then (some (0, z42.2)) else (some (1, z42.2)))) else none) else (if qO q1.2 x0 6 = true then ((f_X6_find x0 5 q1.2).bind fun q47 => some (q47.1, q47.2)) else none)) else (if qO q1.2 x0 6 = true then ((f_X6_find x0 1 q1.2).bind fun q50 => some (q50.1, q50.2)) else none)))
set_option maxRecDepth 100000 in
set_option maxHeartbeats 4000000 in
theorem k_X6_none {l : Launch} {g : GX} (d : Nat) {Q : jQ} {x0 : Option Nat} {x1 : Int32} (ah : AH) (out : Int32 × AH) (h : f_X6_none x0 x1 ah = some out) (hR : jRetI l g md_X6_none (jRm (d + 3) md_X6_none) Q (0, 0) out.1 out.2) : J l g md_X6_none (jRm (d + 3) md_X6_none) Q 0 [(0, .inr (.inr (.inl x0))), (1, .inl x1)] [] ah (0, 0) := by
  unfold f_X6_none at h
  refine J_seg ok_X6_none 0 1 (pc' := 1) (ls' := [(0, .inr (.inr (.inl x0))), (1, .inl x1)]) (st' := [.inl x1]) rfl ?_
  obtain ⟨q1, h2, h⟩ := Option.bind_eq_some_iff.mp h
  refine J_callS (md' := md_X6_isRow) (As := [.inl x1]) (st := []) (cs' := (0, 0)) (st' := [.inl q1.1]) (jat ok_X6_none 1 (pc := 1) (i := .invokestatic 77) (n := 3) rfl rfl) (Or.inl ml_RX6_77) ys_X6_isRow (c_X6_isRow l g (d + 1) h2) (jRo_of (by decide)) (Nat.le_of_ble_eq_true rfl) ⟨Nat.le_of_ble_eq_true rfl, Nat.le_of_ble_eq_true rfl⟩ rfl rfl rfl ?_
  refine J_ne0 (jat ok_X6_none 2 (pc := 4) (i := .ifCond .ne 5) (n := 3) rfl rfl) (tgt := 9) (by decide) (fun c => ?_) (fun c => ?_)
  · have h := (if_neg c).symm.trans h
    refine J_seg ok_X6_none 5 1 (pc' := 10) (ls' := [(0, .inr (.inr (.inl x0))), (1, .inl x1)]) (st' := [.inr (.inr (.inl x0))]) rfl ?_
    obtain ⟨v3, h4, h⟩ := Option.bind_eq_some_iff.mp h
    refine J_getI (jat ok_X6_none 6 (pc := 10) (i := .getfield 148) (n := 3) rfl rfl) fl_RX6_148 h4 ?_
    refine J_ne0 (jat ok_X6_none 7 (pc := 13) (i := .ifCond .ne 6) (n := 3) rfl rfl) (tgt := 19) (by decide) (fun c => ?_) (fun c => ?_)
    · have h := (if_neg c).symm.trans h
      refine J_seg ok_X6_none 10 1 (pc' := 20) (ls' := [(0, .inr (.inr (.inl x0))), (1, .inl x1)]) (st' := [.inr (.inr (.inl x0))]) rfl ?_
      obtain ⟨v5, h6, h⟩ := Option.bind_eq_some_iff.mp h
      refine J_getR (jat ok_X6_none 11 (pc := 20) (i := .getfield 25) (n := 3) rfl rfl) fl_RX6_25 h6 ?_
      refine J_seg ok_X6_none 12 1 (pc' := 24) (ls' := [(0, .inr (.inr (.inl x0))), (1, .inl x1)]) (st' := [.inl x1, .inr (.inr (.inl v5))]) rfl ?_
      obtain ⟨v7, h8, h⟩ := Option.bind_eq_some_iff.mp h
      refine J_iald (jat ok_X6_none 13 (pc := 24) (i := .iaload) (n := 1) rfl rfl) h8 ?_
      refine J_ge0 (jat ok_X6_none 14 (pc := 25) (i := .ifCond .ge 9) (n := 3) rfl rfl) (tgt := 34) (by decide) (fun c => ?_) (fun c => ?_)
      · have h := (if_pos c).symm.trans h
        refine J_seg ok_X6_none 19 1 (pc' := 35) (ls' := [(0, .inr (.inr (.inl x0))), (1, .inl x1)]) (st' := [.inr (.inr (.inl x0))]) rfl ?_
        obtain ⟨v9, h10, h⟩ := Option.bind_eq_some_iff.mp h
        refine J_getR (jat ok_X6_none 20 (pc := 35) (i := .getfield 25) (n := 3) rfl rfl) fl_RX6_25 h10 ?_
        refine J_seg ok_X6_none 21 1 (pc' := 39) (ls' := [(0, .inr (.inr (.inl x0))), (1, .inl x1)]) (st' := [.inl x1, .inr (.inr (.inl v9))]) rfl ?_
        obtain ⟨v11, h12, h⟩ := Option.bind_eq_some_iff.mp h
        refine J_iald (jat ok_X6_none 22 (pc := 39) (i := .iaload) (n := 1) rfl rfl) h12 ?_
        refine J_seg ok_X6_none 23 1 (pc' := 41) (ls' := [(0, .inr (.inr (.inl x0))), (1, .inl x1)]) (st' := [.inr (.inr (.inl x0)), .inl v11]) rfl ?_
        obtain ⟨v13, h14, h⟩ := Option.bind_eq_some_iff.mp h
        refine J_getI (jat ok_X6_none 24 (pc := 41) (i := .getfield 148) (n := 3) rfl rfl) fl_RX6_148 h14 ?_
        refine J_eq (jat ok_X6_none 25 (pc := 44) (i := .if_icmp .eq 9) (n := 3) rfl rfl) (tgt := 53) (by decide) (fun c => ?_) (fun c => ?_)
        · have h := (if_pos c).symm.trans h
          refine J_seg ok_X6_none 30 2 (pc' := 55) (ls' := [(0, .inr (.inr (.inl x0))), (1, .inl x1)]) (st' := [.inl x1, .inr (.inr (.inl x0))]) rfl ?_
          by_cases c17 : qO q1.2 x0 6 = true
          case neg => exact absurd ((if_neg c17).symm.trans h) (by simp)
          have h := (if_pos c17).symm.trans h
          obtain ⟨q15, h16, h⟩ := Option.bind_eq_some_iff.mp h
          refine J_callV (md' := md_X6_isMap) (As := [.inl x1]) (st := []) (cs' := (0, 0)) (st' := [.inl q15.1]) (jat ok_X6_none 32 (pc := 55) (i := .invokevirtual 244) (n := 3) rfl rfl) ml_RX6_244 yv_X6_isMap c17 (c_X6_isMap l g (d + 0) h16) (jRo_of (by decide)) (Nat.le_of_ble_eq_true rfl) ⟨Nat.le_of_ble_eq_true rfl, Nat.le_of_ble_eq_true rfl⟩ rfl rfl rfl ?_
          refine J_ne0 (jat ok_X6_none 33 (pc := 58) (i := .ifCond .ne 9) (n := 3) rfl rfl) (tgt := 67) (by decide) (fun c => ?_) (fun c => ?_)
          · have h := (if_neg c).symm.trans h
            refine J_seg ok_X6_none 38 4 (pc' := 71) (ls' := [(3, .inl 0), (2, .inl 1), (0, .inr (.inr (.inl x0))), (1, .inl x1)]) (st' := []) rfl ?_
            obtain ⟨q40, h41, h⟩ := Option.bind_eq_some_iff.mp h
            refine J_sub (ls' := [(0, .inr (.inr (.inl x0))), (2, .inl 1), (3, .inl 0)]) [2, 1, 0] rfl ?_
            refine J_loop (pE := 132) (lh := fun t43 => [(0, .inr (.inr (.inl x0))), (2, .inl t43.1), (3, .inl t43.2)]) (lx := fun z42 => [(2, .inl z42)]) (P := jRetN) (fun s ah out hb hR hX hN => k_X6_none_b71 d s ah out hb hR hX hN) jfuel (1, 0) _ _ h41 (fun r e => ?_) (fun z42 e => ?_)
            · subst e
              dsimp only at h
              cases h
            · subst e
              dsimp only at h
              refine J_seg ok_X6_none 75 1 (pc' := 133) (ls' := [(2, .inl z42.1)]) (st' := [.inl z42.1]) rfl ?_
              refine J_eq0 (jat ok_X6_none 76 (pc := 133) (i := .ifCond .eq 7) (n := 3) rfl rfl) (tgt := 140) (by decide) (fun c => ?_) (fun c => ?_)
              · have h := (if_pos c).symm.trans h
                refine J_seg ok_X6_none 79 1 (pc' := 141) (ls' := [(2, .inl z42.1)]) (st' := [.inl 0]) rfl ?_
                have h := Option.some.inj h
                subst h
                exact hR _ _ (jat ok_X6_none 80 (pc := 141) (i := .ireturn) (n := 1) rfl rfl)
              · have h := (if_neg c).symm.trans h
                refine J_seg ok_X6_none 77 2 (pc' := 141) (ls' := [(2, .inl z42.1)]) (st' := [.inl 1]) rfl ?_
                have h := Option.some.inj h
                subst h
                exact hR _ _ (jat ok_X6_none 80 (pc := 141) (i := .ireturn) (n := 1) rfl rfl)
          · have h := (if_pos c).symm.trans h
            refine J_seg ok_X6_none 34 2 (pc' := 63) (ls' := [(0, .inr (.inr (.inl x0))), (1, .inl x1)]) (st' := [.inl 3, .inr (.inr (.inl x0))]) rfl ?_
            by_cases c46 : qO q15.2 x0 6 = true
            case neg => exact absurd ((if_neg c46).symm.trans h) (by simp)
            have h := (if_pos c46).symm.trans h
            obtain ⟨q44, h45, h⟩ := Option.bind_eq_some_iff.mp h
            refine J_callV (md' := md_X6_find) (As := [.inl 3]) (st := []) (cs' := (0, 0)) (st' := [.inl q44.1]) (jat ok_X6_none 36 (pc := 63) (i := .invokevirtual 81) (n := 3) rfl rfl) ml_RX6_81 yv_X6_find c46 (c_X6_find l g (d + 2) h45) (jRo_of (by decide)) (Nat.le_of_ble_eq_true rfl) ⟨Nat.le_of_ble_eq_true rfl, Nat.le_of_ble_eq_true rfl⟩ rfl rfl rfl ?_
            have h := Option.some.inj h
            subst h
            exact hR _ _ (jat ok_X6_none 37 (pc := 66) (i := .ireturn) (n := 1) rfl rfl)
        · have h := (if_neg c).symm.trans h
          refine J_seg ok_X6_none 26 2 (pc' := 49) (ls' := [(0, .inr (.inr (.inl x0))), (1, .inl x1)]) (st' := [.inl 5, .inr (.inr (.inl x0))]) rfl ?_
          by_cases c49 : qO q1.2 x0 6 = true
          case neg => exact absurd ((if_neg c49).symm.trans h) (by simp)
          have h := (if_pos c49).symm.trans h
          obtain ⟨q47, h48, h⟩ := Option.bind_eq_some_iff.mp h
          refine J_callV (md' := md_X6_find) (As := [.inl 5]) (st := []) (cs' := (0, 0)) (st' := [.inl q47.1]) (jat ok_X6_none 28 (pc := 49) (i := .invokevirtual 81) (n := 3) rfl rfl) ml_RX6_81 yv_X6_find c49 (c_X6_find l g (d + 2) h48) (jRo_of (by decide)) (Nat.le_of_ble_eq_true rfl) ⟨Nat.le_of_ble_eq_true rfl, Nat.le_of_ble_eq_true rfl⟩ rfl rfl rfl ?_
          have h := Option.some.inj h
          subst h
          exact hR _ _ (jat ok_X6_none 29 (pc := 52) (i := .ireturn) (n := 1) rfl rfl)
      · have h := (if_neg c).symm.trans h
        refine J_seg ok_X6_none 15 2 (pc' := 30) (ls' := [(0, .inr (.inr (.inl x0))), (1, .inl x1)]) (st' := [.inl 1, .inr (.inr (.inl x0))]) rfl ?_
        by_cases c52 : qO q1.2 x0 6 = true
        case neg => exact absurd ((if_neg c52).symm.trans h) (by simp)
        have h := (if_pos c52).symm.trans h
        obtain ⟨q50, h51, h⟩ := Option.bind_eq_some_iff.mp h
        refine J_callV (md' := md_X6_find) (As := [.inl 1]) (st := []) (cs' := (0, 0)) (st' := [.inl q50.1]) (jat ok_X6_none 17 (pc := 30) (i := .invokevirtual 81) (n := 3) rfl rfl) ml_RX6_81 yv_X6_find c52 (c_X6_find l g (d + 2) h51) (jRo_of (by decide)) (Nat.le_of_ble_eq_true rfl) ⟨Nat.le_of_ble_eq_true rfl, Nat.le_of_ble_eq_true rfl⟩ rfl rfl rfl ?_
        have h := Option.some.inj h
        subst h
        exact hR _ _ (jat ok_X6_none 18 (pc := 33) (i := .ireturn) (n := 1) rfl rfl)
    · have h := (if_pos c).symm.trans h
      refine J_seg ok_X6_none 8 1 (pc' := 18) (ls' := [(0, .inr (.inr (.inl x0))), (1, .inl x1)]) (st' := [.inl (-4)]) rfl ?_
      have h := Option.some.inj h
      subst h
      exact hR _ _ (jat ok_X6_none 9 (pc := 18) (i := .ireturn) (n := 1) rfl rfl)
  · have h := (if_pos c).symm.trans h
    refine J_seg ok_X6_none 3 1 (pc' := 8) (ls' := [(0, .inr (.inr (.inl x0))), (1, .inl x1)]) (st' := [.inl (-1)]) rfl ?_
    have h := Option.some.inj h
    subst h
    exact hR _ _ (jat ok_X6_none 4 (pc := 8) (i := .ireturn) (n := 1) rfl rfl)
theorem c_X6_none (l : Launch) (g : GX) (d : Nat) {x0 : Option Nat} {x1 : Int32} {ah : AH} {q : Int32 × AH} (h : f_X6_none x0 x1 ah = some q) : jM l g (d + 3) md_X6_none [.inr (.inr (.inl x0)), .inl x1] ah (some (.inl q.1)) q.2 :=
  jM_of (by decide) (Nat.le_of_ble_eq_true rfl) (k_X6_none d ah q h (fun pc ls hd => J_reti hd rfl (jPV_int _) rfl (Nat.le_refl _) rfl rfl))
