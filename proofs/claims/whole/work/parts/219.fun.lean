def f_X6_fits (x0 : Option Nat) (x1 : Int32) (ah : AH) : Option (Int32 × AH) :=
  (f_X6_isRow x1 ah).bind fun q1 => if q1.1 = 0 then (some ((-1), q1.2)) else (if qO q1.2 x0 6 = true then ((f_X6_layFits x0 x1 q1.2).bind fun q3 => if q3.1 = 0 then ((gI q3.2 x0 6 26).bind fun v6 => if qO q3.2 x0 6 = true then ((f_X6_tellMany x0 v6 q3.2).bind fun q8 => some (q8.1, q8.2)) else none) else (some (q3.1, q3.2))) else none)
set_option maxRecDepth 100000 in
set_option maxHeartbeats 4000000 in
theorem k_X6_fits {l : Launch} {g : GX} (d : Nat) {Q : jQ} {x0 : Option Nat} {x1 : Int32} (ah : AH) (out : Int32 × AH) (h : f_X6_fits x0 x1 ah = some out) (hR : jRetI l g md_X6_fits (jRm (d + 4) md_X6_fits) Q (0, 0) out.1 out.2) : J l g md_X6_fits (jRm (d + 4) md_X6_fits) Q 0 [(0, .inr (.inr (.inl x0))), (1, .inl x1)] [] ah (0, 0) := by
  unfold f_X6_fits at h
  refine J_seg ok_X6_fits 0 1 (pc' := 1) (ls' := [(0, .inr (.inr (.inl x0))), (1, .inl x1)]) (st' := [.inl x1]) rfl ?_
  obtain ⟨q1, h2, h⟩ := Option.bind_eq_some_iff.mp h
  refine J_callS (md' := md_X6_isRow) (As := [.inl x1]) (st := []) (cs' := (0, 0)) (st' := [.inl q1.1]) (jat ok_X6_fits 1 (pc := 1) (i := .invokestatic 77) (n := 3) rfl rfl) (Or.inl ml_RX6_77) ys_X6_isRow (c_X6_isRow l g (d + 2) h2) (jRo_of (by decide)) (Nat.le_of_ble_eq_true rfl) ⟨Nat.le_of_ble_eq_true rfl, Nat.le_of_ble_eq_true rfl⟩ rfl rfl rfl ?_
  refine J_ne0 (jat ok_X6_fits 2 (pc := 4) (i := .ifCond .ne 5) (n := 3) rfl rfl) (tgt := 9) (by decide) (fun c => ?_) (fun c => ?_)
  · have h := (if_neg c).symm.trans h
    refine J_seg ok_X6_fits 5 2 (pc' := 11) (ls' := [(0, .inr (.inr (.inl x0))), (1, .inl x1)]) (st' := [.inl x1, .inr (.inr (.inl x0))]) rfl ?_
    by_cases c5 : qO q1.2 x0 6 = true
    case neg => exact absurd ((if_neg c5).symm.trans h) (by simp)
    have h := (if_pos c5).symm.trans h
    obtain ⟨q3, h4, h⟩ := Option.bind_eq_some_iff.mp h
    refine J_callV (md' := md_X6_layFits) (As := [.inl x1]) (st := []) (cs' := (0, 0)) (st' := [.inl q3.1]) (jat ok_X6_fits 7 (pc := 11) (i := .invokevirtual 270) (n := 3) rfl rfl) ml_RX6_270 yv_X6_layFits c5 (c_X6_layFits l g (d + 0) h4) (jRo_of (by decide)) (Nat.le_of_ble_eq_true rfl) ⟨Nat.le_of_ble_eq_true rfl, Nat.le_of_ble_eq_true rfl⟩ rfl rfl rfl ?_
    refine J_seg ok_X6_fits 8 2 (pc' := 16) (ls' := [(2, .inl q3.1), (0, .inr (.inr (.inl x0))), (1, .inl x1)]) (st' := [.inl q3.1]) rfl ?_
    refine J_eq0 (jat ok_X6_fits 10 (pc := 16) (i := .ifCond .eq 7) (n := 3) rfl rfl) (tgt := 23) (by decide) (fun c => ?_) (fun c => ?_)
    · have h := (if_pos c).symm.trans h
      refine J_seg ok_X6_fits 13 2 (pc' := 25) (ls' := [(2, .inl q3.1), (0, .inr (.inr (.inl x0))), (1, .inl x1)]) (st' := [.inr (.inr (.inl x0)), .inr (.inr (.inl x0))]) rfl ?_
      obtain ⟨v6, h7, h⟩ := Option.bind_eq_some_iff.mp h
      refine J_getI (jat ok_X6_fits 15 (pc := 25) (i := .getfield 247) (n := 3) rfl rfl) fl_RX6_247 h7 ?_
      by_cases c10 : qO q3.2 x0 6 = true
      case neg => exact absurd ((if_neg c10).symm.trans h) (by simp)
      have h := (if_pos c10).symm.trans h
      obtain ⟨q8, h9, h⟩ := Option.bind_eq_some_iff.mp h
      refine J_callV (md' := md_X6_tellMany) (As := [.inl v6]) (st := []) (cs' := (0, 0)) (st' := [.inl q8.1]) (jat ok_X6_fits 16 (pc := 28) (i := .invokevirtual 257) (n := 3) rfl rfl) ml_RX6_257 yv_X6_tellMany c10 (c_X6_tellMany l g (d + 3) h9) (jRo_of (by decide)) (Nat.le_of_ble_eq_true rfl) ⟨Nat.le_of_ble_eq_true rfl, Nat.le_of_ble_eq_true rfl⟩ rfl rfl rfl ?_
      have h := Option.some.inj h
      subst h
      exact hR _ _ (jat ok_X6_fits 17 (pc := 31) (i := .ireturn) (n := 1) rfl rfl)
    · have h := (if_neg c).symm.trans h
      refine J_seg ok_X6_fits 11 2 (pc' := 31) (ls' := [(2, .inl q3.1), (0, .inr (.inr (.inl x0))), (1, .inl x1)]) (st' := [.inl q3.1]) rfl ?_
      have h := Option.some.inj h
      subst h
      exact hR _ _ (jat ok_X6_fits 17 (pc := 31) (i := .ireturn) (n := 1) rfl rfl)
  · have h := (if_pos c).symm.trans h
    refine J_seg ok_X6_fits 3 1 (pc' := 8) (ls' := [(0, .inr (.inr (.inl x0))), (1, .inl x1)]) (st' := [.inl (-1)]) rfl ?_
    have h := Option.some.inj h
    subst h
    exact hR _ _ (jat ok_X6_fits 4 (pc := 8) (i := .ireturn) (n := 1) rfl rfl)
theorem c_X6_fits (l : Launch) (g : GX) (d : Nat) {x0 : Option Nat} {x1 : Int32} {ah : AH} {q : Int32 × AH} (h : f_X6_fits x0 x1 ah = some q) : jM l g (d + 4) md_X6_fits [.inr (.inr (.inl x0)), .inl x1] ah (some (.inl q.1)) q.2 :=
  jM_of (by decide) (Nat.le_of_ble_eq_true rfl) (k_X6_fits d ah q h (fun pc ls hd => J_reti hd rfl (jPV_int _) rfl (Nat.le_refl _) rfl rfl))
def f_X6_sure_b57 (k0 : Option Nat) (k1 : Int32) (s57 : Int32 × Int32) (ah : AH) : Option ((Unit × AH) ⊕ (((Int32) × AH) ⊕ ((Int32 × Int32) × AH))) :=
  (gI ah k0 6 26).bind fun v17 => if v17 ≤ s57.2 then (some (.inr (.inl (s57.1, ah)))) else ((gR ah k0 6 25).bind fun v19 => (gA ah v19 s57.2).bind fun v21 => (f_X6_of v21 k1 ah).bind fun q23 => if q23.1 = s57.1 then (some (.inr (.inr ((s57.1, s57.2 + 1), q23.2)))) else (some (.inr (.inr (((-9), s57.2 + 1), q23.2)))))
set_option maxRecDepth 100000 in
set_option maxHeartbeats 4000000 in
theorem k_X6_sure_b57 {l : Launch} {g : GX} (d : Nat) {Q : jQ} {k0 : Option Nat} {k1 : Int32} (s57 : Int32 × Int32) (ah : AH) (out : (Unit × AH) ⊕ (((Int32) × AH) ⊕ ((Int32 × Int32) × AH))) (h : f_X6_sure_b57 k0 k1 s57 ah = some out) (hR : ∀ q, out = .inl q → jRetN q.1 q.2) (hX : ∀ q, out = .inr (.inl q) → J l g md_X6_sure (jRm (d + 4) md_X6_sure) Q 97 [(4, .inl q.1)] [] q.2 (0, 0)) (hN : ∀ q, out = .inr (.inr q) → J l g md_X6_sure (jRm (d + 4) md_X6_sure) Q 57 [(0, .inr (.inr (.inl k0))), (1, .inl k1), (4, .inl q.1.1), (5, .inl q.1.2)] [] q.2 (0, 0)) : J l g md_X6_sure (jRm (d + 4) md_X6_sure) Q 57 [(0, .inr (.inr (.inl k0))), (1, .inl k1), (4, .inl s57.1), (5, .inl s57.2)] [] ah (0, 0) := by
  unfold f_X6_sure_b57 at h
  refine J_seg ok_X6_sure 33 2 (pc' := 60) (ls' := [(0, .inr (.inr (.inl k0))), (1, .inl k1), (4, .inl s57.1), (5, .inl s57.2)]) (st' := [.inr (.inr (.inl k0)), .inl s57.2]) rfl ?_
  obtain ⟨v17, h18, h⟩ := Option.bind_eq_some_iff.mp h
  refine J_getI (jat ok_X6_sure 35 (pc := 60) (i := .getfield 247) (n := 3) rfl rfl) fl_RX6_247 h18 ?_
  refine J_ge (jat ok_X6_sure 36 (pc := 63) (i := .if_icmp .ge 34) (n := 3) rfl rfl) (tgt := 97) (by decide) (fun c => ?_) (fun c => ?_)
  · have h := (if_pos c).symm.trans h
    exact J_sub (ls' := [(4, .inl s57.1)]) [2] rfl (hX (s57.1, ah) (Option.some.inj h).symm)
  · have h := (if_neg c).symm.trans h
    refine J_seg ok_X6_sure 37 1 (pc' := 67) (ls' := [(0, .inr (.inr (.inl k0))), (1, .inl k1), (4, .inl s57.1), (5, .inl s57.2)]) (st' := [.inr (.inr (.inl k0))]) rfl ?_
    obtain ⟨v19, h20, h⟩ := Option.bind_eq_some_iff.mp h
    refine J_getR (jat ok_X6_sure 38 (pc := 67) (i := .getfield 56) (n := 3) rfl rfl) fl_RX6_56 h20 ?_
    refine J_seg ok_X6_sure 39 1 (pc' := 72) (ls' := [(0, .inr (.inr (.inl k0))), (1, .inl k1), (4, .inl s57.1), (5, .inl s57.2)]) (st' := [.inl s57.2, .inr (.inr (.inl v19))]) rfl ?_
    obtain ⟨v21, h22, h⟩ := Option.bind_eq_some_iff.mp h
    refine J_iald (jat ok_X6_sure 40 (pc := 72) (i := .iaload) (n := 1) rfl rfl) h22 ?_
    refine J_seg ok_X6_sure 41 1 (pc' := 74) (ls' := [(0, .inr (.inr (.inl k0))), (1, .inl k1), (4, .inl s57.1), (5, .inl s57.2)]) (st' := [.inl k1, .inl v21]) rfl ?_
    obtain ⟨q23, h24, h⟩ := Option.bind_eq_some_iff.mp h
    refine J_callS (md' := md_X6_of) (As := [.inl v21, .inl k1]) (st := []) (cs' := (0, 0)) (st' := [.inl q23.1]) (jat ok_X6_sure 42 (pc := 74) (i := .invokestatic 260) (n := 3) rfl rfl) (Or.inl ml_RX6_260) ys_X6_of (c_X6_of l g (d + 3) h24) (jRo_of (by decide)) (Nat.le_of_ble_eq_true rfl) ⟨Nat.le_of_ble_eq_true rfl, Nat.le_of_ble_eq_true rfl⟩ rfl rfl rfl ?_
    refine J_seg ok_X6_sure 43 1 (pc' := 79) (ls' := [(0, .inr (.inr (.inl k0))), (1, .inl k1), (4, .inl s57.1), (5, .inl s57.2)]) (st' := [.inl s57.1, .inl q23.1]) rfl ?_
    refine J_ne (jat ok_X6_sure 44 (pc := 79) (i := .if_icmp .ne 8) (n := 3) rfl rfl) (tgt := 87) (by decide) (fun c => ?_) (fun c => ?_)
    · have h := (if_neg c).symm.trans h
      refine J_seg ok_X6_sure 47 4 (pc' := 57) (ls' := [(5, .inl (s57.2 + 1)), (4, .inl (-9)), (0, .inr (.inr (.inl k0))), (1, .inl k1)]) (st' := []) rfl ?_
      exact J_sub (ls' := [(0, .inr (.inr (.inl k0))), (1, .inl k1), (4, .inl (-9)), (5, .inl (s57.2 + 1))]) [2, 3, 1, 0] rfl (hN (((-9), s57.2 + 1), q23.2) (Option.some.inj h).symm)
    · have h := (if_pos c).symm.trans h
      refine J_seg ok_X6_sure 45 2 (pc' := 89) (ls' := [(0, .inr (.inr (.inl k0))), (1, .inl k1), (4, .inl s57.1), (5, .inl s57.2)]) (st' := [.inl s57.1]) rfl ?_
      refine J_seg ok_X6_sure 48 3 (pc' := 57) (ls' := [(5, .inl (s57.2 + 1)), (4, .inl s57.1), (0, .inr (.inr (.inl k0))), (1, .inl k1)]) (st' := []) rfl ?_
      exact J_sub (ls' := [(0, .inr (.inr (.inl k0))), (1, .inl k1), (4, .inl s57.1), (5, .inl (s57.2 + 1))]) [2, 3, 1, 0] rfl (hN ((s57.1, s57.2 + 1), q23.2) (Option.some.inj h).symm)
def f_X6_sure (x0 : Option Nat) (x1 : Int32) (x2 : Int32) (ah : AH) : Option (Int32 × AH) :=
  if qO ah x0 6 = true then ((f_X6_isPerson x0 x1 ah).bind fun q1 => if q1.1 = 0 then (some ((-1), q1.2)) else ((f_X6_isRow x2 q1.2).bind fun q4 => if q4.1 = 0 then (some ((-1), q4.2)) else (if qO q4.2 x0 6 = true then ((f_X6_layFits x0 x2 q4.2).bind fun q6 => if q6.1 = 0 then ((gI q6.2 x0 6 26).bind fun v9 => if v9 = 0 then (if qO q6.2 x0 6 = true then ((f_X6_find x0 4 q6.2).bind fun q29 => some (q29.1, q29.2)) else none) else ((gR q6.2 x0 6 25).bind fun v11 => (gA q6.2 v11 0).bind fun v13 => (f_X6_of v13 x1 q6.2).bind fun q15 => (jloop (f_X6_sure_b57 x0 x1) jfuel (q15.1, 1) q15.2).bind fun q25 => match q25 with | .inl r => none | .inr z27 => some (z27.1, z27.2))) else (some (q6.1, q6.2))) else none))) else none
set_option maxRecDepth 100000 in
set_option maxHeartbeats 4000000 in
theorem k_X6_sure {l : Launch} {g : GX} (d : Nat) {Q : jQ} {x0 : Option Nat} {x1 : Int32} {x2 : Int32} (ah : AH) (out : Int32 × AH) (h : f_X6_sure x0 x1 x2 ah = some out) (hR : jRetI l g md_X6_sure (jRm (d + 4) md_X6_sure) Q (0, 0) out.1 out.2) : J l g md_X6_sure (jRm (d + 4) md_X6_sure) Q 0 [(0, .inr (.inr (.inl x0))), (1, .inl x1), (2, .inl x2)] [] ah (0, 0) := by
  unfold f_X6_sure at h
  refine J_seg ok_X6_sure 0 2 (pc' := 2) (ls' := [(0, .inr (.inr (.inl x0))), (1, .inl x1), (2, .inl x2)]) (st' := [.inl x1, .inr (.inr (.inl x0))]) rfl ?_
  by_cases c3 : qO ah x0 6 = true
  case neg => exact absurd ((if_neg c3).symm.trans h) (by simp)
  have h := (if_pos c3).symm.trans h
  obtain ⟨q1, h2, h⟩ := Option.bind_eq_some_iff.mp h
  refine J_callV (md' := md_X6_isPerson) (As := [.inl x1]) (st := []) (cs' := (0, 0)) (st' := [.inl q1.1]) (jat ok_X6_sure 2 (pc := 2) (i := .invokevirtual 154) (n := 3) rfl rfl) ml_RX6_154 yv_X6_isPerson c3 (c_X6_isPerson l g (d + 2) h2) (jRo_of (by decide)) (Nat.le_of_ble_eq_true rfl) ⟨Nat.le_of_ble_eq_true rfl, Nat.le_of_ble_eq_true rfl⟩ rfl rfl rfl ?_
  refine J_eq0 (jat ok_X6_sure 3 (pc := 5) (i := .ifCond .eq 10) (n := 3) rfl rfl) (tgt := 15) (by decide) (fun c => ?_) (fun c => ?_)
  · have h := (if_pos c).symm.trans h
    refine J_seg ok_X6_sure 7 1 (pc' := 16) (ls' := [(0, .inr (.inr (.inl x0))), (1, .inl x1), (2, .inl x2)]) (st' := [.inl (-1)]) rfl ?_
    have h := Option.some.inj h
    subst h
    exact hR _ _ (jat ok_X6_sure 8 (pc := 16) (i := .ireturn) (n := 1) rfl rfl)
  · have h := (if_neg c).symm.trans h
    refine J_seg ok_X6_sure 4 1 (pc' := 9) (ls' := [(0, .inr (.inr (.inl x0))), (1, .inl x1), (2, .inl x2)]) (st' := [.inl x2]) rfl ?_
    obtain ⟨q4, h5, h⟩ := Option.bind_eq_some_iff.mp h
    refine J_callS (md' := md_X6_isRow) (As := [.inl x2]) (st := []) (cs' := (0, 0)) (st' := [.inl q4.1]) (jat ok_X6_sure 5 (pc := 9) (i := .invokestatic 77) (n := 3) rfl rfl) (Or.inl ml_RX6_77) ys_X6_isRow (c_X6_isRow l g (d + 2) h5) (jRo_of (by decide)) (Nat.le_of_ble_eq_true rfl) ⟨Nat.le_of_ble_eq_true rfl, Nat.le_of_ble_eq_true rfl⟩ rfl rfl rfl ?_
    refine J_ne0 (jat ok_X6_sure 6 (pc := 12) (i := .ifCond .ne 5) (n := 3) rfl rfl) (tgt := 17) (by decide) (fun c => ?_) (fun c => ?_)
    · have h := (if_neg c).symm.trans h
      refine J_seg ok_X6_sure 9 2 (pc' := 19) (ls' := [(0, .inr (.inr (.inl x0))), (1, .inl x1), (2, .inl x2)]) (st' := [.inl x2, .inr (.inr (.inl x0))]) rfl ?_
      by_cases c8 : qO q4.2 x0 6 = true
      case neg => exact absurd ((if_neg c8).symm.trans h) (by simp)
      have h := (if_pos c8).symm.trans h
      obtain ⟨q6, h7, h⟩ := Option.bind_eq_some_iff.mp h
      refine J_callV (md' := md_X6_layFits) (As := [.inl x2]) (st := []) (cs' := (0, 0)) (st' := [.inl q6.1]) (jat ok_X6_sure 11 (pc := 19) (i := .invokevirtual 270) (n := 3) rfl rfl) ml_RX6_270 yv_X6_layFits c8 (c_X6_layFits l g (d + 0) h7) (jRo_of (by decide)) (Nat.le_of_ble_eq_true rfl) ⟨Nat.le_of_ble_eq_true rfl, Nat.le_of_ble_eq_true rfl⟩ rfl rfl rfl ?_
      refine J_seg ok_X6_sure 12 2 (pc' := 24) (ls' := [(3, .inl q6.1), (0, .inr (.inr (.inl x0))), (1, .inl x1), (2, .inl x2)]) (st' := [.inl q6.1]) rfl ?_
      refine J_eq0 (jat ok_X6_sure 14 (pc := 24) (i := .ifCond .eq 5) (n := 3) rfl rfl) (tgt := 29) (by decide) (fun c => ?_) (fun c => ?_)
      · have h := (if_pos c).symm.trans h
        refine J_seg ok_X6_sure 17 1 (pc' := 30) (ls' := [(3, .inl q6.1), (0, .inr (.inr (.inl x0))), (1, .inl x1), (2, .inl x2)]) (st' := [.inr (.inr (.inl x0))]) rfl ?_
        obtain ⟨v9, h10, h⟩ := Option.bind_eq_some_iff.mp h
        refine J_getI (jat ok_X6_sure 18 (pc := 30) (i := .getfield 247) (n := 3) rfl rfl) fl_RX6_247 h10 ?_
        refine J_ne0 (jat ok_X6_sure 19 (pc := 33) (i := .ifCond .ne 9) (n := 3) rfl rfl) (tgt := 42) (by decide) (fun c => ?_) (fun c => ?_)
        · have h := (if_neg c).symm.trans h
          refine J_seg ok_X6_sure 24 1 (pc' := 43) (ls' := [(3, .inl q6.1), (0, .inr (.inr (.inl x0))), (1, .inl x1), (2, .inl x2)]) (st' := [.inr (.inr (.inl x0))]) rfl ?_
          obtain ⟨v11, h12, h⟩ := Option.bind_eq_some_iff.mp h
          refine J_getR (jat ok_X6_sure 25 (pc := 43) (i := .getfield 56) (n := 3) rfl rfl) fl_RX6_56 h12 ?_
          refine J_seg ok_X6_sure 26 1 (pc' := 47) (ls' := [(3, .inl q6.1), (0, .inr (.inr (.inl x0))), (1, .inl x1), (2, .inl x2)]) (st' := [.inl 0, .inr (.inr (.inl v11))]) rfl ?_
          obtain ⟨v13, h14, h⟩ := Option.bind_eq_some_iff.mp h
          refine J_iald (jat ok_X6_sure 27 (pc := 47) (i := .iaload) (n := 1) rfl rfl) h14 ?_
          refine J_seg ok_X6_sure 28 1 (pc' := 49) (ls' := [(3, .inl q6.1), (0, .inr (.inr (.inl x0))), (1, .inl x1), (2, .inl x2)]) (st' := [.inl x1, .inl v13]) rfl ?_
          obtain ⟨q15, h16, h⟩ := Option.bind_eq_some_iff.mp h
          refine J_callS (md' := md_X6_of) (As := [.inl v13, .inl x1]) (st := []) (cs' := (0, 0)) (st' := [.inl q15.1]) (jat ok_X6_sure 29 (pc := 49) (i := .invokestatic 260) (n := 3) rfl rfl) (Or.inl ml_RX6_260) ys_X6_of (c_X6_of l g (d + 3) h16) (jRo_of (by decide)) (Nat.le_of_ble_eq_true rfl) ⟨Nat.le_of_ble_eq_true rfl, Nat.le_of_ble_eq_true rfl⟩ rfl rfl rfl ?_
          refine J_seg ok_X6_sure 30 3 (pc' := 57) (ls' := [(5, .inl 1), (4, .inl q15.1), (3, .inl q6.1), (0, .inr (.inr (.inl x0))), (1, .inl x1), (2, .inl x2)]) (st' := []) rfl ?_
          obtain ⟨q25, h26, h⟩ := Option.bind_eq_some_iff.mp h
          refine J_sub (ls' := [(0, .inr (.inr (.inl x0))), (1, .inl x1), (4, .inl q15.1), (5, .inl 1)]) [3, 4, 1, 0] rfl ?_
          refine J_loop (pE := 97) (lh := fun t28 => [(0, .inr (.inr (.inl x0))), (1, .inl x1), (4, .inl t28.1), (5, .inl t28.2)]) (lx := fun z27 => [(4, .inl z27)]) (P := jRetN) (fun s ah out hb hR hX hN => k_X6_sure_b57 d s ah out hb hR hX hN) jfuel (q15.1, 1) _ _ h26 (fun r e => ?_) (fun z27 e => ?_)
          · subst e
            dsimp only at h
            cases h
          · subst e
            dsimp only at h
            refine J_seg ok_X6_sure 51 1 (pc' := 99) (ls' := [(4, .inl z27.1)]) (st' := [.inl z27.1]) rfl ?_
            have h := Option.some.inj h
            subst h
            exact hR _ _ (jat ok_X6_sure 52 (pc := 99) (i := .ireturn) (n := 1) rfl rfl)
        · have h := (if_pos c).symm.trans h
          refine J_seg ok_X6_sure 20 2 (pc' := 38) (ls' := [(3, .inl q6.1), (0, .inr (.inr (.inl x0))), (1, .inl x1), (2, .inl x2)]) (st' := [.inl 4, .inr (.inr (.inl x0))]) rfl ?_
          by_cases c31 : qO q6.2 x0 6 = true
          case neg => exact absurd ((if_neg c31).symm.trans h) (by simp)
          have h := (if_pos c31).symm.trans h
          obtain ⟨q29, h30, h⟩ := Option.bind_eq_some_iff.mp h
          refine J_callV (md' := md_X6_find) (As := [.inl 4]) (st := []) (cs' := (0, 0)) (st' := [.inl q29.1]) (jat ok_X6_sure 22 (pc := 38) (i := .invokevirtual 81) (n := 3) rfl rfl) ml_RX6_81 yv_X6_find c31 (c_X6_find l g (d + 3) h30) (jRo_of (by decide)) (Nat.le_of_ble_eq_true rfl) ⟨Nat.le_of_ble_eq_true rfl, Nat.le_of_ble_eq_true rfl⟩ rfl rfl rfl ?_
          have h := Option.some.inj h
          subst h
          exact hR _ _ (jat ok_X6_sure 23 (pc := 41) (i := .ireturn) (n := 1) rfl rfl)
      · have h := (if_neg c).symm.trans h
        refine J_seg ok_X6_sure 15 1 (pc' := 28) (ls' := [(3, .inl q6.1), (0, .inr (.inr (.inl x0))), (1, .inl x1), (2, .inl x2)]) (st' := [.inl q6.1]) rfl ?_
        have h := Option.some.inj h
        subst h
        exact hR _ _ (jat ok_X6_sure 16 (pc := 28) (i := .ireturn) (n := 1) rfl rfl)
    · have h := (if_pos c).symm.trans h
      refine J_seg ok_X6_sure 7 1 (pc' := 16) (ls' := [(0, .inr (.inr (.inl x0))), (1, .inl x1), (2, .inl x2)]) (st' := [.inl (-1)]) rfl ?_
      have h := Option.some.inj h
      subst h
      exact hR _ _ (jat ok_X6_sure 8 (pc := 16) (i := .ireturn) (n := 1) rfl rfl)
theorem c_X6_sure (l : Launch) (g : GX) (d : Nat) {x0 : Option Nat} {x1 : Int32} {x2 : Int32} {ah : AH} {q : Int32 × AH} (h : f_X6_sure x0 x1 x2 ah = some q) : jM l g (d + 4) md_X6_sure [.inr (.inr (.inl x0)), .inl x1, .inl x2] ah (some (.inl q.1)) q.2 :=
  jM_of (by decide) (Nat.le_of_ble_eq_true rfl) (k_X6_sure d ah q h (fun pc ls hd => J_reti hd rfl (jPV_int _) rfl (Nat.le_refl _) rfl rfl))
def f_X6_mostLeft_b2 (k0 : Option Nat) (k1 : Int32) (s2 : Int32) (ah : AH) : Option ((Unit × AH) ⊕ (((Unit) × AH) ⊕ ((Int32) × AH))) :=
  if 64 ≤ s2 then (some (.inr (.inl ((), ah)))) else ((gR ah k0 6 27).bind fun v1 => (sA ah v1 s2 0).bind fun a3 => some (.inr (.inr (s2 + 1, a3))))
set_option maxRecDepth 100000 in
set_option maxHeartbeats 4000000 in
theorem k_X6_mostLeft_b2 {l : Launch} {g : GX} (d : Nat) {Q : jQ} {k0 : Option Nat} {k1 : Int32} (s2 : Int32) (ah : AH) (out : (Unit × AH) ⊕ (((Unit) × AH) ⊕ ((Int32) × AH))) (h : f_X6_mostLeft_b2 k0 k1 s2 ah = some out) (hR : ∀ q, out = .inl q → jRetN q.1 q.2) (hX : ∀ q, out = .inr (.inl q) → J l g md_X6_mostLeft (jRm (d + 2) md_X6_mostLeft) Q 21 [(0, .inr (.inr (.inl k0))), (1, .inl k1)] [] q.2 (0, 0)) (hN : ∀ q, out = .inr (.inr q) → J l g md_X6_mostLeft (jRm (d + 2) md_X6_mostLeft) Q 2 [(0, .inr (.inr (.inl k0))), (1, .inl k1), (2, .inl q.1)] [] q.2 (0, 0)) : J l g md_X6_mostLeft (jRm (d + 2) md_X6_mostLeft) Q 2 [(0, .inr (.inr (.inl k0))), (1, .inl k1), (2, .inl s2)] [] ah (0, 0) := by
  unfold f_X6_mostLeft_b2 at h
  refine J_seg ok_X6_mostLeft 2 2 (pc' := 5) (ls' := [(0, .inr (.inr (.inl k0))), (1, .inl k1), (2, .inl s2)]) (st' := [.inl 64, .inl s2]) rfl ?_
  refine J_ge (jat ok_X6_mostLeft 4 (pc := 5) (i := .if_icmp .ge 16) (n := 3) rfl rfl) (tgt := 21) (by decide) (fun c => ?_) (fun c => ?_)
  · have h := (if_pos c).symm.trans h
    exact J_sub (ls' := [(0, .inr (.inr (.inl k0))), (1, .inl k1)]) [0, 1] rfl (hX ((), ah) (Option.some.inj h).symm)
  · have h := (if_neg c).symm.trans h
    refine J_seg ok_X6_mostLeft 5 1 (pc' := 9) (ls' := [(0, .inr (.inr (.inl k0))), (1, .inl k1), (2, .inl s2)]) (st' := [.inr (.inr (.inl k0))]) rfl ?_
    obtain ⟨v1, h2, h⟩ := Option.bind_eq_some_iff.mp h
    refine J_getR (jat ok_X6_mostLeft 6 (pc := 9) (i := .getfield 59) (n := 3) rfl rfl) fl_RX6_59 h2 ?_
    refine J_seg ok_X6_mostLeft 7 2 (pc' := 14) (ls' := [(0, .inr (.inr (.inl k0))), (1, .inl k1), (2, .inl s2)]) (st' := [.inl 0, .inl s2, .inr (.inr (.inl v1))]) rfl ?_
    obtain ⟨a3, h4, h⟩ := Option.bind_eq_some_iff.mp h
    refine J_iast (jat ok_X6_mostLeft 9 (pc := 14) (i := .iastore) (n := 1) rfl rfl) h4 ?_
    refine J_seg ok_X6_mostLeft 10 2 (pc' := 2) (ls' := [(2, .inl (s2 + 1)), (0, .inr (.inr (.inl k0))), (1, .inl k1)]) (st' := []) rfl ?_
    exact J_sub (ls' := [(0, .inr (.inr (.inl k0))), (1, .inl k1), (2, .inl (s2 + 1))]) [1, 2, 0] rfl (hN (s2 + 1, a3) (Option.some.inj h).symm)
def f_X6_mostLeft_b25 (k0 : Option Nat) (k1 : Int32) (s25 : Int32 × Int32) (ah : AH) : Option ((Unit × AH) ⊕ (((Int32) × AH) ⊕ ((Int32 × Int32) × AH))) :=
  (gI ah k0 6 26).bind fun v9 => if v9 ≤ s25.2 then (some (.inr (.inl (s25.1, ah)))) else ((gR ah k0 6 25).bind fun v11 => (gA ah v11 s25.2).bind fun v13 => if qO ah k0 6 = true then ((f_X6_victimsOf k0 v13 k1 ah).bind fun q15 => (gR q15.2 k0 6 27).bind fun v18 => (gA q15.2 v18 q15.1).bind fun v20 => (sA q15.2 v18 q15.1 (v20 + 1)).bind fun a22 => (gR a22 k0 6 27).bind fun v24 => (gA a22 v24 q15.1).bind fun v26 => if v26 ≤ s25.1 then (some (.inr (.inr ((s25.1, s25.2 + 1), a22)))) else ((gR a22 k0 6 27).bind fun v28 => (gA a22 v28 q15.1).bind fun v30 => some (.inr (.inr ((v30, s25.2 + 1), a22))))) else none)
set_option maxRecDepth 100000 in
set_option maxHeartbeats 4000000 in
theorem k_X6_mostLeft_b25 {l : Launch} {g : GX} (d : Nat) {Q : jQ} {k0 : Option Nat} {k1 : Int32} (s25 : Int32 × Int32) (ah : AH) (out : (Unit × AH) ⊕ (((Int32) × AH) ⊕ ((Int32 × Int32) × AH))) (h : f_X6_mostLeft_b25 k0 k1 s25 ah = some out) (hR : ∀ q, out = .inl q → jRetN q.1 q.2) (hX : ∀ q, out = .inr (.inl q) → J l g md_X6_mostLeft (jRm (d + 2) md_X6_mostLeft) Q 86 [(2, .inl q.1)] [] q.2 (0, 0)) (hN : ∀ q, out = .inr (.inr q) → J l g md_X6_mostLeft (jRm (d + 2) md_X6_mostLeft) Q 25 [(0, .inr (.inr (.inl k0))), (1, .inl k1), (2, .inl q.1.1), (3, .inl q.1.2)] [] q.2 (0, 0)) : J l g md_X6_mostLeft (jRm (d + 2) md_X6_mostLeft) Q 25 [(0, .inr (.inr (.inl k0))), (1, .inl k1), (2, .inl s25.1), (3, .inl s25.2)] [] ah (0, 0) := by
  unfold f_X6_mostLeft_b25 at h
  refine J_seg ok_X6_mostLeft 16 2 (pc' := 27) (ls' := [(0, .inr (.inr (.inl k0))), (1, .inl k1), (2, .inl s25.1), (3, .inl s25.2)]) (st' := [.inr (.inr (.inl k0)), .inl s25.2]) rfl ?_
  obtain ⟨v9, h10, h⟩ := Option.bind_eq_some_iff.mp h
  refine J_getI (jat ok_X6_mostLeft 18 (pc := 27) (i := .getfield 247) (n := 3) rfl rfl) fl_RX6_247 h10 ?_
  refine J_ge (jat ok_X6_mostLeft 19 (pc := 30) (i := .if_icmp .ge 56) (n := 3) rfl rfl) (tgt := 86) (by decide) (fun c => ?_) (fun c => ?_)
  · have h := (if_pos c).symm.trans h
    exact J_sub (ls' := [(2, .inl s25.1)]) [2] rfl (hX (s25.1, ah) (Option.some.inj h).symm)
  · have h := (if_neg c).symm.trans h
    refine J_seg ok_X6_mostLeft 20 2 (pc' := 35) (ls' := [(0, .inr (.inr (.inl k0))), (1, .inl k1), (2, .inl s25.1), (3, .inl s25.2)]) (st' := [.inr (.inr (.inl k0)), .inr (.inr (.inl k0))]) rfl ?_
    obtain ⟨v11, h12, h⟩ := Option.bind_eq_some_iff.mp h
    refine J_getR (jat ok_X6_mostLeft 22 (pc := 35) (i := .getfield 56) (n := 3) rfl rfl) fl_RX6_56 h12 ?_
    refine J_seg ok_X6_mostLeft 23 1 (pc' := 39) (ls' := [(0, .inr (.inr (.inl k0))), (1, .inl k1), (2, .inl s25.1), (3, .inl s25.2)]) (st' := [.inl s25.2, .inr (.inr (.inl v11)), .inr (.inr (.inl k0))]) rfl ?_
    obtain ⟨v13, h14, h⟩ := Option.bind_eq_some_iff.mp h
    refine J_iald (jat ok_X6_mostLeft 24 (pc := 39) (i := .iaload) (n := 1) rfl rfl) h14 ?_
    refine J_seg ok_X6_mostLeft 25 1 (pc' := 41) (ls' := [(0, .inr (.inr (.inl k0))), (1, .inl k1), (2, .inl s25.1), (3, .inl s25.2)]) (st' := [.inl k1, .inl v13, .inr (.inr (.inl k0))]) rfl ?_
    by_cases c17 : qO ah k0 6 = true
    case neg => exact absurd ((if_neg c17).symm.trans h) (by simp)
    have h := (if_pos c17).symm.trans h
    obtain ⟨q15, h16, h⟩ := Option.bind_eq_some_iff.mp h
    refine J_callV (md' := md_X6_victimsOf) (As := [.inl v13, .inl k1]) (st := []) (cs' := (0, 0)) (st' := [.inl q15.1]) (jat ok_X6_mostLeft 26 (pc := 41) (i := .invokevirtual 267) (n := 3) rfl rfl) ml_RX6_267 yv_X6_victimsOf c17 (c_X6_victimsOf l g (d + 0) h16) (jRo_of (by decide)) (Nat.le_of_ble_eq_true rfl) ⟨Nat.le_of_ble_eq_true rfl, Nat.le_of_ble_eq_true rfl⟩ rfl rfl rfl ?_
    refine J_seg ok_X6_mostLeft 27 2 (pc' := 47) (ls' := [(4, .inl q15.1), (0, .inr (.inr (.inl k0))), (1, .inl k1), (2, .inl s25.1), (3, .inl s25.2)]) (st' := [.inr (.inr (.inl k0))]) rfl ?_
    obtain ⟨v18, h19, h⟩ := Option.bind_eq_some_iff.mp h
    refine J_getR (jat ok_X6_mostLeft 29 (pc := 47) (i := .getfield 59) (n := 3) rfl rfl) fl_RX6_59 h19 ?_
    refine J_seg ok_X6_mostLeft 30 2 (pc' := 53) (ls' := [(4, .inl q15.1), (0, .inr (.inr (.inl k0))), (1, .inl k1), (2, .inl s25.1), (3, .inl s25.2)]) (st' := [.inl q15.1, .inr (.inr (.inl v18)), .inl q15.1, .inr (.inr (.inl v18))]) rfl ?_
    obtain ⟨v20, h21, h⟩ := Option.bind_eq_some_iff.mp h
    refine J_iald (jat ok_X6_mostLeft 32 (pc := 53) (i := .iaload) (n := 1) rfl rfl) h21 ?_
    refine J_seg ok_X6_mostLeft 33 2 (pc' := 56) (ls' := [(4, .inl q15.1), (0, .inr (.inr (.inl k0))), (1, .inl k1), (2, .inl s25.1), (3, .inl s25.2)]) (st' := [.inl (v20 + 1), .inl q15.1, .inr (.inr (.inl v18))]) rfl ?_
    obtain ⟨a22, h23, h⟩ := Option.bind_eq_some_iff.mp h
    refine J_iast (jat ok_X6_mostLeft 35 (pc := 56) (i := .iastore) (n := 1) rfl rfl) h23 ?_
    refine J_seg ok_X6_mostLeft 36 1 (pc' := 58) (ls' := [(4, .inl q15.1), (0, .inr (.inr (.inl k0))), (1, .inl k1), (2, .inl s25.1), (3, .inl s25.2)]) (st' := [.inr (.inr (.inl k0))]) rfl ?_
    obtain ⟨v24, h25, h⟩ := Option.bind_eq_some_iff.mp h
    refine J_getR (jat ok_X6_mostLeft 37 (pc := 58) (i := .getfield 59) (n := 3) rfl rfl) fl_RX6_59 h25 ?_
    refine J_seg ok_X6_mostLeft 38 1 (pc' := 63) (ls' := [(4, .inl q15.1), (0, .inr (.inr (.inl k0))), (1, .inl k1), (2, .inl s25.1), (3, .inl s25.2)]) (st' := [.inl q15.1, .inr (.inr (.inl v24))]) rfl ?_
    obtain ⟨v26, h27, h⟩ := Option.bind_eq_some_iff.mp h
    refine J_iald (jat ok_X6_mostLeft 39 (pc := 63) (i := .iaload) (n := 1) rfl rfl) h27 ?_
    refine J_seg ok_X6_mostLeft 40 1 (pc' := 65) (ls' := [(4, .inl q15.1), (0, .inr (.inr (.inl k0))), (1, .inl k1), (2, .inl s25.1), (3, .inl s25.2)]) (st' := [.inl s25.1, .inl v26]) rfl ?_
    refine J_le (jat ok_X6_mostLeft 41 (pc := 65) (i := .if_icmp .le 13) (n := 3) rfl rfl) (tgt := 78) (by decide) (fun c => ?_) (fun c => ?_)
    · have h := (if_pos c).symm.trans h
      refine J_seg ok_X6_mostLeft 47 4 (pc' := 25) (ls' := [(3, .inl (s25.2 + 1)), (2, .inl s25.1), (4, .inl q15.1), (0, .inr (.inr (.inl k0))), (1, .inl k1)]) (st' := []) rfl ?_
      exact J_sub (ls' := [(0, .inr (.inr (.inl k0))), (1, .inl k1), (2, .inl s25.1), (3, .inl (s25.2 + 1))]) [3, 4, 1, 0] rfl (hN ((s25.1, s25.2 + 1), a22) (Option.some.inj h).symm)
    · have h := (if_neg c).symm.trans h
      refine J_seg ok_X6_mostLeft 42 1 (pc' := 69) (ls' := [(4, .inl q15.1), (0, .inr (.inr (.inl k0))), (1, .inl k1), (2, .inl s25.1), (3, .inl s25.2)]) (st' := [.inr (.inr (.inl k0))]) rfl ?_
      obtain ⟨v28, h29, h⟩ := Option.bind_eq_some_iff.mp h
      refine J_getR (jat ok_X6_mostLeft 43 (pc := 69) (i := .getfield 59) (n := 3) rfl rfl) fl_RX6_59 h29 ?_
      refine J_seg ok_X6_mostLeft 44 1 (pc' := 74) (ls' := [(4, .inl q15.1), (0, .inr (.inr (.inl k0))), (1, .inl k1), (2, .inl s25.1), (3, .inl s25.2)]) (st' := [.inl q15.1, .inr (.inr (.inl v28))]) rfl ?_
      obtain ⟨v30, h31, h⟩ := Option.bind_eq_some_iff.mp h
      refine J_iald (jat ok_X6_mostLeft 45 (pc := 74) (i := .iaload) (n := 1) rfl rfl) h31 ?_
      refine J_seg ok_X6_mostLeft 46 1 (pc' := 79) (ls' := [(4, .inl q15.1), (0, .inr (.inr (.inl k0))), (1, .inl k1), (2, .inl s25.1), (3, .inl s25.2)]) (st' := [.inl v30]) rfl ?_
      refine J_seg ok_X6_mostLeft 48 3 (pc' := 25) (ls' := [(3, .inl (s25.2 + 1)), (2, .inl v30), (4, .inl q15.1), (0, .inr (.inr (.inl k0))), (1, .inl k1)]) (st' := []) rfl ?_
      exact J_sub (ls' := [(0, .inr (.inr (.inl k0))), (1, .inl k1), (2, .inl v30), (3, .inl (s25.2 + 1))]) [3, 4, 1, 0] rfl (hN ((v30, s25.2 + 1), a22) (Option.some.inj h).symm)
def f_X6_mostLeft (x0 : Option Nat) (x1 : Int32) (ah : AH) : Option (Int32 × AH) :=
  (jloop (f_X6_mostLeft_b2 x0 x1) jfuel 0 ah).bind fun q5 => match q5 with | .inl r => none | .inr z7 => (jloop (f_X6_mostLeft_b25 x0 x1) jfuel (0, 0) z7.2).bind fun q32 => match q32 with | .inl r => none | .inr z34 => some (z34.1, z34.2)
set_option maxRecDepth 100000 in
set_option maxHeartbeats 4000000 in
theorem k_X6_mostLeft {l : Launch} {g : GX} (d : Nat) {Q : jQ} {x0 : Option Nat} {x1 : Int32} (ah : AH) (out : Int32 × AH) (h : f_X6_mostLeft x0 x1 ah = some out) (hR : jRetI l g md_X6_mostLeft (jRm (d + 2) md_X6_mostLeft) Q (0, 0) out.1 out.2) : J l g md_X6_mostLeft (jRm (d + 2) md_X6_mostLeft) Q 0 [(0, .inr (.inr (.inl x0))), (1, .inl x1)] [] ah (0, 0) := by
  unfold f_X6_mostLeft at h
  refine J_seg ok_X6_mostLeft 0 2 (pc' := 2) (ls' := [(2, .inl 0), (0, .inr (.inr (.inl x0))), (1, .inl x1)]) (st' := []) rfl ?_
  obtain ⟨q5, h6, h⟩ := Option.bind_eq_some_iff.mp h
  refine J_sub (ls' := [(0, .inr (.inr (.inl x0))), (1, .inl x1), (2, .inl 0)]) [1, 2, 0] rfl ?_
  refine J_loop (pE := 21) (lh := fun t8 => [(0, .inr (.inr (.inl x0))), (1, .inl x1), (2, .inl t8)]) (lx := fun z7 => [(0, .inr (.inr (.inl x0))), (1, .inl x1)]) (P := jRetN) (fun s ah out hb hR hX hN => k_X6_mostLeft_b2 d s ah out hb hR hX hN) jfuel 0 _ _ h6 (fun r e => ?_) (fun z7 e => ?_)
  · subst e
    dsimp only at h
    cases h
  · subst e
    dsimp only at h
    refine J_seg ok_X6_mostLeft 12 4 (pc' := 25) (ls' := [(3, .inl 0), (2, .inl 0), (0, .inr (.inr (.inl x0))), (1, .inl x1)]) (st' := []) rfl ?_
    obtain ⟨q32, h33, h⟩ := Option.bind_eq_some_iff.mp h
    refine J_sub (ls' := [(0, .inr (.inr (.inl x0))), (1, .inl x1), (2, .inl 0), (3, .inl 0)]) [2, 3, 1, 0] rfl ?_
    refine J_loop (pE := 86) (lh := fun t35 => [(0, .inr (.inr (.inl x0))), (1, .inl x1), (2, .inl t35.1), (3, .inl t35.2)]) (lx := fun z34 => [(2, .inl z34)]) (P := jRetN) (fun s ah out hb hR hX hN => k_X6_mostLeft_b25 d s ah out hb hR hX hN) jfuel (0, 0) _ _ h33 (fun r e => ?_) (fun z34 e => ?_)
    · subst e
      dsimp only at h
      cases h
    · subst e
      dsimp only at h
      refine J_seg ok_X6_mostLeft 51 1 (pc' := 87) (ls' := [(2, .inl z34.1)]) (st' := [.inl z34.1]) rfl ?_
      have h := Option.some.inj h
      subst h
      exact hR _ _ (jat ok_X6_mostLeft 52 (pc := 87) (i := .ireturn) (n := 1) rfl rfl)
theorem c_X6_mostLeft (l : Launch) (g : GX) (d : Nat) {x0 : Option Nat} {x1 : Int32} {ah : AH} {q : Int32 × AH} (h : f_X6_mostLeft x0 x1 ah = some q) : jM l g (d + 2) md_X6_mostLeft [.inr (.inr (.inl x0)), .inl x1] ah (some (.inl q.1)) q.2 :=
  jM_of (by decide) (Nat.le_of_ble_eq_true rfl) (k_X6_mostLeft d ah q h (fun pc ls hd => J_reti hd rfl (jPV_int _) rfl (Nat.le_refl _) rfl rfl))
def f_X6_ask_b45_j77 (k0 : Option Nat) (x4 : Int32) (x5 : Int32) (x6 : Int32) (y0 : Int32) (ah : AH) : Option ((Unit × AH) ⊕ (((Int32 × Int32) × AH) ⊕ ((Int32 × Int32 × Int32) × AH))) :=
  if x4 ≤ x6 then (some (.inr (.inr ((y0, x4, x5 + 1), ah)))) else (some (.inr (.inr ((y0, x6, x5 + 1), ah))))
set_option maxRecDepth 100000 in
set_option maxHeartbeats 4000000 in
theorem k_X6_ask_b45_j77 {l : Launch} {g : GX} (d : Nat) {Q : jQ} {k0 : Option Nat} {x4 : Int32} {x5 : Int32} {x6 : Int32} {y0 : Int32} (ah : AH) (out : (Unit × AH) ⊕ (((Int32 × Int32) × AH) ⊕ ((Int32 × Int32 × Int32) × AH))) (h : f_X6_ask_b45_j77 k0 x4 x5 x6 y0 ah = some out) (hR : ∀ q, out = .inl q → jRetN q.1 q.2) (hX : ∀ q, out = .inr (.inl q) → J l g md_X6_ask (jRm (d + 4) md_X6_ask) Q 100 [(0, .inr (.inr (.inl k0))), (3, .inl q.1.1), (4, .inl q.1.2)] [] q.2 (0, 0)) (hN : ∀ q, out = .inr (.inr q) → J l g md_X6_ask (jRm (d + 4) md_X6_ask) Q 45 [(0, .inr (.inr (.inl k0))), (3, .inl q.1.1), (4, .inl q.1.2.1), (5, .inl q.1.2.2)] [] q.2 (0, 0)) : J l g md_X6_ask (jRm (d + 4) md_X6_ask) Q 77 [(0, .inr (.inr (.inl k0))), (4, .inl x4), (5, .inl x5), (6, .inl x6)] [.inl y0] ah (0, 0) := by
  unfold f_X6_ask_b45_j77 at h
  refine J_seg ok_X6_ask 43 3 (pc' := 82) (ls' := [(3, .inl y0), (0, .inr (.inr (.inl k0))), (4, .inl x4), (5, .inl x5), (6, .inl x6)]) (st' := [.inl x4, .inl x6]) rfl ?_
  refine J_ge (jat ok_X6_ask 46 (pc := 82) (i := .if_icmp .ge 8) (n := 3) rfl rfl) (tgt := 90) (by decide) (fun c => ?_) (fun c => ?_)
  · have h := (if_pos c).symm.trans h
    refine J_seg ok_X6_ask 49 4 (pc' := 45) (ls' := [(5, .inl (x5 + 1)), (4, .inl x4), (3, .inl y0), (0, .inr (.inr (.inl k0))), (6, .inl x6)]) (st' := []) rfl ?_
    exact J_sub (ls' := [(0, .inr (.inr (.inl k0))), (3, .inl y0), (4, .inl x4), (5, .inl (x5 + 1))]) [3, 2, 1, 0] rfl (hN ((y0, x4, x5 + 1), ah) (Option.some.inj h).symm)
  · have h := (if_neg c).symm.trans h
    refine J_seg ok_X6_ask 47 2 (pc' := 92) (ls' := [(3, .inl y0), (0, .inr (.inr (.inl k0))), (4, .inl x4), (5, .inl x5), (6, .inl x6)]) (st' := [.inl x6]) rfl ?_
    refine J_seg ok_X6_ask 50 3 (pc' := 45) (ls' := [(5, .inl (x5 + 1)), (4, .inl x6), (3, .inl y0), (0, .inr (.inr (.inl k0))), (6, .inl x6)]) (st' := []) rfl ?_
    exact J_sub (ls' := [(0, .inr (.inr (.inl k0))), (3, .inl y0), (4, .inl x6), (5, .inl (x5 + 1))]) [3, 2, 1, 0] rfl (hN ((y0, x6, x5 + 1), ah) (Option.some.inj h).symm)
def f_X6_ask_b45 (k0 : Option Nat) (s45 : Int32 × Int32 × Int32) (ah : AH) : Option ((Unit × AH) ⊕ (((Int32 × Int32) × AH) ⊕ ((Int32 × Int32 × Int32) × AH))) :=
  (gI ah k0 6 1).bind fun v10 => if (1 <<< (v10 &&& 31)) ≤ s45.2.2 then (some (.inr (.inl ((s45.1, s45.2.1), ah)))) else (if qO ah k0 6 = true then ((f_X6_mostLeft k0 s45.2.2 ah).bind fun q12 => if s45.2.1 ≤ q12.1 then (f_X6_ask_b45_j77 k0 s45.2.1 s45.2.2 q12.1 s45.1 q12.2) else (f_X6_ask_b45_j77 k0 s45.2.1 s45.2.2 q12.1 s45.2.2 q12.2)) else none)
set_option maxRecDepth 100000 in
set_option maxHeartbeats 4000000 in
theorem k_X6_ask_b45 {l : Launch} {g : GX} (d : Nat) {Q : jQ} {k0 : Option Nat} (s45 : Int32 × Int32 × Int32) (ah : AH) (out : (Unit × AH) ⊕ (((Int32 × Int32) × AH) ⊕ ((Int32 × Int32 × Int32) × AH))) (h : f_X6_ask_b45 k0 s45 ah = some out) (hR : ∀ q, out = .inl q → jRetN q.1 q.2) (hX : ∀ q, out = .inr (.inl q) → J l g md_X6_ask (jRm (d + 4) md_X6_ask) Q 100 [(0, .inr (.inr (.inl k0))), (3, .inl q.1.1), (4, .inl q.1.2)] [] q.2 (0, 0)) (hN : ∀ q, out = .inr (.inr q) → J l g md_X6_ask (jRm (d + 4) md_X6_ask) Q 45 [(0, .inr (.inr (.inl k0))), (3, .inl q.1.1), (4, .inl q.1.2.1), (5, .inl q.1.2.2)] [] q.2 (0, 0)) : J l g md_X6_ask (jRm (d + 4) md_X6_ask) Q 45 [(0, .inr (.inr (.inl k0))), (3, .inl s45.1), (4, .inl s45.2.1), (5, .inl s45.2.2)] [] ah (0, 0) := by
  unfold f_X6_ask_b45 at h
  refine J_seg ok_X6_ask 27 3 (pc' := 49) (ls' := [(0, .inr (.inr (.inl k0))), (3, .inl s45.1), (4, .inl s45.2.1), (5, .inl s45.2.2)]) (st' := [.inr (.inr (.inl k0)), .inl 1, .inl s45.2.2]) rfl ?_
  obtain ⟨v10, h11, h⟩ := Option.bind_eq_some_iff.mp h
  refine J_getI (jat ok_X6_ask 30 (pc := 49) (i := .getfield 148) (n := 3) rfl rfl) fl_RX6_148 h11 ?_
  refine J_seg ok_X6_ask 31 1 (pc' := 53) (ls' := [(0, .inr (.inr (.inl k0))), (3, .inl s45.1), (4, .inl s45.2.1), (5, .inl s45.2.2)]) (st' := [.inl (1 <<< (v10 &&& 31)), .inl s45.2.2]) rfl ?_
  refine J_ge (jat ok_X6_ask 32 (pc := 53) (i := .if_icmp .ge 47) (n := 3) rfl rfl) (tgt := 100) (by decide) (fun c => ?_) (fun c => ?_)
  · have h := (if_pos c).symm.trans h
    exact J_sub (ls' := [(0, .inr (.inr (.inl k0))), (3, .inl s45.1), (4, .inl s45.2.1)]) [0, 1, 2] rfl (hX ((s45.1, s45.2.1), ah) (Option.some.inj h).symm)
  · have h := (if_neg c).symm.trans h
    refine J_seg ok_X6_ask 33 2 (pc' := 59) (ls' := [(0, .inr (.inr (.inl k0))), (3, .inl s45.1), (4, .inl s45.2.1), (5, .inl s45.2.2)]) (st' := [.inl s45.2.2, .inr (.inr (.inl k0))]) rfl ?_
    by_cases c14 : qO ah k0 6 = true
    case neg => exact absurd ((if_neg c14).symm.trans h) (by simp)
    have h := (if_pos c14).symm.trans h
    obtain ⟨q12, h13, h⟩ := Option.bind_eq_some_iff.mp h
    refine J_callV (md' := md_X6_mostLeft) (As := [.inl s45.2.2]) (st := []) (cs' := (0, 0)) (st' := [.inl q12.1]) (jat ok_X6_ask 35 (pc := 59) (i := .invokevirtual 273) (n := 3) rfl rfl) ml_RX6_273 yv_X6_mostLeft c14 (c_X6_mostLeft l g (d + 1) h13) (jRo_of (by decide)) (Nat.le_of_ble_eq_true rfl) ⟨Nat.le_of_ble_eq_true rfl, Nat.le_of_ble_eq_true rfl⟩ rfl rfl rfl ?_
    refine J_seg ok_X6_ask 36 3 (pc' := 68) (ls' := [(6, .inl q12.1), (0, .inr (.inr (.inl k0))), (3, .inl s45.1), (4, .inl s45.2.1), (5, .inl s45.2.2)]) (st' := [.inl s45.2.1, .inl q12.1]) rfl ?_
    refine J_ge (jat ok_X6_ask 39 (pc := 68) (i := .if_icmp .ge 8) (n := 3) rfl rfl) (tgt := 76) (by decide) (fun c => ?_) (fun c => ?_)
    · have h := (if_pos c).symm.trans h
      refine J_seg ok_X6_ask 42 1 (pc' := 77) (ls' := [(6, .inl q12.1), (0, .inr (.inr (.inl k0))), (3, .inl s45.1), (4, .inl s45.2.1), (5, .inl s45.2.2)]) (st' := [.inl s45.1]) rfl ?_
      refine J_sub (ls' := [(0, .inr (.inr (.inl k0))), (4, .inl s45.2.1), (5, .inl s45.2.2), (6, .inl q12.1)]) [1, 3, 4, 0] rfl ?_
      exact k_X6_ask_b45_j77 d _ _ h hR hX hN
    · have h := (if_neg c).symm.trans h
      refine J_seg ok_X6_ask 40 2 (pc' := 77) (ls' := [(6, .inl q12.1), (0, .inr (.inr (.inl k0))), (3, .inl s45.1), (4, .inl s45.2.1), (5, .inl s45.2.2)]) (st' := [.inl s45.2.2]) rfl ?_
      refine J_sub (ls' := [(0, .inr (.inr (.inl k0))), (4, .inl s45.2.1), (5, .inl s45.2.2), (6, .inl q12.1)]) [1, 3, 4, 0] rfl ?_
      exact k_X6_ask_b45_j77 d _ _ h hR hX hN
def f_X6_ask (x0 : Option Nat) (x1 : Int32) (ah : AH) : Option (Int32 × AH) :=
  (f_X6_isRow x1 ah).bind fun q1 => if q1.1 = 0 then (some ((-1), q1.2)) else (if qO q1.2 x0 6 = true then ((f_X6_layFits x0 x1 q1.2).bind fun q3 => if q3.1 = 0 then ((gI q3.2 x0 6 26).bind fun v6 => if v6 = 0 then (if qO q3.2 x0 6 = true then ((f_X6_find x0 4 q3.2).bind fun q21 => some (q21.1, q21.2)) else none) else ((gI q3.2 x0 6 26).bind fun v8 => (jloop (f_X6_ask_b45 x0) jfuel (0, v8, 1) q3.2).bind fun q15 => match q15 with | .inl r => none | .inr z17 => (sF z17.2 x0 6 11 (.inl z17.1.2)).bind fun a19 => some (z17.1.1, a19))) else (some (q3.1, q3.2))) else none)
set_option maxRecDepth 100000 in
set_option maxHeartbeats 4000000 in
theorem k_X6_ask {l : Launch} {g : GX} (d : Nat) {Q : jQ} {x0 : Option Nat} {x1 : Int32} (ah : AH) (out : Int32 × AH) (h : f_X6_ask x0 x1 ah = some out) (hR : jRetI l g md_X6_ask (jRm (d + 4) md_X6_ask) Q (0, 0) out.1 out.2) : J l g md_X6_ask (jRm (d + 4) md_X6_ask) Q 0 [(0, .inr (.inr (.inl x0))), (1, .inl x1)] [] ah (0, 0) := by
  unfold f_X6_ask at h
  refine J_seg ok_X6_ask 0 1 (pc' := 1) (ls' := [(0, .inr (.inr (.inl x0))), (1, .inl x1)]) (st' := [.inl x1]) rfl ?_
  obtain ⟨q1, h2, h⟩ := Option.bind_eq_some_iff.mp h
  refine J_callS (md' := md_X6_isRow) (As := [.inl x1]) (st := []) (cs' := (0, 0)) (st' := [.inl q1.1]) (jat ok_X6_ask 1 (pc := 1) (i := .invokestatic 77) (n := 3) rfl rfl) (Or.inl ml_RX6_77) ys_X6_isRow (c_X6_isRow l g (d + 2) h2) (jRo_of (by decide)) (Nat.le_of_ble_eq_true rfl) ⟨Nat.le_of_ble_eq_true rfl, Nat.le_of_ble_eq_true rfl⟩ rfl rfl rfl ?_
  refine J_ne0 (jat ok_X6_ask 2 (pc := 4) (i := .ifCond .ne 5) (n := 3) rfl rfl) (tgt := 9) (by decide) (fun c => ?_) (fun c => ?_)
  · have h := (if_neg c).symm.trans h
    refine J_seg ok_X6_ask 5 2 (pc' := 11) (ls' := [(0, .inr (.inr (.inl x0))), (1, .inl x1)]) (st' := [.inl x1, .inr (.inr (.inl x0))]) rfl ?_
    by_cases c5 : qO q1.2 x0 6 = true
    case neg => exact absurd ((if_neg c5).symm.trans h) (by simp)
    have h := (if_pos c5).symm.trans h
    obtain ⟨q3, h4, h⟩ := Option.bind_eq_some_iff.mp h
    refine J_callV (md' := md_X6_layFits) (As := [.inl x1]) (st := []) (cs' := (0, 0)) (st' := [.inl q3.1]) (jat ok_X6_ask 7 (pc := 11) (i := .invokevirtual 270) (n := 3) rfl rfl) ml_RX6_270 yv_X6_layFits c5 (c_X6_layFits l g (d + 0) h4) (jRo_of (by decide)) (Nat.le_of_ble_eq_true rfl) ⟨Nat.le_of_ble_eq_true rfl, Nat.le_of_ble_eq_true rfl⟩ rfl rfl rfl ?_
    refine J_seg ok_X6_ask 8 2 (pc' := 16) (ls' := [(2, .inl q3.1), (0, .inr (.inr (.inl x0))), (1, .inl x1)]) (st' := [.inl q3.1]) rfl ?_
    refine J_eq0 (jat ok_X6_ask 10 (pc := 16) (i := .ifCond .eq 5) (n := 3) rfl rfl) (tgt := 21) (by decide) (fun c => ?_) (fun c => ?_)
    · have h := (if_pos c).symm.trans h
      refine J_seg ok_X6_ask 13 1 (pc' := 22) (ls' := [(2, .inl q3.1), (0, .inr (.inr (.inl x0))), (1, .inl x1)]) (st' := [.inr (.inr (.inl x0))]) rfl ?_
      obtain ⟨v6, h7, h⟩ := Option.bind_eq_some_iff.mp h
      refine J_getI (jat ok_X6_ask 14 (pc := 22) (i := .getfield 247) (n := 3) rfl rfl) fl_RX6_247 h7 ?_
      refine J_ne0 (jat ok_X6_ask 15 (pc := 25) (i := .ifCond .ne 9) (n := 3) rfl rfl) (tgt := 34) (by decide) (fun c => ?_) (fun c => ?_)
      · have h := (if_neg c).symm.trans h
        refine J_seg ok_X6_ask 20 3 (pc' := 37) (ls' := [(3, .inl 0), (2, .inl q3.1), (0, .inr (.inr (.inl x0))), (1, .inl x1)]) (st' := [.inr (.inr (.inl x0))]) rfl ?_
        obtain ⟨v8, h9, h⟩ := Option.bind_eq_some_iff.mp h
        refine J_getI (jat ok_X6_ask 23 (pc := 37) (i := .getfield 247) (n := 3) rfl rfl) fl_RX6_247 h9 ?_
        refine J_seg ok_X6_ask 24 3 (pc' := 45) (ls' := [(5, .inl 1), (4, .inl v8), (3, .inl 0), (2, .inl q3.1), (0, .inr (.inr (.inl x0))), (1, .inl x1)]) (st' := []) rfl ?_
        obtain ⟨q15, h16, h⟩ := Option.bind_eq_some_iff.mp h
        refine J_sub (ls' := [(0, .inr (.inr (.inl x0))), (3, .inl 0), (4, .inl v8), (5, .inl 1)]) [4, 2, 1, 0] rfl ?_
        refine J_loop (pE := 100) (lh := fun t18 => [(0, .inr (.inr (.inl x0))), (3, .inl t18.1), (4, .inl t18.2.1), (5, .inl t18.2.2)]) (lx := fun z17 => [(0, .inr (.inr (.inl x0))), (3, .inl z17.1), (4, .inl z17.2)]) (P := jRetN) (fun s ah out hb hR hX hN => k_X6_ask_b45 d s ah out hb hR hX hN) jfuel (0, v8, 1) _ _ h16 (fun r e => ?_) (fun z17 e => ?_)
        · subst e
          dsimp only at h
          cases h
        · subst e
          dsimp only at h
          refine J_seg ok_X6_ask 53 2 (pc' := 103) (ls' := [(0, .inr (.inr (.inl x0))), (3, .inl z17.1.1), (4, .inl z17.1.2)]) (st' := [.inl z17.1.2, .inr (.inr (.inl x0))]) rfl ?_
          obtain ⟨a19, h20, h⟩ := Option.bind_eq_some_iff.mp h
          refine J_put (jat ok_X6_ask 55 (pc := 103) (i := .putfield 66) (n := 3) rfl rfl) (fp_RX6_66 _) (jPV_int _) h20 ?_
          refine J_seg ok_X6_ask 56 1 (pc' := 107) (ls' := [(0, .inr (.inr (.inl x0))), (3, .inl z17.1.1), (4, .inl z17.1.2)]) (st' := [.inl z17.1.1]) rfl ?_
          have h := Option.some.inj h
          subst h
          exact hR _ _ (jat ok_X6_ask 57 (pc := 107) (i := .ireturn) (n := 1) rfl rfl)
      · have h := (if_pos c).symm.trans h
        refine J_seg ok_X6_ask 16 2 (pc' := 30) (ls' := [(2, .inl q3.1), (0, .inr (.inr (.inl x0))), (1, .inl x1)]) (st' := [.inl 4, .inr (.inr (.inl x0))]) rfl ?_
        by_cases c23 : qO q3.2 x0 6 = true
        case neg => exact absurd ((if_neg c23).symm.trans h) (by simp)
        have h := (if_pos c23).symm.trans h
        obtain ⟨q21, h22, h⟩ := Option.bind_eq_some_iff.mp h
        refine J_callV (md' := md_X6_find) (As := [.inl 4]) (st := []) (cs' := (0, 0)) (st' := [.inl q21.1]) (jat ok_X6_ask 18 (pc := 30) (i := .invokevirtual 81) (n := 3) rfl rfl) ml_RX6_81 yv_X6_find c23 (c_X6_find l g (d + 3) h22) (jRo_of (by decide)) (Nat.le_of_ble_eq_true rfl) ⟨Nat.le_of_ble_eq_true rfl, Nat.le_of_ble_eq_true rfl⟩ rfl rfl rfl ?_
        have h := Option.some.inj h
        subst h
        exact hR _ _ (jat ok_X6_ask 19 (pc := 33) (i := .ireturn) (n := 1) rfl rfl)
    · have h := (if_neg c).symm.trans h
      refine J_seg ok_X6_ask 11 1 (pc' := 20) (ls' := [(2, .inl q3.1), (0, .inr (.inr (.inl x0))), (1, .inl x1)]) (st' := [.inl q3.1]) rfl ?_
      have h := Option.some.inj h
      subst h
      exact hR _ _ (jat ok_X6_ask 12 (pc := 20) (i := .ireturn) (n := 1) rfl rfl)
  · have h := (if_pos c).symm.trans h
    refine J_seg ok_X6_ask 3 1 (pc' := 8) (ls' := [(0, .inr (.inr (.inl x0))), (1, .inl x1)]) (st' := [.inl (-1)]) rfl ?_
    have h := Option.some.inj h
    subst h
    exact hR _ _ (jat ok_X6_ask 4 (pc := 8) (i := .ireturn) (n := 1) rfl rfl)
theorem c_X6_ask (l : Launch) (g : GX) (d : Nat) {x0 : Option Nat} {x1 : Int32} {ah : AH} {q : Int32 × AH} (h : f_X6_ask x0 x1 ah = some q) : jM l g (d + 4) md_X6_ask [.inr (.inr (.inl x0)), .inl x1] ah (some (.inl q.1)) q.2 :=
  jM_of (by decide) (Nat.le_of_ble_eq_true rfl) (k_X6_ask d ah q h (fun pc ls hd => J_reti hd rfl (jPV_int _) rfl (Nat.le_refl _) rfl rfl))
def f_X6_lots_b70_j130 (k0 : Option Nat) (k1 : Int32) (k5 : Int32) (k6 : Int32) (x3 : Int64) (x7 : Int32) (y0 : Int32) (y1 : Int32) (y2 : Option Nat) (ah : AH) : Option ((Unit × AH) ⊕ (((Int64) × AH) ⊕ ((Int64 × Int32) × AH))) :=
  (sA ah y2 y1 y0).bind fun a17 => some (.inr (.inr ((x3, x7 + 1), a17)))
set_option maxRecDepth 100000 in
set_option maxHeartbeats 4000000 in
theorem k_X6_lots_b70_j130 {l : Launch} {g : GX} (d : Nat) {Q : jQ} {k0 : Option Nat} {k1 : Int32} {k5 : Int32} {k6 : Int32} {x3 : Int64} {x7 : Int32} {y0 : Int32} {y1 : Int32} {y2 : Option Nat} (ah : AH) (out : (Unit × AH) ⊕ (((Int64) × AH) ⊕ ((Int64 × Int32) × AH))) (h : f_X6_lots_b70_j130 k0 k1 k5 k6 x3 x7 y0 y1 y2 ah = some out) (hR : ∀ q, out = .inl q → jRetN q.1 q.2) (hX : ∀ q, out = .inr (.inl q) → J l g md_X6_lots (jRm (d + 3) md_X6_lots) Q 137 [(0, .inr (.inr (.inl k0))), (1, .inl k1), (3, .inr (.inl q.1)), (5, .inl k5), (6, .inl k6)] [] q.2 (0, 0)) (hN : ∀ q, out = .inr (.inr q) → J l g md_X6_lots (jRm (d + 3) md_X6_lots) Q 70 [(0, .inr (.inr (.inl k0))), (1, .inl k1), (3, .inr (.inl q.1.1)), (5, .inl k5), (6, .inl k6), (7, .inl q.1.2)] [] q.2 (0, 0)) : J l g md_X6_lots (jRm (d + 3) md_X6_lots) Q 130 [(0, .inr (.inr (.inl k0))), (1, .inl k1), (3, .inr (.inl x3)), (5, .inl k5), (6, .inl k6), (7, .inl x7)] [.inl y0, .inl y1, .inr (.inr (.inl y2))] ah (0, 0) := by
  unfold f_X6_lots_b70_j130 at h
  obtain ⟨a17, h18, h⟩ := Option.bind_eq_some_iff.mp h
  refine J_iast (jat ok_X6_lots 72 (pc := 130) (i := .iastore) (n := 1) rfl rfl) h18 ?_
  refine J_seg ok_X6_lots 73 2 (pc' := 70) (ls' := [(7, .inl (x7 + 1)), (0, .inr (.inr (.inl k0))), (1, .inl k1), (3, .inr (.inl x3)), (5, .inl k5), (6, .inl k6)]) (st' := []) rfl ?_
  exact J_sub (ls' := [(0, .inr (.inr (.inl k0))), (1, .inl k1), (3, .inr (.inl x3)), (5, .inl k5), (6, .inl k6), (7, .inl (x7 + 1))]) [1, 2, 3, 4, 5, 0] rfl (hN ((x3, x7 + 1), a17) (Option.some.inj h).symm)
def f_X6_lots_b70_j128 (k0 : Option Nat) (k1 : Int32) (k5 : Int32) (k6 : Int32) (x3 : Int64) (x7 : Int32) (x8 : Int32) (y0 : Int32) (y1 : Option Nat) (ah : AH) : Option ((Unit × AH) ⊕ (((Int64) × AH) ⊕ ((Int64 × Int32) × AH))) :=
  f_X6_lots_b70_j130 k0 k1 k5 k6 x3 x7 x8 y0 y1 ah
set_option maxRecDepth 100000 in
set_option maxHeartbeats 4000000 in
theorem k_X6_lots_b70_j128 {l : Launch} {g : GX} (d : Nat) {Q : jQ} {k0 : Option Nat} {k1 : Int32} {k5 : Int32} {k6 : Int32} {x3 : Int64} {x7 : Int32} {x8 : Int32} {y0 : Int32} {y1 : Option Nat} (ah : AH) (out : (Unit × AH) ⊕ (((Int64) × AH) ⊕ ((Int64 × Int32) × AH))) (h : f_X6_lots_b70_j128 k0 k1 k5 k6 x3 x7 x8 y0 y1 ah = some out) (hR : ∀ q, out = .inl q → jRetN q.1 q.2) (hX : ∀ q, out = .inr (.inl q) → J l g md_X6_lots (jRm (d + 3) md_X6_lots) Q 137 [(0, .inr (.inr (.inl k0))), (1, .inl k1), (3, .inr (.inl q.1)), (5, .inl k5), (6, .inl k6)] [] q.2 (0, 0)) (hN : ∀ q, out = .inr (.inr q) → J l g md_X6_lots (jRm (d + 3) md_X6_lots) Q 70 [(0, .inr (.inr (.inl k0))), (1, .inl k1), (3, .inr (.inl q.1.1)), (5, .inl k5), (6, .inl k6), (7, .inl q.1.2)] [] q.2 (0, 0)) : J l g md_X6_lots (jRm (d + 3) md_X6_lots) Q 128 [(0, .inr (.inr (.inl k0))), (1, .inl k1), (3, .inr (.inl x3)), (5, .inl k5), (6, .inl k6), (7, .inl x7), (8, .inl x8)] [.inl y0, .inr (.inr (.inl y1))] ah (0, 0) := by
  unfold f_X6_lots_b70_j128 at h
  refine J_seg ok_X6_lots 71 1 (pc' := 130) (ls' := [(0, .inr (.inr (.inl k0))), (1, .inl k1), (3, .inr (.inl x3)), (5, .inl k5), (6, .inl k6), (7, .inl x7), (8, .inl x8)]) (st' := [.inl x8, .inl y0, .inr (.inr (.inl y1))]) rfl ?_
  refine J_sub (ls' := [(0, .inr (.inr (.inl k0))), (1, .inl k1), (3, .inr (.inl x3)), (5, .inl k5), (6, .inl k6), (7, .inl x7)]) [0, 1, 2, 3, 4, 5] rfl ?_
  exact k_X6_lots_b70_j130 d _ _ h hR hX hN
def f_X6_lots_b70 (k0 : Option Nat) (k1 : Int32) (k5 : Int32) (k6 : Int32) (s70 : Int64 × Int32) (ah : AH) : Option ((Unit × AH) ⊕ (((Int64) × AH) ⊕ ((Int64 × Int32) × AH))) :=
  (gI ah k0 6 1).bind fun v11 => if v11 ≤ s70.2 then (some (.inr (.inl (s70.1, ah)))) else ((some (Int64.toInt32 ((((s70.1 * 48271) - (s70.1 * 48271) / 2147483647 * 2147483647) / 4) - (((s70.1 * 48271) - (s70.1 * 48271) / 2147483647 * 2147483647) / 4) / 3 * 3))).bind fun v13 => (gR ah k0 6 23).bind fun v15 => if v13 = 2 then (if qO ah k0 6 = true then ((f_X6_victim k0 s70.2 ah).bind fun q19 => if q19.1 = (-9) then (f_X6_lots_b70_j130 k0 k1 k5 k6 ((s70.1 * 48271) - (s70.1 * 48271) / 2147483647 * 2147483647) s70.2 1 s70.2 v15 q19.2) else (f_X6_lots_b70_j128 k0 k1 k5 k6 ((s70.1 * 48271) - (s70.1 * 48271) / 2147483647 * 2147483647) s70.2 v13 s70.2 v15 q19.2)) else none) else (f_X6_lots_b70_j128 k0 k1 k5 k6 ((s70.1 * 48271) - (s70.1 * 48271) / 2147483647 * 2147483647) s70.2 v13 s70.2 v15 ah))
set_option maxRecDepth 100000 in
set_option maxHeartbeats 4000000 in
theorem k_X6_lots_b70 {l : Launch} {g : GX} (d : Nat) {Q : jQ} {k0 : Option Nat} {k1 : Int32} {k5 : Int32} {k6 : Int32} (s70 : Int64 × Int32) (ah : AH) (out : (Unit × AH) ⊕ (((Int64) × AH) ⊕ ((Int64 × Int32) × AH))) (h : f_X6_lots_b70 k0 k1 k5 k6 s70 ah = some out) (hR : ∀ q, out = .inl q → jRetN q.1 q.2) (hX : ∀ q, out = .inr (.inl q) → J l g md_X6_lots (jRm (d + 3) md_X6_lots) Q 137 [(0, .inr (.inr (.inl k0))), (1, .inl k1), (3, .inr (.inl q.1)), (5, .inl k5), (6, .inl k6)] [] q.2 (0, 0)) (hN : ∀ q, out = .inr (.inr q) → J l g md_X6_lots (jRm (d + 3) md_X6_lots) Q 70 [(0, .inr (.inr (.inl k0))), (1, .inl k1), (3, .inr (.inl q.1.1)), (5, .inl k5), (6, .inl k6), (7, .inl q.1.2)] [] q.2 (0, 0)) : J l g md_X6_lots (jRm (d + 3) md_X6_lots) Q 70 [(0, .inr (.inr (.inl k0))), (1, .inl k1), (3, .inr (.inl s70.1)), (5, .inl k5), (6, .inl k6), (7, .inl s70.2)] [] ah (0, 0) := by
  unfold f_X6_lots_b70 at h
  refine J_seg ok_X6_lots 41 2 (pc' := 73) (ls' := [(0, .inr (.inr (.inl k0))), (1, .inl k1), (3, .inr (.inl s70.1)), (5, .inl k5), (6, .inl k6), (7, .inl s70.2)]) (st' := [.inr (.inr (.inl k0)), .inl s70.2]) rfl ?_
  obtain ⟨v11, h12, h⟩ := Option.bind_eq_some_iff.mp h
  refine J_getI (jat ok_X6_lots 43 (pc := 73) (i := .getfield 148) (n := 3) rfl rfl) fl_RX6_148 h12 ?_
  refine J_ge (jat ok_X6_lots 44 (pc := 76) (i := .if_icmp .ge 61) (n := 3) rfl rfl) (tgt := 137) (by decide) (fun c => ?_) (fun c => ?_)
  · have h := (if_pos c).symm.trans h
    exact J_sub (ls' := [(0, .inr (.inr (.inl k0))), (1, .inl k1), (3, .inr (.inl s70.1)), (5, .inl k5), (6, .inl k6)]) [0, 1, 2, 3, 4] rfl (hX (s70.1, ah) (Option.some.inj h).symm)
  · have h := (if_neg c).symm.trans h
    refine J_seg ok_X6_lots 45 1 (pc' := 80) (ls' := [(0, .inr (.inr (.inl k0))), (1, .inl k1), (3, .inr (.inl s70.1)), (5, .inl k5), (6, .inl k6), (7, .inl s70.2)]) (st' := [.inr (.inl s70.1)]) rfl ?_
    refine J_ldc2 (jat ok_X6_lots 46 (pc := 80) (i := .ldc2_w 280) (n := 3) rfl rfl) lc_RX6_280 ?_
    refine J_seg ok_X6_lots 47 1 (pc' := 84) (ls' := [(0, .inr (.inr (.inl k0))), (1, .inl k1), (3, .inr (.inl s70.1)), (5, .inl k5), (6, .inl k6), (7, .inl s70.2)]) (st' := [.inr (.inl (s70.1 * 48271))]) rfl ?_
    refine J_ldc2 (jat ok_X6_lots 48 (pc := 84) (i := .ldc2_w 282) (n := 3) rfl rfl) lc_RX6_282 ?_
    refine J_lrem (jat ok_X6_lots 49 (pc := 87) (i := .lrem) (n := 1) rfl rfl) (by decide) ?_
    refine J_seg ok_X6_lots 50 2 (pc' := 90) (ls' := [(3, .inr (.inl ((s70.1 * 48271) - (s70.1 * 48271) / 2147483647 * 2147483647))), (0, .inr (.inr (.inl k0))), (1, .inl k1), (5, .inl k5), (6, .inl k6), (7, .inl s70.2)]) (st' := [.inr (.inl ((s70.1 * 48271) - (s70.1 * 48271) / 2147483647 * 2147483647))]) rfl ?_
    refine J_ldc2 (jat ok_X6_lots 52 (pc := 90) (i := .ldc2_w 284) (n := 3) rfl rfl) lc_RX6_284 ?_
    refine J_ldiv (jat ok_X6_lots 53 (pc := 93) (i := .ldiv) (n := 1) rfl rfl) (by decide) ?_
    refine J_ldc2 (jat ok_X6_lots 54 (pc := 94) (i := .ldc2_w 75) (n := 3) rfl rfl) lc_RX6_75 ?_
    refine J_lrem (jat ok_X6_lots 55 (pc := 97) (i := .lrem) (n := 1) rfl rfl) (by decide) ?_
    refine J_seg ok_X6_lots 56 2 (pc' := 101) (ls' := [(8, .inl (Int64.toInt32 ((((s70.1 * 48271) - (s70.1 * 48271) / 2147483647 * 2147483647) / 4) - (((s70.1 * 48271) - (s70.1 * 48271) / 2147483647 * 2147483647) / 4) / 3 * 3))), (3, .inr (.inl ((s70.1 * 48271) - (s70.1 * 48271) / 2147483647 * 2147483647))), (0, .inr (.inr (.inl k0))), (1, .inl k1), (5, .inl k5), (6, .inl k6), (7, .inl s70.2)]) (st' := []) rfl ?_
    obtain ⟨v13, h14, h⟩ := Option.bind_eq_some_iff.mp h
    rw [Option.some.inj h14]
    refine J_seg ok_X6_lots 58 1 (pc' := 102) (ls' := [(8, .inl v13), (3, .inr (.inl ((s70.1 * 48271) - (s70.1 * 48271) / 2147483647 * 2147483647))), (0, .inr (.inr (.inl k0))), (1, .inl k1), (5, .inl k5), (6, .inl k6), (7, .inl s70.2)]) (st' := [.inr (.inr (.inl k0))]) rfl ?_
    obtain ⟨v15, h16, h⟩ := Option.bind_eq_some_iff.mp h
    refine J_getR (jat ok_X6_lots 59 (pc := 102) (i := .getfield 50) (n := 3) rfl rfl) fl_RX6_50 h16 ?_
    refine J_seg ok_X6_lots 60 3 (pc' := 110) (ls' := [(8, .inl v13), (3, .inr (.inl ((s70.1 * 48271) - (s70.1 * 48271) / 2147483647 * 2147483647))), (0, .inr (.inr (.inl k0))), (1, .inl k1), (5, .inl k5), (6, .inl k6), (7, .inl s70.2)]) (st' := [.inl 2, .inl v13, .inl s70.2, .inr (.inr (.inl v15))]) rfl ?_
    refine J_ne (jat ok_X6_lots 63 (pc := 110) (i := .if_icmp .ne 18) (n := 3) rfl rfl) (tgt := 128) (by decide) (fun c => ?_) (fun c => ?_)
    · have h := (if_neg c).symm.trans h
      refine J_sub (ls' := [(0, .inr (.inr (.inl k0))), (1, .inl k1), (3, .inr (.inl ((s70.1 * 48271) - (s70.1 * 48271) / 2147483647 * 2147483647))), (5, .inl k5), (6, .inl k6), (7, .inl s70.2), (8, .inl v13)]) [2, 3, 1, 4, 5, 6, 0] rfl ?_
      exact k_X6_lots_b70_j128 d _ _ h hR hX hN
    · have h := (if_pos c).symm.trans h
      refine J_seg ok_X6_lots 64 2 (pc' := 116) (ls' := [(8, .inl v13), (3, .inr (.inl ((s70.1 * 48271) - (s70.1 * 48271) / 2147483647 * 2147483647))), (0, .inr (.inr (.inl k0))), (1, .inl k1), (5, .inl k5), (6, .inl k6), (7, .inl s70.2)]) (st' := [.inl s70.2, .inr (.inr (.inl k0)), .inl s70.2, .inr (.inr (.inl v15))]) rfl ?_
      by_cases c21 : qO ah k0 6 = true
      case neg => exact absurd ((if_neg c21).symm.trans h) (by simp)
      have h := (if_pos c21).symm.trans h
      obtain ⟨q19, h20, h⟩ := Option.bind_eq_some_iff.mp h
      refine J_callV (md' := md_X6_victim) (As := [.inl s70.2]) (st := [.inl s70.2, .inr (.inr (.inl v15))]) (cs' := (0, 0)) (st' := [.inl q19.1, .inl s70.2, .inr (.inr (.inl v15))]) (jat ok_X6_lots 66 (pc := 116) (i := .invokevirtual 157) (n := 3) rfl rfl) ml_RX6_157 yv_X6_victim c21 (c_X6_victim l g (d + 2) h20) (jRo_of (by decide)) (Nat.le_of_ble_eq_true rfl) ⟨Nat.le_of_ble_eq_true rfl, Nat.le_of_ble_eq_true rfl⟩ rfl rfl rfl ?_
      refine J_seg ok_X6_lots 67 1 (pc' := 121) (ls' := [(8, .inl v13), (3, .inr (.inl ((s70.1 * 48271) - (s70.1 * 48271) / 2147483647 * 2147483647))), (0, .inr (.inr (.inl k0))), (1, .inl k1), (5, .inl k5), (6, .inl k6), (7, .inl s70.2)]) (st' := [.inl (-9), .inl q19.1, .inl s70.2, .inr (.inr (.inl v15))]) rfl ?_
      refine J_ne (jat ok_X6_lots 68 (pc := 121) (i := .if_icmp .ne 7) (n := 3) rfl rfl) (tgt := 128) (by decide) (fun c => ?_) (fun c => ?_)
      · have h := (if_neg c).symm.trans h
        refine J_sub (ls' := [(0, .inr (.inr (.inl k0))), (1, .inl k1), (3, .inr (.inl ((s70.1 * 48271) - (s70.1 * 48271) / 2147483647 * 2147483647))), (5, .inl k5), (6, .inl k6), (7, .inl s70.2), (8, .inl v13)]) [2, 3, 1, 4, 5, 6, 0] rfl ?_
        exact k_X6_lots_b70_j128 d _ _ h hR hX hN
      · have h := (if_pos c).symm.trans h
        refine J_seg ok_X6_lots 69 2 (pc' := 130) (ls' := [(8, .inl v13), (3, .inr (.inl ((s70.1 * 48271) - (s70.1 * 48271) / 2147483647 * 2147483647))), (0, .inr (.inr (.inl k0))), (1, .inl k1), (5, .inl k5), (6, .inl k6), (7, .inl s70.2)]) (st' := [.inl 1, .inl s70.2, .inr (.inr (.inl v15))]) rfl ?_
        refine J_sub (ls' := [(0, .inr (.inr (.inl k0))), (1, .inl k1), (3, .inr (.inl ((s70.1 * 48271) - (s70.1 * 48271) / 2147483647 * 2147483647))), (5, .inl k5), (6, .inl k6), (7, .inl s70.2)]) [2, 3, 1, 4, 5, 6] rfl ?_
        exact k_X6_lots_b70_j130 d _ _ h hR hX hN
def f_X6_lots_b61 (k0 : Option Nat) (k1 : Int32) (s61 : Int64 × Int32 × Int32) (ah : AH) : Option ((Unit × AH) ⊕ (((Int32) × AH) ⊕ ((Int64 × Int32 × Int32) × AH))) :=
  if k1 ≤ s61.2.2 then (some (.inr (.inl (s61.2.1, ah)))) else ((jloop (f_X6_lots_b70 k0 k1 s61.2.1 s61.2.2) jfuel (s61.1, 0) ah).bind fun q22 => match q22 with | .inl r => none | .inr z24 => if qO z24.2 k0 6 = true then ((f_X6_pass k0 z24.2).bind fun q26 => some (.inr (.inr ((z24.1, s61.2.1 + q26.1, s61.2.2 + 1), q26.2)))) else none)
set_option maxRecDepth 100000 in
set_option maxHeartbeats 4000000 in
theorem k_X6_lots_b61 {l : Launch} {g : GX} (d : Nat) {Q : jQ} {k0 : Option Nat} {k1 : Int32} (s61 : Int64 × Int32 × Int32) (ah : AH) (out : (Unit × AH) ⊕ (((Int32) × AH) ⊕ ((Int64 × Int32 × Int32) × AH))) (h : f_X6_lots_b61 k0 k1 s61 ah = some out) (hR : ∀ q, out = .inl q → jRetN q.1 q.2) (hX : ∀ q, out = .inr (.inl q) → J l g md_X6_lots (jRm (d + 3) md_X6_lots) Q 152 [(5, .inl q.1)] [] q.2 (0, 0)) (hN : ∀ q, out = .inr (.inr q) → J l g md_X6_lots (jRm (d + 3) md_X6_lots) Q 61 [(0, .inr (.inr (.inl k0))), (1, .inl k1), (3, .inr (.inl q.1.1)), (5, .inl q.1.2.1), (6, .inl q.1.2.2)] [] q.2 (0, 0)) : J l g md_X6_lots (jRm (d + 3) md_X6_lots) Q 61 [(0, .inr (.inr (.inl k0))), (1, .inl k1), (3, .inr (.inl s61.1)), (5, .inl s61.2.1), (6, .inl s61.2.2)] [] ah (0, 0) := by
  unfold f_X6_lots_b61 at h
  refine J_seg ok_X6_lots 36 2 (pc' := 64) (ls' := [(0, .inr (.inr (.inl k0))), (1, .inl k1), (3, .inr (.inl s61.1)), (5, .inl s61.2.1), (6, .inl s61.2.2)]) (st' := [.inl k1, .inl s61.2.2]) rfl ?_
  refine J_ge (jat ok_X6_lots 38 (pc := 64) (i := .if_icmp .ge 88) (n := 3) rfl rfl) (tgt := 152) (by decide) (fun c => ?_) (fun c => ?_)
  · have h := (if_pos c).symm.trans h
    exact J_sub (ls' := [(5, .inl s61.2.1)]) [3] rfl (hX (s61.2.1, ah) (Option.some.inj h).symm)
  · have h := (if_neg c).symm.trans h
    refine J_seg ok_X6_lots 39 2 (pc' := 70) (ls' := [(7, .inl 0), (0, .inr (.inr (.inl k0))), (1, .inl k1), (3, .inr (.inl s61.1)), (5, .inl s61.2.1), (6, .inl s61.2.2)]) (st' := []) rfl ?_
    obtain ⟨q22, h23, h⟩ := Option.bind_eq_some_iff.mp h
    refine J_sub (ls' := [(0, .inr (.inr (.inl k0))), (1, .inl k1), (3, .inr (.inl s61.1)), (5, .inl s61.2.1), (6, .inl s61.2.2), (7, .inl 0)]) [1, 2, 3, 4, 5, 0] rfl ?_
    refine J_loop (pE := 137) (lh := fun t25 => [(0, .inr (.inr (.inl k0))), (1, .inl k1), (3, .inr (.inl t25.1)), (5, .inl s61.2.1), (6, .inl s61.2.2), (7, .inl t25.2)]) (lx := fun z24 => [(0, .inr (.inr (.inl k0))), (1, .inl k1), (3, .inr (.inl z24)), (5, .inl s61.2.1), (6, .inl s61.2.2)]) (P := jRetN) (fun s ah out hb hR hX hN => k_X6_lots_b70 d s ah out hb hR hX hN) jfuel (s61.1, 0) _ _ h23 (fun r e => ?_) (fun z24 e => ?_)
    · subst e
      dsimp only at h
      cases h
    · subst e
      dsimp only at h
      refine J_seg ok_X6_lots 75 2 (pc' := 140) (ls' := [(0, .inr (.inr (.inl k0))), (1, .inl k1), (3, .inr (.inl z24.1)), (5, .inl s61.2.1), (6, .inl s61.2.2)]) (st' := [.inr (.inr (.inl k0)), .inl s61.2.1]) rfl ?_
      by_cases c28 : qO z24.2 k0 6 = true
      case neg => exact absurd ((if_neg c28).symm.trans h) (by simp)
      have h := (if_pos c28).symm.trans h
      obtain ⟨q26, h27, h⟩ := Option.bind_eq_some_iff.mp h
      refine J_callV (md' := md_X6_pass) (As := []) (st := [.inl s61.2.1]) (cs' := (0, 0)) (st' := [.inl q26.1, .inl s61.2.1]) (jat ok_X6_lots 77 (pc := 140) (i := .invokevirtual 203) (n := 3) rfl rfl) ml_RX6_203 yv_X6_pass c28 (c_X6_pass l g (d + 0) h27) (jRo_of (by decide)) (Nat.le_of_ble_eq_true rfl) ⟨Nat.le_of_ble_eq_true rfl, Nat.le_of_ble_eq_true rfl⟩ rfl rfl rfl ?_
      refine J_seg ok_X6_lots 78 4 (pc' := 61) (ls' := [(6, .inl (s61.2.2 + 1)), (5, .inl (s61.2.1 + q26.1)), (0, .inr (.inr (.inl k0))), (1, .inl k1), (3, .inr (.inl z24.1))]) (st' := []) rfl ?_
      exact J_sub (ls' := [(0, .inr (.inr (.inl k0))), (1, .inl k1), (3, .inr (.inl z24.1)), (5, .inl (s61.2.1 + q26.1)), (6, .inl (s61.2.2 + 1))]) [2, 3, 4, 1, 0] rfl (hN ((z24.1, s61.2.1 + q26.1, s61.2.2 + 1), q26.2) (Option.some.inj h).symm)
def f_X6_lots (x0 : Option Nat) (x1 : Int32) (x2 : Int32) (ah : AH) : Option (Int32 × AH) :=
  (f_X6_in (Int32.toInt64 x1) 1 20 ah).bind fun q1 => if q1.1 = 0 then (some ((-1), q1.2)) else ((f_X6_in (Int32.toInt64 x2) 1 2147483646 q1.2).bind fun q3 => if q3.1 = 0 then (some ((-1), q3.2)) else ((gI q3.2 x0 6 1).bind fun v5 => if v5 = 0 then (some ((-4), q3.2)) else ((gR q3.2 x0 6 0).bind fun v7 => (gA q3.2 v7 0).bind fun v9 => if (v9 + x1) ≤ 40 then ((jloop (f_X6_lots_b61 x0 x1) jfuel (Int32.toInt64 x2, 0, 0) q3.2).bind fun q29 => match q29 with | .inl r => none | .inr z31 => some (z31.1, z31.2)) else (some ((-2), q3.2)))))
set_option maxRecDepth 100000 in
set_option maxHeartbeats 4000000 in
theorem k_X6_lots {l : Launch} {g : GX} (d : Nat) {Q : jQ} {x0 : Option Nat} {x1 : Int32} {x2 : Int32} (ah : AH) (out : Int32 × AH) (h : f_X6_lots x0 x1 x2 ah = some out) (hR : jRetI l g md_X6_lots (jRm (d + 3) md_X6_lots) Q (0, 0) out.1 out.2) : J l g md_X6_lots (jRm (d + 3) md_X6_lots) Q 0 [(0, .inr (.inr (.inl x0))), (1, .inl x1), (2, .inl x2)] [] ah (0, 0) := by
  unfold f_X6_lots at h
  refine J_seg ok_X6_lots 0 3 (pc' := 3) (ls' := [(0, .inr (.inr (.inl x0))), (1, .inl x1), (2, .inl x2)]) (st' := [.inr (.inl 1), .inr (.inl (Int32.toInt64 x1))]) rfl ?_
  refine J_ldc2 (jat ok_X6_lots 3 (pc := 3) (i := .ldc2_w 276) (n := 3) rfl rfl) lc_RX6_276 ?_
  obtain ⟨q1, h2, h⟩ := Option.bind_eq_some_iff.mp h
  refine J_callS (md' := md_X6_in) (As := [.inr (.inl (Int32.toInt64 x1)), .inr (.inl 1), .inr (.inl 20)]) (st := []) (cs' := (0, 0)) (st' := [.inl q1.1]) (jat ok_X6_lots 4 (pc := 6) (i := .invokestatic 71) (n := 3) rfl rfl) (Or.inl ml_RX6_71) ys_X6_in (c_X6_in l g (d + 2) h2) (jRo_of (by decide)) (Nat.le_of_ble_eq_true rfl) ⟨Nat.le_of_ble_eq_true rfl, Nat.le_of_ble_eq_true rfl⟩ rfl rfl rfl ?_
  refine J_eq0 (jat ok_X6_lots 5 (pc := 9) (i := .ifCond .eq 15) (n := 3) rfl rfl) (tgt := 24) (by decide) (fun c => ?_) (fun c => ?_)
  · have h := (if_pos c).symm.trans h
    refine J_seg ok_X6_lots 12 1 (pc' := 25) (ls' := [(0, .inr (.inr (.inl x0))), (1, .inl x1), (2, .inl x2)]) (st' := [.inl (-1)]) rfl ?_
    have h := Option.some.inj h
    subst h
    exact hR _ _ (jat ok_X6_lots 13 (pc := 25) (i := .ireturn) (n := 1) rfl rfl)
  · have h := (if_neg c).symm.trans h
    refine J_seg ok_X6_lots 6 3 (pc' := 15) (ls' := [(0, .inr (.inr (.inl x0))), (1, .inl x1), (2, .inl x2)]) (st' := [.inr (.inl 1), .inr (.inl (Int32.toInt64 x2))]) rfl ?_
    refine J_ldc2 (jat ok_X6_lots 9 (pc := 15) (i := .ldc2_w 278) (n := 3) rfl rfl) lc_RX6_278 ?_
    obtain ⟨q3, h4, h⟩ := Option.bind_eq_some_iff.mp h
    refine J_callS (md' := md_X6_in) (As := [.inr (.inl (Int32.toInt64 x2)), .inr (.inl 1), .inr (.inl 2147483646)]) (st := []) (cs' := (0, 0)) (st' := [.inl q3.1]) (jat ok_X6_lots 10 (pc := 18) (i := .invokestatic 71) (n := 3) rfl rfl) (Or.inl ml_RX6_71) ys_X6_in (c_X6_in l g (d + 2) h4) (jRo_of (by decide)) (Nat.le_of_ble_eq_true rfl) ⟨Nat.le_of_ble_eq_true rfl, Nat.le_of_ble_eq_true rfl⟩ rfl rfl rfl ?_
    refine J_ne0 (jat ok_X6_lots 11 (pc := 21) (i := .ifCond .ne 5) (n := 3) rfl rfl) (tgt := 26) (by decide) (fun c => ?_) (fun c => ?_)
    · have h := (if_neg c).symm.trans h
      refine J_seg ok_X6_lots 14 1 (pc' := 27) (ls' := [(0, .inr (.inr (.inl x0))), (1, .inl x1), (2, .inl x2)]) (st' := [.inr (.inr (.inl x0))]) rfl ?_
      obtain ⟨v5, h6, h⟩ := Option.bind_eq_some_iff.mp h
      refine J_getI (jat ok_X6_lots 15 (pc := 27) (i := .getfield 148) (n := 3) rfl rfl) fl_RX6_148 h6 ?_
      refine J_ne0 (jat ok_X6_lots 16 (pc := 30) (i := .ifCond .ne 6) (n := 3) rfl rfl) (tgt := 36) (by decide) (fun c => ?_) (fun c => ?_)
      · have h := (if_neg c).symm.trans h
        refine J_seg ok_X6_lots 19 1 (pc' := 37) (ls' := [(0, .inr (.inr (.inl x0))), (1, .inl x1), (2, .inl x2)]) (st' := [.inr (.inr (.inl x0))]) rfl ?_
        obtain ⟨v7, h8, h⟩ := Option.bind_eq_some_iff.mp h
        refine J_getR (jat ok_X6_lots 20 (pc := 37) (i := .getfield 7) (n := 3) rfl rfl) fl_RX6_7 h8 ?_
        refine J_seg ok_X6_lots 21 1 (pc' := 41) (ls' := [(0, .inr (.inr (.inl x0))), (1, .inl x1), (2, .inl x2)]) (st' := [.inl 0, .inr (.inr (.inl v7))]) rfl ?_
        obtain ⟨v9, h10, h⟩ := Option.bind_eq_some_iff.mp h
        refine J_iald (jat ok_X6_lots 22 (pc := 41) (i := .iaload) (n := 1) rfl rfl) h10 ?_
        refine J_seg ok_X6_lots 23 3 (pc' := 46) (ls' := [(0, .inr (.inr (.inl x0))), (1, .inl x1), (2, .inl x2)]) (st' := [.inl 40, .inl (v9 + x1)]) rfl ?_
        refine J_le (jat ok_X6_lots 26 (pc := 46) (i := .if_icmp .le 6) (n := 3) rfl rfl) (tgt := 52) (by decide) (fun c => ?_) (fun c => ?_)
        · have h := (if_pos c).symm.trans h
          refine J_seg ok_X6_lots 29 7 (pc' := 61) (ls' := [(6, .inl 0), (5, .inl 0), (3, .inr (.inl (Int32.toInt64 x2))), (0, .inr (.inr (.inl x0))), (1, .inl x1), (2, .inl x2)]) (st' := []) rfl ?_
          obtain ⟨q29, h30, h⟩ := Option.bind_eq_some_iff.mp h
          refine J_sub (ls' := [(0, .inr (.inr (.inl x0))), (1, .inl x1), (3, .inr (.inl (Int32.toInt64 x2))), (5, .inl 0), (6, .inl 0)]) [3, 4, 2, 1, 0] rfl ?_
          refine J_loop (pE := 152) (lh := fun t32 => [(0, .inr (.inr (.inl x0))), (1, .inl x1), (3, .inr (.inl t32.1)), (5, .inl t32.2.1), (6, .inl t32.2.2)]) (lx := fun z31 => [(5, .inl z31)]) (P := jRetN) (fun s ah out hb hR hX hN => k_X6_lots_b61 d s ah out hb hR hX hN) jfuel (Int32.toInt64 x2, 0, 0) _ _ h30 (fun r e => ?_) (fun z31 e => ?_)
          · subst e
            dsimp only at h
            cases h
          · subst e
            dsimp only at h
            refine J_seg ok_X6_lots 82 1 (pc' := 154) (ls' := [(5, .inl z31.1)]) (st' := [.inl z31.1]) rfl ?_
            have h := Option.some.inj h
            subst h
            exact hR _ _ (jat ok_X6_lots 83 (pc := 154) (i := .ireturn) (n := 1) rfl rfl)
        · have h := (if_neg c).symm.trans h
          refine J_seg ok_X6_lots 27 1 (pc' := 51) (ls' := [(0, .inr (.inr (.inl x0))), (1, .inl x1), (2, .inl x2)]) (st' := [.inl (-2)]) rfl ?_
          have h := Option.some.inj h
          subst h
          exact hR _ _ (jat ok_X6_lots 28 (pc := 51) (i := .ireturn) (n := 1) rfl rfl)
      · have h := (if_pos c).symm.trans h
        refine J_seg ok_X6_lots 17 1 (pc' := 35) (ls' := [(0, .inr (.inr (.inl x0))), (1, .inl x1), (2, .inl x2)]) (st' := [.inl (-4)]) rfl ?_
        have h := Option.some.inj h
        subst h
        exact hR _ _ (jat ok_X6_lots 18 (pc := 35) (i := .ireturn) (n := 1) rfl rfl)
    · have h := (if_pos c).symm.trans h
      refine J_seg ok_X6_lots 12 1 (pc' := 25) (ls' := [(0, .inr (.inr (.inl x0))), (1, .inl x1), (2, .inl x2)]) (st' := [.inl (-1)]) rfl ?_
      have h := Option.some.inj h
      subst h
      exact hR _ _ (jat ok_X6_lots 13 (pc := 25) (i := .ireturn) (n := 1) rfl rfl)
theorem c_X6_lots (l : Launch) (g : GX) (d : Nat) {x0 : Option Nat} {x1 : Int32} {x2 : Int32} {ah : AH} {q : Int32 × AH} (h : f_X6_lots x0 x1 x2 ah = some q) : jM l g (d + 3) md_X6_lots [.inr (.inr (.inl x0)), .inl x1, .inl x2] ah (some (.inl q.1)) q.2 :=
  jM_of (by decide) (Nat.le_of_ble_eq_true rfl) (k_X6_lots d ah q h (fun pc ls hd => J_reti hd rfl (jPV_int _) rfl (Nat.le_refl _) rfl rfl))
def f_X6_asked (x0 : Option Nat) (ah : AH) : Option (Int32 × AH) :=
  (gI ah x0 6 11).bind fun v1 => some (v1, ah)
set_option maxRecDepth 100000 in
set_option maxHeartbeats 4000000 in
theorem k_X6_asked {l : Launch} {g : GX} (d : Nat) {Q : jQ} {x0 : Option Nat} (ah : AH) (out : Int32 × AH) (h : f_X6_asked x0 ah = some out) (hR : jRetI l g md_X6_asked (jRm (d + 0) md_X6_asked) Q (0, 0) out.1 out.2) : J l g md_X6_asked (jRm (d + 0) md_X6_asked) Q 0 [(0, .inr (.inr (.inl x0)))] [] ah (0, 0) := by
  unfold f_X6_asked at h
  refine J_seg ok_X6_asked 0 1 (pc' := 1) (ls' := [(0, .inr (.inr (.inl x0)))]) (st' := [.inr (.inr (.inl x0))]) rfl ?_
  obtain ⟨v1, h2, h⟩ := Option.bind_eq_some_iff.mp h
  refine J_getI (jat ok_X6_asked 1 (pc := 1) (i := .getfield 66) (n := 3) rfl rfl) fl_RX6_66 h2 ?_
  have h := Option.some.inj h
  subst h
  exact hR _ _ (jat ok_X6_asked 2 (pc := 4) (i := .ireturn) (n := 1) rfl rfl)
theorem c_X6_asked (l : Launch) (g : GX) (d : Nat) {x0 : Option Nat} {ah : AH} {q : Int32 × AH} (h : f_X6_asked x0 ah = some q) : jM l g (d + 0) md_X6_asked [.inr (.inr (.inl x0))] ah (some (.inl q.1)) q.2 :=
  jM_of (by decide) (Nat.le_of_ble_eq_true rfl) (k_X6_asked d ah q h (fun pc ls hd => J_reti hd rfl (jPV_int _) rfl (Nat.le_refl _) rfl rfl))
def f_X6_upper (x0 : Option Nat) (ah : AH) : Option (Int64 × AH) :=
  (gL ah x0 6 12).bind fun v1 => some (v1, ah)
set_option maxRecDepth 100000 in
set_option maxHeartbeats 4000000 in
theorem k_X6_upper {l : Launch} {g : GX} (d : Nat) {Q : jQ} {x0 : Option Nat} (ah : AH) (out : Int64 × AH) (h : f_X6_upper x0 ah = some out) (hR : jRetL l g md_X6_upper (jRm (d + 0) md_X6_upper) Q (0, 0) out.1 out.2) : J l g md_X6_upper (jRm (d + 0) md_X6_upper) Q 0 [(0, .inr (.inr (.inl x0)))] [] ah (0, 0) := by
  unfold f_X6_upper at h
  refine J_seg ok_X6_upper 0 1 (pc' := 1) (ls' := [(0, .inr (.inr (.inl x0)))]) (st' := [.inr (.inr (.inl x0))]) rfl ?_
  obtain ⟨v1, h2, h⟩ := Option.bind_eq_some_iff.mp h
  refine J_getL (jat ok_X6_upper 1 (pc := 1) (i := .getfield 250) (n := 3) rfl rfl) fl_RX6_250 h2 ?_
  have h := Option.some.inj h
  subst h
  exact hR _ _ (jat ok_X6_upper 2 (pc := 4) (i := .lreturn) (n := 1) rfl rfl)
theorem c_X6_upper (l : Launch) (g : GX) (d : Nat) {x0 : Option Nat} {ah : AH} {q : Int64 × AH} (h : f_X6_upper x0 ah = some q) : jM l g (d + 0) md_X6_upper [.inr (.inr (.inl x0))] ah (some (.inr (.inl q.1))) q.2 :=
  jM_of (by decide) (Nat.le_of_ble_eq_true rfl) (k_X6_upper d ah q h (fun pc ls hd => J_retl hd rfl rfl (Nat.le_refl _) rfl rfl))
def f_X6_lower (x0 : Option Nat) (ah : AH) : Option (Int64 × AH) :=
  (gL ah x0 6 13).bind fun v1 => some (v1, ah)
set_option maxRecDepth 100000 in
set_option maxHeartbeats 4000000 in
theorem k_X6_lower {l : Launch} {g : GX} (d : Nat) {Q : jQ} {x0 : Option Nat} (ah : AH) (out : Int64 × AH) (h : f_X6_lower x0 ah = some out) (hR : jRetL l g md_X6_lower (jRm (d + 0) md_X6_lower) Q (0, 0) out.1 out.2) : J l g md_X6_lower (jRm (d + 0) md_X6_lower) Q 0 [(0, .inr (.inr (.inl x0)))] [] ah (0, 0) := by
  unfold f_X6_lower at h
  refine J_seg ok_X6_lower 0 1 (pc' := 1) (ls' := [(0, .inr (.inr (.inl x0)))]) (st' := [.inr (.inr (.inl x0))]) rfl ?_
  obtain ⟨v1, h2, h⟩ := Option.bind_eq_some_iff.mp h
  refine J_getL (jat ok_X6_lower 1 (pc := 1) (i := .getfield 37) (n := 3) rfl rfl) fl_RX6_37 h2 ?_
  have h := Option.some.inj h
  subst h
  exact hR _ _ (jat ok_X6_lower 2 (pc := 4) (i := .lreturn) (n := 1) rfl rfl)
theorem c_X6_lower (l : Launch) (g : GX) (d : Nat) {x0 : Option Nat} {ah : AH} {q : Int64 × AH} (h : f_X6_lower x0 ah = some q) : jM l g (d + 0) md_X6_lower [.inr (.inr (.inl x0))] ah (some (.inr (.inl q.1))) q.2 :=
  jM_of (by decide) (Nat.le_of_ble_eq_true rfl) (k_X6_lower d ah q h (fun pc ls hd => J_retl hd rfl rfl (Nat.le_refl _) rfl rfl))
def f_X6_sumFrom_b4 (k0 : Option Nat) (k1 : Int32) (s4 : Int32 × Int32) (ah : AH) : Option ((Unit × AH) ⊕ (((Int32) × AH) ⊕ ((Int32 × Int32) × AH))) :=
  (gI ah k0 6 1).bind fun v1 => if v1 ≤ s4.2 then (some (.inr (.inl (s4.1, ah)))) else ((gR ah k0 6 0).bind fun v3 => (gA ah v3 (k1 + s4.2)).bind fun v5 => some (.inr (.inr ((s4.1 + v5, s4.2 + 1), ah))))
set_option maxRecDepth 100000 in
set_option maxHeartbeats 4000000 in
theorem k_X6_sumFrom_b4 {l : Launch} {g : GX} (d : Nat) {Q : jQ} {k0 : Option Nat} {k1 : Int32} (s4 : Int32 × Int32) (ah : AH) (out : (Unit × AH) ⊕ (((Int32) × AH) ⊕ ((Int32 × Int32) × AH))) (h : f_X6_sumFrom_b4 k0 k1 s4 ah = some out) (hR : ∀ q, out = .inl q → jRetN q.1 q.2) (hX : ∀ q, out = .inr (.inl q) → J l g md_X6_sumFrom (jRm (d + 0) md_X6_sumFrom) Q 29 [(2, .inl q.1)] [] q.2 (0, 0)) (hN : ∀ q, out = .inr (.inr q) → J l g md_X6_sumFrom (jRm (d + 0) md_X6_sumFrom) Q 4 [(0, .inr (.inr (.inl k0))), (1, .inl k1), (2, .inl q.1.1), (3, .inl q.1.2)] [] q.2 (0, 0)) : J l g md_X6_sumFrom (jRm (d + 0) md_X6_sumFrom) Q 4 [(0, .inr (.inr (.inl k0))), (1, .inl k1), (2, .inl s4.1), (3, .inl s4.2)] [] ah (0, 0) := by
  unfold f_X6_sumFrom_b4 at h
  refine J_seg ok_X6_sumFrom 4 2 (pc' := 6) (ls' := [(0, .inr (.inr (.inl k0))), (1, .inl k1), (2, .inl s4.1), (3, .inl s4.2)]) (st' := [.inr (.inr (.inl k0)), .inl s4.2]) rfl ?_
  obtain ⟨v1, h2, h⟩ := Option.bind_eq_some_iff.mp h
  refine J_getI (jat ok_X6_sumFrom 6 (pc := 6) (i := .getfield 148) (n := 3) rfl rfl) fl_RX6_148 h2 ?_
  refine J_ge (jat ok_X6_sumFrom 7 (pc := 9) (i := .if_icmp .ge 20) (n := 3) rfl rfl) (tgt := 29) (by decide) (fun c => ?_) (fun c => ?_)
  · have h := (if_pos c).symm.trans h
    exact J_sub (ls' := [(2, .inl s4.1)]) [2] rfl (hX (s4.1, ah) (Option.some.inj h).symm)
  · have h := (if_neg c).symm.trans h
    refine J_seg ok_X6_sumFrom 8 2 (pc' := 14) (ls' := [(0, .inr (.inr (.inl k0))), (1, .inl k1), (2, .inl s4.1), (3, .inl s4.2)]) (st' := [.inr (.inr (.inl k0)), .inl s4.1]) rfl ?_
    obtain ⟨v3, h4, h⟩ := Option.bind_eq_some_iff.mp h
    refine J_getR (jat ok_X6_sumFrom 10 (pc := 14) (i := .getfield 7) (n := 3) rfl rfl) fl_RX6_7 h4 ?_
    refine J_seg ok_X6_sumFrom 11 3 (pc' := 20) (ls' := [(0, .inr (.inr (.inl k0))), (1, .inl k1), (2, .inl s4.1), (3, .inl s4.2)]) (st' := [.inl (k1 + s4.2), .inr (.inr (.inl v3)), .inl s4.1]) rfl ?_
    obtain ⟨v5, h6, h⟩ := Option.bind_eq_some_iff.mp h
    refine J_iald (jat ok_X6_sumFrom 14 (pc := 20) (i := .iaload) (n := 1) rfl rfl) h6 ?_
    refine J_seg ok_X6_sumFrom 15 4 (pc' := 4) (ls' := [(3, .inl (s4.2 + 1)), (2, .inl (s4.1 + v5)), (0, .inr (.inr (.inl k0))), (1, .inl k1)]) (st' := []) rfl ?_
    exact J_sub (ls' := [(0, .inr (.inr (.inl k0))), (1, .inl k1), (2, .inl (s4.1 + v5)), (3, .inl (s4.2 + 1))]) [2, 3, 1, 0] rfl (hN ((s4.1 + v5, s4.2 + 1), ah) (Option.some.inj h).symm)
def f_X6_sumFrom (x0 : Option Nat) (x1 : Int32) (ah : AH) : Option (Int32 × AH) :=
  (jloop (f_X6_sumFrom_b4 x0 x1) jfuel (0, 0) ah).bind fun q7 => match q7 with | .inl r => none | .inr z9 => some (z9.1, z9.2)
set_option maxRecDepth 100000 in
set_option maxHeartbeats 4000000 in
theorem k_X6_sumFrom {l : Launch} {g : GX} (d : Nat) {Q : jQ} {x0 : Option Nat} {x1 : Int32} (ah : AH) (out : Int32 × AH) (h : f_X6_sumFrom x0 x1 ah = some out) (hR : jRetI l g md_X6_sumFrom (jRm (d + 0) md_X6_sumFrom) Q (0, 0) out.1 out.2) : J l g md_X6_sumFrom (jRm (d + 0) md_X6_sumFrom) Q 0 [(0, .inr (.inr (.inl x0))), (1, .inl x1)] [] ah (0, 0) := by
  unfold f_X6_sumFrom at h
  refine J_seg ok_X6_sumFrom 0 4 (pc' := 4) (ls' := [(3, .inl 0), (2, .inl 0), (0, .inr (.inr (.inl x0))), (1, .inl x1)]) (st' := []) rfl ?_
  obtain ⟨q7, h8, h⟩ := Option.bind_eq_some_iff.mp h
  refine J_sub (ls' := [(0, .inr (.inr (.inl x0))), (1, .inl x1), (2, .inl 0), (3, .inl 0)]) [2, 3, 1, 0] rfl ?_
  refine J_loop (pE := 29) (lh := fun t10 => [(0, .inr (.inr (.inl x0))), (1, .inl x1), (2, .inl t10.1), (3, .inl t10.2)]) (lx := fun z9 => [(2, .inl z9)]) (P := jRetN) (fun s ah out hb hR hX hN => k_X6_sumFrom_b4 d s ah out hb hR hX hN) jfuel (0, 0) _ _ h8 (fun r e => ?_) (fun z9 e => ?_)
  · subst e
    dsimp only at h
    cases h
  · subst e
    dsimp only at h
    refine J_seg ok_X6_sumFrom 19 1 (pc' := 30) (ls' := [(2, .inl z9.1)]) (st' := [.inl z9.1]) rfl ?_
    have h := Option.some.inj h
    subst h
    exact hR _ _ (jat ok_X6_sumFrom 20 (pc := 30) (i := .ireturn) (n := 1) rfl rfl)
theorem c_X6_sumFrom (l : Launch) (g : GX) (d : Nat) {x0 : Option Nat} {x1 : Int32} {ah : AH} {q : Int32 × AH} (h : f_X6_sumFrom x0 x1 ah = some q) : jM l g (d + 0) md_X6_sumFrom [.inr (.inr (.inl x0)), .inl x1] ah (some (.inl q.1)) q.2 :=
  jM_of (by decide) (Nat.le_of_ble_eq_true rfl) (k_X6_sumFrom d ah q h (fun pc ls hd => J_reti hd rfl (jPV_int _) rfl (Nat.le_refl _) rfl rfl))
def f_X6_zealots_b4 (k0 : Option Nat) (s4 : Int32 × Int32) (ah : AH) : Option ((Unit × AH) ⊕ (((Int32) × AH) ⊕ ((Int32 × Int32) × AH))) :=
  (gI ah k0 6 1).bind fun v1 => if v1 ≤ s4.2 then (some (.inr (.inl (s4.1, ah)))) else (if qO ah k0 6 = true then ((f_X6_isOf k0 s4.2 1 ah).bind fun q3 => if q3.1 = 0 then (some (.inr (.inr ((s4.1 + 0, s4.2 + 1), q3.2)))) else (some (.inr (.inr ((s4.1 + 1, s4.2 + 1), q3.2))))) else none)
set_option maxRecDepth 100000 in
set_option maxHeartbeats 4000000 in
theorem k_X6_zealots_b4 {l : Launch} {g : GX} (d : Nat) {Q : jQ} {k0 : Option Nat} (s4 : Int32 × Int32) (ah : AH) (out : (Unit × AH) ⊕ (((Int32) × AH) ⊕ ((Int32 × Int32) × AH))) (h : f_X6_zealots_b4 k0 s4 ah = some out) (hR : ∀ q, out = .inl q → jRetN q.1 q.2) (hX : ∀ q, out = .inr (.inl q) → J l g md_X6_zealots (jRm (d + 1) md_X6_zealots) Q 35 [(1, .inl q.1)] [] q.2 (0, 0)) (hN : ∀ q, out = .inr (.inr q) → J l g md_X6_zealots (jRm (d + 1) md_X6_zealots) Q 4 [(0, .inr (.inr (.inl k0))), (1, .inl q.1.1), (2, .inl q.1.2)] [] q.2 (0, 0)) : J l g md_X6_zealots (jRm (d + 1) md_X6_zealots) Q 4 [(0, .inr (.inr (.inl k0))), (1, .inl s4.1), (2, .inl s4.2)] [] ah (0, 0) := by
  unfold f_X6_zealots_b4 at h
  refine J_seg ok_X6_zealots 4 2 (pc' := 6) (ls' := [(0, .inr (.inr (.inl k0))), (1, .inl s4.1), (2, .inl s4.2)]) (st' := [.inr (.inr (.inl k0)), .inl s4.2]) rfl ?_
  obtain ⟨v1, h2, h⟩ := Option.bind_eq_some_iff.mp h
  refine J_getI (jat ok_X6_zealots 6 (pc := 6) (i := .getfield 148) (n := 3) rfl rfl) fl_RX6_148 h2 ?_
  refine J_ge (jat ok_X6_zealots 7 (pc := 9) (i := .if_icmp .ge 26) (n := 3) rfl rfl) (tgt := 35) (by decide) (fun c => ?_) (fun c => ?_)
  · have h := (if_pos c).symm.trans h
    exact J_sub (ls' := [(1, .inl s4.1)]) [1] rfl (hX (s4.1, ah) (Option.some.inj h).symm)
  · have h := (if_neg c).symm.trans h
    refine J_seg ok_X6_zealots 8 4 (pc' := 16) (ls' := [(0, .inr (.inr (.inl k0))), (1, .inl s4.1), (2, .inl s4.2)]) (st' := [.inl 1, .inl s4.2, .inr (.inr (.inl k0)), .inl s4.1]) rfl ?_
    by_cases c5 : qO ah k0 6 = true
    case neg => exact absurd ((if_neg c5).symm.trans h) (by simp)
    have h := (if_pos c5).symm.trans h
    obtain ⟨q3, h4, h⟩ := Option.bind_eq_some_iff.mp h
    refine J_callV (md' := md_X6_isOf) (As := [.inl s4.2, .inl 1]) (st := [.inl s4.1]) (cs' := (0, 0)) (st' := [.inl q3.1, .inl s4.1]) (jat ok_X6_zealots 12 (pc := 16) (i := .invokevirtual 177) (n := 3) rfl rfl) ml_RX6_177 yv_X6_isOf c5 (c_X6_isOf l g (d + 0) h4) (jRo_of (by decide)) (Nat.le_of_ble_eq_true rfl) ⟨Nat.le_of_ble_eq_true rfl, Nat.le_of_ble_eq_true rfl⟩ rfl rfl rfl ?_
    refine J_eq0 (jat ok_X6_zealots 13 (pc := 19) (i := .ifCond .eq 7) (n := 3) rfl rfl) (tgt := 26) (by decide) (fun c => ?_) (fun c => ?_)
    · have h := (if_pos c).symm.trans h
      refine J_seg ok_X6_zealots 16 5 (pc' := 4) (ls' := [(2, .inl (s4.2 + 1)), (1, .inl (s4.1 + 0)), (0, .inr (.inr (.inl k0)))]) (st' := []) rfl ?_
      exact J_sub (ls' := [(0, .inr (.inr (.inl k0))), (1, .inl (s4.1 + 0)), (2, .inl (s4.2 + 1))]) [2, 1, 0] rfl (hN ((s4.1 + 0, s4.2 + 1), q3.2) (Option.some.inj h).symm)
    · have h := (if_neg c).symm.trans h
      refine J_seg ok_X6_zealots 14 2 (pc' := 27) (ls' := [(0, .inr (.inr (.inl k0))), (1, .inl s4.1), (2, .inl s4.2)]) (st' := [.inl 1, .inl s4.1]) rfl ?_
      refine J_seg ok_X6_zealots 17 4 (pc' := 4) (ls' := [(2, .inl (s4.2 + 1)), (1, .inl (s4.1 + 1)), (0, .inr (.inr (.inl k0)))]) (st' := []) rfl ?_
      exact J_sub (ls' := [(0, .inr (.inr (.inl k0))), (1, .inl (s4.1 + 1)), (2, .inl (s4.2 + 1))]) [2, 1, 0] rfl (hN ((s4.1 + 1, s4.2 + 1), q3.2) (Option.some.inj h).symm)
def f_X6_zealots (x0 : Option Nat) (ah : AH) : Option (Int32 × AH) :=
  (jloop (f_X6_zealots_b4 x0) jfuel (0, 0) ah).bind fun q6 => match q6 with | .inl r => none | .inr z8 => some (z8.1, z8.2)
set_option maxRecDepth 100000 in
set_option maxHeartbeats 4000000 in
theorem k_X6_zealots {l : Launch} {g : GX} (d : Nat) {Q : jQ} {x0 : Option Nat} (ah : AH) (out : Int32 × AH) (h : f_X6_zealots x0 ah = some out) (hR : jRetI l g md_X6_zealots (jRm (d + 1) md_X6_zealots) Q (0, 0) out.1 out.2) : J l g md_X6_zealots (jRm (d + 1) md_X6_zealots) Q 0 [(0, .inr (.inr (.inl x0)))] [] ah (0, 0) := by
  unfold f_X6_zealots at h
  refine J_seg ok_X6_zealots 0 4 (pc' := 4) (ls' := [(2, .inl 0), (1, .inl 0), (0, .inr (.inr (.inl x0)))]) (st' := []) rfl ?_
  obtain ⟨q6, h7, h⟩ := Option.bind_eq_some_iff.mp h
  refine J_sub (ls' := [(0, .inr (.inr (.inl x0))), (1, .inl 0), (2, .inl 0)]) [2, 1, 0] rfl ?_
  refine J_loop (pE := 35) (lh := fun t9 => [(0, .inr (.inr (.inl x0))), (1, .inl t9.1), (2, .inl t9.2)]) (lx := fun z8 => [(1, .inl z8)]) (P := jRetN) (fun s ah out hb hR hX hN => k_X6_zealots_b4 d s ah out hb hR hX hN) jfuel (0, 0) _ _ h7 (fun r e => ?_) (fun z8 e => ?_)
  · subst e
    dsimp only at h
    cases h
  · subst e
    dsimp only at h
    refine J_seg ok_X6_zealots 21 1 (pc' := 36) (ls' := [(1, .inl z8.1)]) (st' := [.inl z8.1]) rfl ?_
    have h := Option.some.inj h
    subst h
    exact hR _ _ (jat ok_X6_zealots 22 (pc := 36) (i := .ireturn) (n := 1) rfl rfl)
theorem c_X6_zealots (l : Launch) (g : GX) (d : Nat) {x0 : Option Nat} {ah : AH} {q : Int32 × AH} (h : f_X6_zealots x0 ah = some q) : jM l g (d + 1) md_X6_zealots [.inr (.inr (.inl x0))] ah (some (.inl q.1)) q.2 :=
  jM_of (by decide) (Nat.le_of_ble_eq_true rfl) (k_X6_zealots d ah q h (fun pc ls hd => J_reti hd rfl (jPV_int _) rfl (Nat.le_refl _) rfl rfl))
def f_X6_thereOf_b4_j88 (k0 : Option Nat) (k1 : Int32) (x3 : Int32) (y0 : Int32) (ah : AH) : Option ((Unit × AH) ⊕ (((Int32) × AH) ⊕ ((Int32 × Int32) × AH))) :=
  some (.inr (.inr ((y0 + 0, x3 + 1), ah)))
set_option maxRecDepth 100000 in
set_option maxHeartbeats 4000000 in
theorem k_X6_thereOf_b4_j88 {l : Launch} {g : GX} (d : Nat) {Q : jQ} {k0 : Option Nat} {k1 : Int32} {x3 : Int32} {y0 : Int32} (ah : AH) (out : (Unit × AH) ⊕ (((Int32) × AH) ⊕ ((Int32 × Int32) × AH))) (h : f_X6_thereOf_b4_j88 k0 k1 x3 y0 ah = some out) (hR : ∀ q, out = .inl q → jRetN q.1 q.2) (hX : ∀ q, out = .inr (.inl q) → J l g md_X6_thereOf (jRm (d + 0) md_X6_thereOf) Q 97 [(2, .inl q.1)] [] q.2 (0, 0)) (hN : ∀ q, out = .inr (.inr q) → J l g md_X6_thereOf (jRm (d + 0) md_X6_thereOf) Q 4 [(0, .inr (.inr (.inl k0))), (1, .inl k1), (2, .inl q.1.1), (3, .inl q.1.2)] [] q.2 (0, 0)) : J l g md_X6_thereOf (jRm (d + 0) md_X6_thereOf) Q 88 [(0, .inr (.inr (.inl k0))), (1, .inl k1), (3, .inl x3)] [.inl y0] ah (0, 0) := by
  unfold f_X6_thereOf_b4_j88 at h
  refine J_seg ok_X6_thereOf 51 5 (pc' := 4) (ls' := [(3, .inl (x3 + 1)), (2, .inl (y0 + 0)), (0, .inr (.inr (.inl k0))), (1, .inl k1)]) (st' := []) rfl ?_
  exact J_sub (ls' := [(0, .inr (.inr (.inl k0))), (1, .inl k1), (2, .inl (y0 + 0)), (3, .inl (x3 + 1))]) [2, 3, 1, 0] rfl (hN ((y0 + 0, x3 + 1), ah) (Option.some.inj h).symm)
def f_X6_thereOf_b4_j58 (k0 : Option Nat) (k1 : Int32) (x3 : Int32) (y0 : Int32) (ah : AH) : Option ((Unit × AH) ⊕ (((Int32) × AH) ⊕ ((Int32 × Int32) × AH))) :=
  some (.inr (.inr ((y0 + 0, x3 + 1), ah)))
set_option maxRecDepth 100000 in
set_option maxHeartbeats 4000000 in
theorem k_X6_thereOf_b4_j58 {l : Launch} {g : GX} (d : Nat) {Q : jQ} {k0 : Option Nat} {k1 : Int32} {x3 : Int32} {y0 : Int32} (ah : AH) (out : (Unit × AH) ⊕ (((Int32) × AH) ⊕ ((Int32 × Int32) × AH))) (h : f_X6_thereOf_b4_j58 k0 k1 x3 y0 ah = some out) (hR : ∀ q, out = .inl q → jRetN q.1 q.2) (hX : ∀ q, out = .inr (.inl q) → J l g md_X6_thereOf (jRm (d + 0) md_X6_thereOf) Q 97 [(2, .inl q.1)] [] q.2 (0, 0)) (hN : ∀ q, out = .inr (.inr q) → J l g md_X6_thereOf (jRm (d + 0) md_X6_thereOf) Q 4 [(0, .inr (.inr (.inl k0))), (1, .inl k1), (2, .inl q.1.1), (3, .inl q.1.2)] [] q.2 (0, 0)) : J l g md_X6_thereOf (jRm (d + 0) md_X6_thereOf) Q 58 [(0, .inr (.inr (.inl k0))), (1, .inl k1), (3, .inl x3)] [.inl y0] ah (0, 0) := by
  unfold f_X6_thereOf_b4_j58 at h
  refine J_seg ok_X6_thereOf 33 2 (pc' := 89) (ls' := [(0, .inr (.inr (.inl k0))), (1, .inl k1), (3, .inl x3)]) (st' := [.inl 0, .inl y0]) rfl ?_
  refine J_seg ok_X6_thereOf 52 4 (pc' := 4) (ls' := [(3, .inl (x3 + 1)), (2, .inl (y0 + 0)), (0, .inr (.inr (.inl k0))), (1, .inl k1)]) (st' := []) rfl ?_
  exact J_sub (ls' := [(0, .inr (.inr (.inl k0))), (1, .inl k1), (2, .inl (y0 + 0)), (3, .inl (x3 + 1))]) [2, 3, 1, 0] rfl (hN ((y0 + 0, x3 + 1), ah) (Option.some.inj h).symm)
def f_X6_thereOf_b4 (k0 : Option Nat) (k1 : Int32) (s4 : Int32 × Int32) (ah : AH) : Option ((Unit × AH) ⊕ (((Int32) × AH) ⊕ ((Int32 × Int32) × AH))) :=
  if 6 ≤ s4.2 then (some (.inr (.inl (s4.1, ah)))) else (if k1 = 7 then ((gR ah k0 6 7).bind fun v9 => (gA ah v9 s4.2).bind fun v11 => if 0 ≤ v11 then (some (.inr (.inr ((s4.1 + 1, s4.2 + 1), ah)))) else (some (.inr (.inr ((s4.1 + 0, s4.2 + 1), ah))))) else (if k1 = 8 then (if 4 ≤ s4.2 then (f_X6_thereOf_b4_j58 k0 k1 s4.2 s4.1 ah) else ((gR ah k0 6 9).bind fun v5 => (gA ah v5 s4.2).bind fun v7 => if v7 < 0 then (f_X6_thereOf_b4_j58 k0 k1 s4.2 s4.1 ah) else (some (.inr (.inr ((s4.1 + 1, s4.2 + 1), ah)))))) else (if 3 ≤ s4.2 then (f_X6_thereOf_b4_j88 k0 k1 s4.2 s4.1 ah) else ((gR ah k0 6 0).bind fun v1 => (gA ah v1 ((780 * (1 + s4.2)) + 0)).bind fun v3 => if v3 < 0 then (f_X6_thereOf_b4_j88 k0 k1 s4.2 s4.1 ah) else (some (.inr (.inr ((s4.1 + 1, s4.2 + 1), ah))))))))
set_option maxRecDepth 100000 in
set_option maxHeartbeats 4000000 in
theorem k_X6_thereOf_b4 {l : Launch} {g : GX} (d : Nat) {Q : jQ} {k0 : Option Nat} {k1 : Int32} (s4 : Int32 × Int32) (ah : AH) (out : (Unit × AH) ⊕ (((Int32) × AH) ⊕ ((Int32 × Int32) × AH))) (h : f_X6_thereOf_b4 k0 k1 s4 ah = some out) (hR : ∀ q, out = .inl q → jRetN q.1 q.2) (hX : ∀ q, out = .inr (.inl q) → J l g md_X6_thereOf (jRm (d + 0) md_X6_thereOf) Q 97 [(2, .inl q.1)] [] q.2 (0, 0)) (hN : ∀ q, out = .inr (.inr q) → J l g md_X6_thereOf (jRm (d + 0) md_X6_thereOf) Q 4 [(0, .inr (.inr (.inl k0))), (1, .inl k1), (2, .inl q.1.1), (3, .inl q.1.2)] [] q.2 (0, 0)) : J l g md_X6_thereOf (jRm (d + 0) md_X6_thereOf) Q 4 [(0, .inr (.inr (.inl k0))), (1, .inl k1), (2, .inl s4.1), (3, .inl s4.2)] [] ah (0, 0) := by
  unfold f_X6_thereOf_b4 at h
  refine J_seg ok_X6_thereOf 4 2 (pc' := 7) (ls' := [(0, .inr (.inr (.inl k0))), (1, .inl k1), (2, .inl s4.1), (3, .inl s4.2)]) (st' := [.inl 6, .inl s4.2]) rfl ?_
  refine J_ge (jat ok_X6_thereOf 6 (pc := 7) (i := .if_icmp .ge 90) (n := 3) rfl rfl) (tgt := 97) (by decide) (fun c => ?_) (fun c => ?_)
  · have h := (if_pos c).symm.trans h
    exact J_sub (ls' := [(2, .inl s4.1)]) [2] rfl (hX (s4.1, ah) (Option.some.inj h).symm)
  · have h := (if_neg c).symm.trans h
    refine J_seg ok_X6_thereOf 7 3 (pc' := 14) (ls' := [(0, .inr (.inr (.inl k0))), (1, .inl k1), (2, .inl s4.1), (3, .inl s4.2)]) (st' := [.inl 7, .inl k1, .inl s4.1]) rfl ?_
    refine J_ne (jat ok_X6_thereOf 10 (pc := 14) (i := .if_icmp .ne 20) (n := 3) rfl rfl) (tgt := 34) (by decide) (fun c => ?_) (fun c => ?_)
    · have h := (if_neg c).symm.trans h
      refine J_seg ok_X6_thereOf 20 2 (pc' := 37) (ls' := [(0, .inr (.inr (.inl k0))), (1, .inl k1), (2, .inl s4.1), (3, .inl s4.2)]) (st' := [.inl 8, .inl k1, .inl s4.1]) rfl ?_
      refine J_ne (jat ok_X6_thereOf 22 (pc := 37) (i := .if_icmp .ne 25) (n := 3) rfl rfl) (tgt := 62) (by decide) (fun c => ?_) (fun c => ?_)
      · have h := (if_neg c).symm.trans h
        refine J_seg ok_X6_thereOf 35 2 (pc' := 64) (ls' := [(0, .inr (.inr (.inl k0))), (1, .inl k1), (2, .inl s4.1), (3, .inl s4.2)]) (st' := [.inl 3, .inl s4.2, .inl s4.1]) rfl ?_
        refine J_ge (jat ok_X6_thereOf 37 (pc := 64) (i := .if_icmp .ge 24) (n := 3) rfl rfl) (tgt := 88) (by decide) (fun c => ?_) (fun c => ?_)
        · have h := (if_pos c).symm.trans h
          refine J_sub (ls' := [(0, .inr (.inr (.inl k0))), (1, .inl k1), (3, .inl s4.2)]) [0, 1, 3] rfl ?_
          exact k_X6_thereOf_b4_j88 d _ _ h hR hX hN
        · have h := (if_neg c).symm.trans h
          refine J_seg ok_X6_thereOf 38 1 (pc' := 68) (ls' := [(0, .inr (.inr (.inl k0))), (1, .inl k1), (2, .inl s4.1), (3, .inl s4.2)]) (st' := [.inr (.inr (.inl k0)), .inl s4.1]) rfl ?_
          obtain ⟨v1, h2, h⟩ := Option.bind_eq_some_iff.mp h
          refine J_getR (jat ok_X6_thereOf 39 (pc := 68) (i := .getfield 7) (n := 3) rfl rfl) fl_RX6_7 h2 ?_
          refine J_seg ok_X6_thereOf 40 7 (pc' := 80) (ls' := [(0, .inr (.inr (.inl k0))), (1, .inl k1), (2, .inl s4.1), (3, .inl s4.2)]) (st' := [.inl ((780 * (1 + s4.2)) + 0), .inr (.inr (.inl v1)), .inl s4.1]) rfl ?_
          obtain ⟨v3, h4, h⟩ := Option.bind_eq_some_iff.mp h
          refine J_iald (jat ok_X6_thereOf 47 (pc := 80) (i := .iaload) (n := 1) rfl rfl) h4 ?_
          refine J_lt0 (jat ok_X6_thereOf 48 (pc := 81) (i := .ifCond .lt 7) (n := 3) rfl rfl) (tgt := 88) (by decide) (fun c => ?_) (fun c => ?_)
          · have h := (if_pos c).symm.trans h
            refine J_sub (ls' := [(0, .inr (.inr (.inl k0))), (1, .inl k1), (3, .inl s4.2)]) [0, 1, 3] rfl ?_
            exact k_X6_thereOf_b4_j88 d _ _ h hR hX hN
          · have h := (if_neg c).symm.trans h
            refine J_seg ok_X6_thereOf 49 2 (pc' := 89) (ls' := [(0, .inr (.inr (.inl k0))), (1, .inl k1), (2, .inl s4.1), (3, .inl s4.2)]) (st' := [.inl 1, .inl s4.1]) rfl ?_
            refine J_seg ok_X6_thereOf 52 4 (pc' := 4) (ls' := [(3, .inl (s4.2 + 1)), (2, .inl (s4.1 + 1)), (0, .inr (.inr (.inl k0))), (1, .inl k1)]) (st' := []) rfl ?_
            exact J_sub (ls' := [(0, .inr (.inr (.inl k0))), (1, .inl k1), (2, .inl (s4.1 + 1)), (3, .inl (s4.2 + 1))]) [2, 3, 1, 0] rfl (hN ((s4.1 + 1, s4.2 + 1), ah) (Option.some.inj h).symm)
      · have h := (if_pos c).symm.trans h
        refine J_seg ok_X6_thereOf 23 2 (pc' := 42) (ls' := [(0, .inr (.inr (.inl k0))), (1, .inl k1), (2, .inl s4.1), (3, .inl s4.2)]) (st' := [.inl 4, .inl s4.2, .inl s4.1]) rfl ?_
        refine J_ge (jat ok_X6_thereOf 25 (pc := 42) (i := .if_icmp .ge 16) (n := 3) rfl rfl) (tgt := 58) (by decide) (fun c => ?_) (fun c => ?_)
        · have h := (if_pos c).symm.trans h
          refine J_sub (ls' := [(0, .inr (.inr (.inl k0))), (1, .inl k1), (3, .inl s4.2)]) [0, 1, 3] rfl ?_
          exact k_X6_thereOf_b4_j58 d _ _ h hR hX hN
        · have h := (if_neg c).symm.trans h
          refine J_seg ok_X6_thereOf 26 1 (pc' := 46) (ls' := [(0, .inr (.inr (.inl k0))), (1, .inl k1), (2, .inl s4.1), (3, .inl s4.2)]) (st' := [.inr (.inr (.inl k0)), .inl s4.1]) rfl ?_
          obtain ⟨v5, h6, h⟩ := Option.bind_eq_some_iff.mp h
          refine J_getR (jat ok_X6_thereOf 27 (pc := 46) (i := .getfield 31) (n := 3) rfl rfl) fl_RX6_31 h6 ?_
          refine J_seg ok_X6_thereOf 28 1 (pc' := 50) (ls' := [(0, .inr (.inr (.inl k0))), (1, .inl k1), (2, .inl s4.1), (3, .inl s4.2)]) (st' := [.inl s4.2, .inr (.inr (.inl v5)), .inl s4.1]) rfl ?_
          obtain ⟨v7, h8, h⟩ := Option.bind_eq_some_iff.mp h
          refine J_iald (jat ok_X6_thereOf 29 (pc := 50) (i := .iaload) (n := 1) rfl rfl) h8 ?_
          refine J_lt0 (jat ok_X6_thereOf 30 (pc := 51) (i := .ifCond .lt 7) (n := 3) rfl rfl) (tgt := 58) (by decide) (fun c => ?_) (fun c => ?_)
          · have h := (if_pos c).symm.trans h
            refine J_sub (ls' := [(0, .inr (.inr (.inl k0))), (1, .inl k1), (3, .inl s4.2)]) [0, 1, 3] rfl ?_
            exact k_X6_thereOf_b4_j58 d _ _ h hR hX hN
          · have h := (if_neg c).symm.trans h
            refine J_seg ok_X6_thereOf 31 2 (pc' := 89) (ls' := [(0, .inr (.inr (.inl k0))), (1, .inl k1), (2, .inl s4.1), (3, .inl s4.2)]) (st' := [.inl 1, .inl s4.1]) rfl ?_
            refine J_seg ok_X6_thereOf 52 4 (pc' := 4) (ls' := [(3, .inl (s4.2 + 1)), (2, .inl (s4.1 + 1)), (0, .inr (.inr (.inl k0))), (1, .inl k1)]) (st' := []) rfl ?_
            exact J_sub (ls' := [(0, .inr (.inr (.inl k0))), (1, .inl k1), (2, .inl (s4.1 + 1)), (3, .inl (s4.2 + 1))]) [2, 3, 1, 0] rfl (hN ((s4.1 + 1, s4.2 + 1), ah) (Option.some.inj h).symm)
    · have h := (if_pos c).symm.trans h
      refine J_seg ok_X6_thereOf 11 1 (pc' := 18) (ls' := [(0, .inr (.inr (.inl k0))), (1, .inl k1), (2, .inl s4.1), (3, .inl s4.2)]) (st' := [.inr (.inr (.inl k0)), .inl s4.1]) rfl ?_
      obtain ⟨v9, h10, h⟩ := Option.bind_eq_some_iff.mp h
      refine J_getR (jat ok_X6_thereOf 12 (pc := 18) (i := .getfield 25) (n := 3) rfl rfl) fl_RX6_25 h10 ?_
      refine J_seg ok_X6_thereOf 13 1 (pc' := 22) (ls' := [(0, .inr (.inr (.inl k0))), (1, .inl k1), (2, .inl s4.1), (3, .inl s4.2)]) (st' := [.inl s4.2, .inr (.inr (.inl v9)), .inl s4.1]) rfl ?_
      obtain ⟨v11, h12, h⟩ := Option.bind_eq_some_iff.mp h
      refine J_iald (jat ok_X6_thereOf 14 (pc := 22) (i := .iaload) (n := 1) rfl rfl) h12 ?_
      refine J_ge0 (jat ok_X6_thereOf 15 (pc := 23) (i := .ifCond .ge 7) (n := 3) rfl rfl) (tgt := 30) (by decide) (fun c => ?_) (fun c => ?_)
      · have h := (if_pos c).symm.trans h
        refine J_seg ok_X6_thereOf 18 2 (pc' := 89) (ls' := [(0, .inr (.inr (.inl k0))), (1, .inl k1), (2, .inl s4.1), (3, .inl s4.2)]) (st' := [.inl 1, .inl s4.1]) rfl ?_
        refine J_seg ok_X6_thereOf 52 4 (pc' := 4) (ls' := [(3, .inl (s4.2 + 1)), (2, .inl (s4.1 + 1)), (0, .inr (.inr (.inl k0))), (1, .inl k1)]) (st' := []) rfl ?_
        exact J_sub (ls' := [(0, .inr (.inr (.inl k0))), (1, .inl k1), (2, .inl (s4.1 + 1)), (3, .inl (s4.2 + 1))]) [2, 3, 1, 0] rfl (hN ((s4.1 + 1, s4.2 + 1), ah) (Option.some.inj h).symm)
      · have h := (if_neg c).symm.trans h
        refine J_seg ok_X6_thereOf 16 2 (pc' := 89) (ls' := [(0, .inr (.inr (.inl k0))), (1, .inl k1), (2, .inl s4.1), (3, .inl s4.2)]) (st' := [.inl 0, .inl s4.1]) rfl ?_
        refine J_seg ok_X6_thereOf 52 4 (pc' := 4) (ls' := [(3, .inl (s4.2 + 1)), (2, .inl (s4.1 + 0)), (0, .inr (.inr (.inl k0))), (1, .inl k1)]) (st' := []) rfl ?_
        exact J_sub (ls' := [(0, .inr (.inr (.inl k0))), (1, .inl k1), (2, .inl (s4.1 + 0)), (3, .inl (s4.2 + 1))]) [2, 3, 1, 0] rfl (hN ((s4.1 + 0, s4.2 + 1), ah) (Option.some.inj h).symm)
def f_X6_thereOf (x0 : Option Nat) (x1 : Int32) (ah : AH) : Option (Int32 × AH) :=
  (jloop (f_X6_thereOf_b4 x0 x1) jfuel (0, 0) ah).bind fun q13 => match q13 with | .inl r => none | .inr z15 => some (z15.1, z15.2)
set_option maxRecDepth 100000 in
set_option maxHeartbeats 4000000 in
theorem k_X6_thereOf {l : Launch} {g : GX} (d : Nat) {Q : jQ} {x0 : Option Nat} {x1 : Int32} (ah : AH) (out : Int32 × AH) (h : f_X6_thereOf x0 x1 ah = some out) (hR : jRetI l g md_X6_thereOf (jRm (d + 0) md_X6_thereOf) Q (0, 0) out.1 out.2) : J l g md_X6_thereOf (jRm (d + 0) md_X6_thereOf) Q 0 [(0, .inr (.inr (.inl x0))), (1, .inl x1)] [] ah (0, 0) := by
  unfold f_X6_thereOf at h
  refine J_seg ok_X6_thereOf 0 4 (pc' := 4) (ls' := [(3, .inl 0), (2, .inl 0), (0, .inr (.inr (.inl x0))), (1, .inl x1)]) (st' := []) rfl ?_
  obtain ⟨q13, h14, h⟩ := Option.bind_eq_some_iff.mp h
  refine J_sub (ls' := [(0, .inr (.inr (.inl x0))), (1, .inl x1), (2, .inl 0), (3, .inl 0)]) [2, 3, 1, 0] rfl ?_
  refine J_loop (pE := 97) (lh := fun t16 => [(0, .inr (.inr (.inl x0))), (1, .inl x1), (2, .inl t16.1), (3, .inl t16.2)]) (lx := fun z15 => [(2, .inl z15)]) (P := jRetN) (fun s ah out hb hR hX hN => k_X6_thereOf_b4 d s ah out hb hR hX hN) jfuel (0, 0) _ _ h14 (fun r e => ?_) (fun z15 e => ?_)
  · subst e
    dsimp only at h
    cases h
  · subst e
    dsimp only at h
    refine J_seg ok_X6_thereOf 56 1 (pc' := 98) (ls' := [(2, .inl z15.1)]) (st' := [.inl z15.1]) rfl ?_
    have h := Option.some.inj h
    subst h
    exact hR _ _ (jat ok_X6_thereOf 57 (pc := 98) (i := .ireturn) (n := 1) rfl rfl)
theorem c_X6_thereOf (l : Launch) (g : GX) (d : Nat) {x0 : Option Nat} {x1 : Int32} {ah : AH} {q : Int32 × AH} (h : f_X6_thereOf x0 x1 ah = some q) : jM l g (d + 0) md_X6_thereOf [.inr (.inr (.inl x0)), .inl x1] ah (some (.inl q.1)) q.2 :=
  jM_of (by decide) (Nat.le_of_ble_eq_true rfl) (k_X6_thereOf d ah q h (fun pc ls hd => J_reti hd rfl (jPV_int _) rfl (Nat.le_refl _) rfl rfl))
