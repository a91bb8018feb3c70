def f_X4_slot (x0 : Option Nat) (x1 : Int32) (ah : AH) : Option (Int32 × AH) :=
  (gI ah x0 4 3).bind fun v1 => if ((v1 * 6) + x1) < 0 then (some (0, ah)) else (if 246 ≤ ((v1 * 6) + x1) then (some (0, ah)) else (some ((v1 * 6) + x1, ah)))
set_option maxRecDepth 100000 in
set_option maxHeartbeats 4000000 in
theorem k_X4_slot {l : Launch} {g : GX} (d : Nat) {Q : jQ} {x0 : Option Nat} {x1 : Int32} (ah : AH) (out : Int32 × AH) (h : f_X4_slot x0 x1 ah = some out) (hR : jRetI l g md_X4_slot (jRm (d + 0) md_X4_slot) Q (0, 0) out.1 out.2) : J l g md_X4_slot (jRm (d + 0) md_X4_slot) Q 0 [(0, .inr (.inr (.inl x0))), (1, .inl x1)] [] ah (0, 0) := by
  unfold f_X4_slot at h
  refine J_seg ok_X4_slot 0 1 (pc' := 1) (ls' := [(0, .inr (.inr (.inl x0))), (1, .inl x1)]) (st' := [.inr (.inr (.inl x0))]) rfl ?_
  obtain ⟨v1, h2, h⟩ := Option.bind_eq_some_iff.mp h
  refine J_getI (jat ok_X4_slot 1 (pc := 1) (i := .getfield 21) (n := 3) rfl rfl) fl_RX4_21 h2 ?_
  refine J_seg ok_X4_slot 2 6 (pc' := 11) (ls' := [(2, .inl ((v1 * 6) + x1)), (0, .inr (.inr (.inl x0))), (1, .inl x1)]) (st' := [.inl ((v1 * 6) + x1)]) rfl ?_
  refine J_lt0 (jat ok_X4_slot 8 (pc := 11) (i := .ifCond .lt 14) (n := 3) rfl rfl) (tgt := 25) (by decide) (fun c => ?_) (fun c => ?_)
  · have h := (if_pos c).symm.trans h
    refine J_seg ok_X4_slot 14 1 (pc' := 26) (ls' := [(2, .inl ((v1 * 6) + x1)), (0, .inr (.inr (.inl x0))), (1, .inl x1)]) (st' := [.inl 0]) rfl ?_
    have h := Option.some.inj h
    subst h
    exact hR _ _ (jat ok_X4_slot 15 (pc := 26) (i := .ireturn) (n := 1) rfl rfl)
  · have h := (if_neg c).symm.trans h
    refine J_seg ok_X4_slot 9 2 (pc' := 18) (ls' := [(2, .inl ((v1 * 6) + x1)), (0, .inr (.inr (.inl x0))), (1, .inl x1)]) (st' := [.inl 246, .inl ((v1 * 6) + x1)]) rfl ?_
    refine J_ge (jat ok_X4_slot 11 (pc := 18) (i := .if_icmp .ge 7) (n := 3) rfl rfl) (tgt := 25) (by decide) (fun c => ?_) (fun c => ?_)
    · have h := (if_pos c).symm.trans h
      refine J_seg ok_X4_slot 14 1 (pc' := 26) (ls' := [(2, .inl ((v1 * 6) + x1)), (0, .inr (.inr (.inl x0))), (1, .inl x1)]) (st' := [.inl 0]) rfl ?_
      have h := Option.some.inj h
      subst h
      exact hR _ _ (jat ok_X4_slot 15 (pc := 26) (i := .ireturn) (n := 1) rfl rfl)
    · have h := (if_neg c).symm.trans h
      refine J_seg ok_X4_slot 12 2 (pc' := 26) (ls' := [(2, .inl ((v1 * 6) + x1)), (0, .inr (.inr (.inl x0))), (1, .inl x1)]) (st' := [.inl ((v1 * 6) + x1)]) rfl ?_
      have h := Option.some.inj h
      subst h
      exact hR _ _ (jat ok_X4_slot 15 (pc := 26) (i := .ireturn) (n := 1) rfl rfl)
theorem c_X4_slot (l : Launch) (g : GX) (d : Nat) {x0 : Option Nat} {x1 : Int32} {ah : AH} {q : Int32 × AH} (h : f_X4_slot x0 x1 ah = some q) : jM l g (d + 0) md_X4_slot [.inr (.inr (.inl x0)), .inl x1] ah (some (.inl q.1)) q.2 :=
  jM_of (by decide) (Nat.le_of_ble_eq_true rfl) (k_X4_slot d ah q h (fun pc ls hd => J_reti hd rfl (jPV_int _) rfl (Nat.le_refl _) rfl rfl))
def f_X4_setDeeds (x0 : Option Nat) (x1 : Int32) (x2 : Int32) (ah : AH) : Option (Unit × AH) :=
  (gR ah x0 4 1).bind fun v1 => if qO ah x0 4 = true then ((f_X4_slot x0 x1 ah).bind fun q3 => (sA q3.2 v1 q3.1 x2).bind fun a6 => some ((), a6)) else none
set_option maxRecDepth 100000 in
set_option maxHeartbeats 4000000 in
theorem k_X4_setDeeds {l : Launch} {g : GX} (d : Nat) {Q : jQ} {x0 : Option Nat} {x1 : Int32} {x2 : Int32} (ah : AH) (out : Unit × AH) (h : f_X4_setDeeds x0 x1 x2 ah = some out) (hR : jRetV l g md_X4_setDeeds (jRm (d + 1) md_X4_setDeeds) Q (0, 0) out.1 out.2) : J l g md_X4_setDeeds (jRm (d + 1) md_X4_setDeeds) Q 0 [(0, .inr (.inr (.inl x0))), (1, .inl x1), (2, .inl x2)] [] ah (0, 0) := by
  unfold f_X4_setDeeds at h
  refine J_seg ok_X4_setDeeds 0 1 (pc' := 1) (ls' := [(0, .inr (.inr (.inl x0))), (1, .inl x1), (2, .inl x2)]) (st' := [.inr (.inr (.inl x0))]) rfl ?_
  obtain ⟨v1, h2, h⟩ := Option.bind_eq_some_iff.mp h
  refine J_getR (jat ok_X4_setDeeds 1 (pc := 1) (i := .getfield 15) (n := 3) rfl rfl) fl_RX4_15 h2 ?_
  refine J_seg ok_X4_setDeeds 2 2 (pc' := 6) (ls' := [(0, .inr (.inr (.inl x0))), (1, .inl x1), (2, .inl x2)]) (st' := [.inl x1, .inr (.inr (.inl x0)), .inr (.inr (.inl v1))]) rfl ?_
  by_cases c5 : qO ah x0 4 = true
  case neg => exact absurd ((if_neg c5).symm.trans h) (by simp)
  have h := (if_pos c5).symm.trans h
  obtain ⟨q3, h4, h⟩ := Option.bind_eq_some_iff.mp h
  refine J_callV (md' := md_X4_slot) (As := [.inl x1]) (st := [.inr (.inr (.inl v1))]) (cs' := (0, 0)) (st' := [.inl q3.1, .inr (.inr (.inl v1))]) (jat ok_X4_setDeeds 4 (pc := 6) (i := .invokevirtual 44) (n := 3) rfl rfl) ml_RX4_44 yv_X4_slot c5 (c_X4_slot l g (d + 0) h4) (jRo_of (by decide)) (Nat.le_of_ble_eq_true rfl) ⟨Nat.le_of_ble_eq_true rfl, Nat.le_of_ble_eq_true rfl⟩ rfl rfl rfl ?_
  refine J_seg ok_X4_setDeeds 5 1 (pc' := 10) (ls' := [(0, .inr (.inr (.inl x0))), (1, .inl x1), (2, .inl x2)]) (st' := [.inl x2, .inl q3.1, .inr (.inr (.inl v1))]) rfl ?_
  obtain ⟨a6, h7, h⟩ := Option.bind_eq_some_iff.mp h
  refine J_iast (jat ok_X4_setDeeds 6 (pc := 10) (i := .iastore) (n := 1) rfl rfl) h7 ?_
  have h := Option.some.inj h
  subst h
  exact hR _ _ (jat ok_X4_setDeeds 7 (pc := 11) (i := .return_) (n := 1) rfl rfl)
theorem c_X4_setDeeds (l : Launch) (g : GX) (d : Nat) {x0 : Option Nat} {x1 : Int32} {x2 : Int32} {ah : AH} {q : Unit × AH} (h : f_X4_setDeeds x0 x1 x2 ah = some q) : jM l g (d + 1) md_X4_setDeeds [.inr (.inr (.inl x0)), .inl x1, .inl x2] ah none q.2 :=
  jM_of (by decide) (Nat.le_of_ble_eq_true rfl) (k_X4_setDeeds d ah q h (fun pc ls hd => J_retv hd rfl rfl (Nat.le_refl _) rfl rfl))
def f_X4_setVictim (x0 : Option Nat) (x1 : Int32) (x2 : Int32) (ah : AH) : Option (Unit × AH) :=
  (gR ah x0 4 0).bind fun v1 => if qO ah x0 4 = true then ((f_X4_slot x0 x1 ah).bind fun q3 => (sA q3.2 v1 q3.1 x2).bind fun a6 => some ((), a6)) else none
set_option maxRecDepth 100000 in
set_option maxHeartbeats 4000000 in
theorem k_X4_setVictim {l : Launch} {g : GX} (d : Nat) {Q : jQ} {x0 : Option Nat} {x1 : Int32} {x2 : Int32} (ah : AH) (out : Unit × AH) (h : f_X4_setVictim x0 x1 x2 ah = some out) (hR : jRetV l g md_X4_setVictim (jRm (d + 1) md_X4_setVictim) Q (0, 0) out.1 out.2) : J l g md_X4_setVictim (jRm (d + 1) md_X4_setVictim) Q 0 [(0, .inr (.inr (.inl x0))), (1, .inl x1), (2, .inl x2)] [] ah (0, 0) := by
  unfold f_X4_setVictim at h
  refine J_seg ok_X4_setVictim 0 1 (pc' := 1) (ls' := [(0, .inr (.inr (.inl x0))), (1, .inl x1), (2, .inl x2)]) (st' := [.inr (.inr (.inl x0))]) rfl ?_
  obtain ⟨v1, h2, h⟩ := Option.bind_eq_some_iff.mp h
  refine J_getR (jat ok_X4_setVictim 1 (pc := 1) (i := .getfield 9) (n := 3) rfl rfl) fl_RX4_9 h2 ?_
  refine J_seg ok_X4_setVictim 2 2 (pc' := 6) (ls' := [(0, .inr (.inr (.inl x0))), (1, .inl x1), (2, .inl x2)]) (st' := [.inl x1, .inr (.inr (.inl x0)), .inr (.inr (.inl v1))]) rfl ?_
  by_cases c5 : qO ah x0 4 = true
  case neg => exact absurd ((if_neg c5).symm.trans h) (by simp)
  have h := (if_pos c5).symm.trans h
  obtain ⟨q3, h4, h⟩ := Option.bind_eq_some_iff.mp h
  refine J_callV (md' := md_X4_slot) (As := [.inl x1]) (st := [.inr (.inr (.inl v1))]) (cs' := (0, 0)) (st' := [.inl q3.1, .inr (.inr (.inl v1))]) (jat ok_X4_setVictim 4 (pc := 6) (i := .invokevirtual 44) (n := 3) rfl rfl) ml_RX4_44 yv_X4_slot c5 (c_X4_slot l g (d + 0) h4) (jRo_of (by decide)) (Nat.le_of_ble_eq_true rfl) ⟨Nat.le_of_ble_eq_true rfl, Nat.le_of_ble_eq_true rfl⟩ rfl rfl rfl ?_
  refine J_seg ok_X4_setVictim 5 1 (pc' := 10) (ls' := [(0, .inr (.inr (.inl x0))), (1, .inl x1), (2, .inl x2)]) (st' := [.inl x2, .inl q3.1, .inr (.inr (.inl v1))]) rfl ?_
  obtain ⟨a6, h7, h⟩ := Option.bind_eq_some_iff.mp h
  refine J_iast (jat ok_X4_setVictim 6 (pc := 10) (i := .iastore) (n := 1) rfl rfl) h7 ?_
  have h := Option.some.inj h
  subst h
  exact hR _ _ (jat ok_X4_setVictim 7 (pc := 11) (i := .return_) (n := 1) rfl rfl)
theorem c_X4_setVictim (l : Launch) (g : GX) (d : Nat) {x0 : Option Nat} {x1 : Int32} {x2 : Int32} {ah : AH} {q : Unit × AH} (h : f_X4_setVictim x0 x1 x2 ah = some q) : jM l g (d + 1) md_X4_setVictim [.inr (.inr (.inl x0)), .inl x1, .inl x2] ah none q.2 :=
  jM_of (by decide) (Nat.le_of_ble_eq_true rfl) (k_X4_setVictim d ah q h (fun pc ls hd => J_retv hd rfl rfl (Nat.le_refl _) rfl rfl))
def f_X4_begin_b7 (k0 : Option Nat) (k1 : Option Nat) (s7 : Int32) (ah : AH) : Option ((Unit × AH) ⊕ (((Unit) × AH) ⊕ ((Int32) × AH))) :=
  if 6 ≤ s7 then (some (.inr (.inl ((), ah)))) else (if qO ah k1 1 = true then ((f_X1_firstVictimOf k1 s7 ah).bind fun q3 => if qO q3.2 k0 4 = true then ((f_X4_setVictim k0 s7 q3.1 q3.2).bind fun q6 => if qO q6.2 k0 4 = true then ((f_X4_setDeeds k0 s7 0 q6.2).bind fun q9 => (gR q9.2 k0 4 2).bind fun v12 => (sA q9.2 v12 s7 0).bind fun a14 => some (.inr (.inr (s7 + 1, a14)))) else none) else none) else none)
set_option maxRecDepth 100000 in
set_option maxHeartbeats 4000000 in
theorem k_X4_begin_b7 {l : Launch} {g : GX} (d : Nat) {Q : jQ} {k0 : Option Nat} {k1 : Option Nat} (s7 : Int32) (ah : AH) (out : (Unit × AH) ⊕ (((Unit) × AH) ⊕ ((Int32) × AH))) (h : f_X4_begin_b7 k0 k1 s7 ah = some out) (hR : ∀ q, out = .inl q → jRetN q.1 q.2) (hX : ∀ q, out = .inr (.inl q) → J l g md_X4_begin (jRm (d + 2) md_X4_begin) Q 42 [] [] q.2 (0, 0)) (hN : ∀ q, out = .inr (.inr q) → J l g md_X4_begin (jRm (d + 2) md_X4_begin) Q 7 [(0, .inr (.inr (.inl k0))), (1, .inr (.inr (.inl k1))), (2, .inl q.1)] [] q.2 (0, 0)) : J l g md_X4_begin (jRm (d + 2) md_X4_begin) Q 7 [(0, .inr (.inr (.inl k0))), (1, .inr (.inr (.inl k1))), (2, .inl s7)] [] ah (0, 0) := by
  unfold f_X4_begin_b7 at h
  refine J_seg ok_X4_begin 5 2 (pc' := 10) (ls' := [(0, .inr (.inr (.inl k0))), (1, .inr (.inr (.inl k1))), (2, .inl s7)]) (st' := [.inl 6, .inl s7]) rfl ?_
  refine J_ge (jat ok_X4_begin 7 (pc := 10) (i := .if_icmp .ge 32) (n := 3) rfl rfl) (tgt := 42) (by decide) (fun c => ?_) (fun c => ?_)
  · have h := (if_pos c).symm.trans h
    exact J_sub (ls' := []) [] rfl (hX ((), ah) (Option.some.inj h).symm)
  · have h := (if_neg c).symm.trans h
    refine J_seg ok_X4_begin 8 4 (pc' := 17) (ls' := [(0, .inr (.inr (.inl k0))), (1, .inr (.inr (.inl k1))), (2, .inl s7)]) (st' := [.inl s7, .inr (.inr (.inl k1)), .inl s7, .inr (.inr (.inl k0))]) rfl ?_
    by_cases c5 : qO ah k1 1 = true
    case neg => exact absurd ((if_neg c5).symm.trans h) (by simp)
    have h := (if_pos c5).symm.trans h
    obtain ⟨q3, h4, h⟩ := Option.bind_eq_some_iff.mp h
    refine J_callV (md' := md_X1_firstVictimOf) (As := [.inl s7]) (st := [.inl s7, .inr (.inr (.inl k0))]) (cs' := (0, 0)) (st' := [.inl q3.1, .inl s7, .inr (.inr (.inl k0))]) (jat ok_X4_begin 12 (pc := 17) (i := .invokevirtual 25) (n := 3) rfl rfl) ml_RX4_25 yv_X1_firstVictimOf c5 (c_X1_firstVictimOf l g (d + 0) h4) (jRo_of (by decide)) (Nat.le_of_ble_eq_true rfl) ⟨Nat.le_of_ble_eq_true rfl, Nat.le_of_ble_eq_true rfl⟩ rfl rfl rfl ?_
    by_cases c8 : qO q3.2 k0 4 = true
    case neg => exact absurd ((if_neg c8).symm.trans h) (by simp)
    have h := (if_pos c8).symm.trans h
    obtain ⟨q6, h7, h⟩ := Option.bind_eq_some_iff.mp h
    refine J_callV (md' := md_X4_setVictim) (As := [.inl s7, .inl q3.1]) (st := []) (cs' := (0, 0)) (st' := []) (jat ok_X4_begin 13 (pc := 20) (i := .invokevirtual 31) (n := 3) rfl rfl) ml_RX4_31 yv_X4_setVictim c8 (c_X4_setVictim l g (d + 0) h7) (jRo_of (by decide)) (Nat.le_of_ble_eq_true rfl) ⟨Nat.le_of_ble_eq_true rfl, Nat.le_of_ble_eq_true rfl⟩ rfl rfl rfl ?_
    refine J_seg ok_X4_begin 14 3 (pc' := 26) (ls' := [(0, .inr (.inr (.inl k0))), (1, .inr (.inr (.inl k1))), (2, .inl s7)]) (st' := [.inl 0, .inl s7, .inr (.inr (.inl k0))]) rfl ?_
    by_cases c11 : qO q6.2 k0 4 = true
    case neg => exact absurd ((if_neg c11).symm.trans h) (by simp)
    have h := (if_pos c11).symm.trans h
    obtain ⟨q9, h10, h⟩ := Option.bind_eq_some_iff.mp h
    refine J_callV (md' := md_X4_setDeeds) (As := [.inl s7, .inl 0]) (st := []) (cs' := (0, 0)) (st' := []) (jat ok_X4_begin 17 (pc := 26) (i := .invokevirtual 35) (n := 3) rfl rfl) ml_RX4_35 yv_X4_setDeeds c11 (c_X4_setDeeds l g (d + 0) h10) (jRo_of (by decide)) (Nat.le_of_ble_eq_true rfl) ⟨Nat.le_of_ble_eq_true rfl, Nat.le_of_ble_eq_true rfl⟩ rfl rfl rfl ?_
    refine J_seg ok_X4_begin 18 1 (pc' := 30) (ls' := [(0, .inr (.inr (.inl k0))), (1, .inr (.inr (.inl k1))), (2, .inl s7)]) (st' := [.inr (.inr (.inl k0))]) rfl ?_
    obtain ⟨v12, h13, h⟩ := Option.bind_eq_some_iff.mp h
    refine J_getR (jat ok_X4_begin 19 (pc := 30) (i := .getfield 18) (n := 3) rfl rfl) fl_RX4_18 h13 ?_
    refine J_seg ok_X4_begin 20 2 (pc' := 35) (ls' := [(0, .inr (.inr (.inl k0))), (1, .inr (.inr (.inl k1))), (2, .inl s7)]) (st' := [.inl 0, .inl s7, .inr (.inr (.inl v12))]) rfl ?_
    obtain ⟨a14, h15, h⟩ := Option.bind_eq_some_iff.mp h
    refine J_iast (jat ok_X4_begin 22 (pc := 35) (i := .iastore) (n := 1) rfl rfl) h15 ?_
    refine J_seg ok_X4_begin 23 2 (pc' := 7) (ls' := [(2, .inl (s7 + 1)), (0, .inr (.inr (.inl k0))), (1, .inr (.inr (.inl k1)))]) (st' := []) rfl ?_
    exact J_sub (ls' := [(0, .inr (.inr (.inl k0))), (1, .inr (.inr (.inl k1))), (2, .inl (s7 + 1))]) [1, 2, 0] rfl (hN (s7 + 1, a14) (Option.some.inj h).symm)
def f_X4_begin (x0 : Option Nat) (x1 : Option Nat) (ah : AH) : Option (Unit × AH) :=
  (sF ah x0 4 3 (.inl 0)).bind fun a1 => (jloop (f_X4_begin_b7 x0 x1) jfuel 0 a1).bind fun q16 => match q16 with | .inl r => none | .inr z18 => some ((), z18.2)
set_option maxRecDepth 100000 in
set_option maxHeartbeats 4000000 in
theorem k_X4_begin {l : Launch} {g : GX} (d : Nat) {Q : jQ} {x0 : Option Nat} {x1 : Option Nat} (ah : AH) (out : Unit × AH) (h : f_X4_begin x0 x1 ah = some out) (hR : jRetV l g md_X4_begin (jRm (d + 2) md_X4_begin) Q (0, 0) out.1 out.2) : J l g md_X4_begin (jRm (d + 2) md_X4_begin) Q 0 [(0, .inr (.inr (.inl x0))), (1, .inr (.inr (.inl x1)))] [] ah (0, 0) := by
  unfold f_X4_begin at h
  refine J_seg ok_X4_begin 0 2 (pc' := 2) (ls' := [(0, .inr (.inr (.inl x0))), (1, .inr (.inr (.inl x1)))]) (st' := [.inl 0, .inr (.inr (.inl x0))]) rfl ?_
  obtain ⟨a1, h2, h⟩ := Option.bind_eq_some_iff.mp h
  refine J_put (jat ok_X4_begin 2 (pc := 2) (i := .putfield 21) (n := 3) rfl rfl) (fp_RX4_21 _) (jPV_int _) h2 ?_
  refine J_seg ok_X4_begin 3 2 (pc' := 7) (ls' := [(2, .inl 0), (0, .inr (.inr (.inl x0))), (1, .inr (.inr (.inl x1)))]) (st' := []) rfl ?_
  obtain ⟨q16, h17, h⟩ := Option.bind_eq_some_iff.mp h
  refine J_sub (ls' := [(0, .inr (.inr (.inl x0))), (1, .inr (.inr (.inl x1))), (2, .inl 0)]) [1, 2, 0] rfl ?_
  refine J_loop (pE := 42) (lh := fun t19 => [(0, .inr (.inr (.inl x0))), (1, .inr (.inr (.inl x1))), (2, .inl t19)]) (lx := fun z18 => []) (P := jRetN) (fun s ah out hb hR hX hN => k_X4_begin_b7 d s ah out hb hR hX hN) jfuel 0 _ _ h17 (fun r e => ?_) (fun z18 e => ?_)
  · subst e
    dsimp only at h
    cases h
  · subst e
    dsimp only at h
    have h := Option.some.inj h
    subst h
    exact hR _ _ (jat ok_X4_begin 25 (pc := 42) (i := .return_) (n := 1) rfl rfl)
theorem c_X4_begin (l : Launch) (g : GX) (d : Nat) {x0 : Option Nat} {x1 : Option Nat} {ah : AH} {q : Unit × AH} (h : f_X4_begin x0 x1 ah = some q) : jM l g (d + 2) md_X4_begin [.inr (.inr (.inl x0)), .inr (.inr (.inl x1))] ah none q.2 :=
  jM_of (by decide) (Nat.le_of_ble_eq_true rfl) (k_X4_begin d ah q h (fun pc ls hd => J_retv hd rfl rfl (Nat.le_refl _) rfl rfl))
def f_X4_beginTurn (x0 : Option Nat) (ah : AH) : Option (Int32 × AH) :=
  (gI ah x0 4 3).bind fun v1 => if v1 < 0 then (some (0, ah)) else ((gI ah x0 4 3).bind fun v3 => if v3 < 40 then ((gI ah x0 4 3).bind fun v5 => (gR ah x0 4 0).bind fun v7 => (gR ah x0 4 0).bind fun v9 => (cA ah v7 (v5 * 6) v9 ((v5 * 6) + 6) 6).bind fun a11 => (gR a11 x0 4 1).bind fun v13 => (gR a11 x0 4 1).bind fun v15 => (cA a11 v13 (v5 * 6) v15 ((v5 * 6) + 6) 6).bind fun a17 => (gR a17 x0 4 2).bind fun v19 => (gR a17 x0 4 2).bind fun v21 => (cA a17 v19 (v5 * 6) v21 ((v5 * 6) + 6) 6).bind fun a23 => (gI a23 x0 4 3).bind fun v25 => (sF a23 x0 4 3 (.inl (v25 + 1))).bind fun a27 => some (1, a27)) else (some (0, ah)))
set_option maxRecDepth 100000 in
set_option maxHeartbeats 4000000 in
theorem k_X4_beginTurn {l : Launch} {g : GX} (d : Nat) {Q : jQ} {x0 : Option Nat} (ah : AH) (out : Int32 × AH) (h : f_X4_beginTurn x0 ah = some out) (hR : jRetZ l g md_X4_beginTurn (jRm (d + 1) md_X4_beginTurn) Q (0, 0) out.1 out.2) : J l g md_X4_beginTurn (jRm (d + 1) md_X4_beginTurn) Q 0 [(0, .inr (.inr (.inl x0)))] [] ah (0, 0) := by
  unfold f_X4_beginTurn at h
  refine J_seg ok_X4_beginTurn 0 1 (pc' := 1) (ls' := [(0, .inr (.inr (.inl x0)))]) (st' := [.inr (.inr (.inl x0))]) rfl ?_
  obtain ⟨v1, h2, h⟩ := Option.bind_eq_some_iff.mp h
  refine J_getI (jat ok_X4_beginTurn 1 (pc := 1) (i := .getfield 21) (n := 3) rfl rfl) fl_RX4_21 h2 ?_
  refine J_lt0 (jat ok_X4_beginTurn 2 (pc := 4) (i := .ifCond .lt 12) (n := 3) rfl rfl) (tgt := 16) (by decide) (fun c => ?_) (fun c => ?_)
  · have h := (if_pos c).symm.trans h
    refine J_seg ok_X4_beginTurn 7 1 (pc' := 17) (ls' := [(0, .inr (.inr (.inl x0)))]) (st' := [.inl 0]) rfl ?_
    have h := Option.some.inj h
    subst h
    exact hR _ _ (jat ok_X4_beginTurn 8 (pc := 17) (i := .ireturn) (n := 1) rfl rfl) (Or.inl rfl)
  · have h := (if_neg c).symm.trans h
    refine J_seg ok_X4_beginTurn 3 1 (pc' := 8) (ls' := [(0, .inr (.inr (.inl x0)))]) (st' := [.inr (.inr (.inl x0))]) rfl ?_
    obtain ⟨v3, h4, h⟩ := Option.bind_eq_some_iff.mp h
    refine J_getI (jat ok_X4_beginTurn 4 (pc := 8) (i := .getfield 21) (n := 3) rfl rfl) fl_RX4_21 h4 ?_
    refine J_seg ok_X4_beginTurn 5 1 (pc' := 13) (ls' := [(0, .inr (.inr (.inl x0)))]) (st' := [.inl 40, .inl v3]) rfl ?_
    refine J_lt (jat ok_X4_beginTurn 6 (pc := 13) (i := .if_icmp .lt 5) (n := 3) rfl rfl) (tgt := 18) (by decide) (fun c => ?_) (fun c => ?_)
    · have h := (if_pos c).symm.trans h
      refine J_seg ok_X4_beginTurn 9 1 (pc' := 19) (ls' := [(0, .inr (.inr (.inl x0)))]) (st' := [.inr (.inr (.inl x0))]) rfl ?_
      obtain ⟨v5, h6, h⟩ := Option.bind_eq_some_iff.mp h
      refine J_getI (jat ok_X4_beginTurn 10 (pc := 19) (i := .getfield 21) (n := 3) rfl rfl) fl_RX4_21 h6 ?_
      refine J_seg ok_X4_beginTurn 11 8 (pc' := 32) (ls' := [(2, .inl ((v5 * 6) + 6)), (1, .inl (v5 * 6)), (0, .inr (.inr (.inl x0)))]) (st' := [.inr (.inr (.inl x0))]) rfl ?_
      obtain ⟨v7, h8, h⟩ := Option.bind_eq_some_iff.mp h
      refine J_getR (jat ok_X4_beginTurn 19 (pc := 32) (i := .getfield 9) (n := 3) rfl rfl) fl_RX4_9 h8 ?_
      refine J_seg ok_X4_beginTurn 20 2 (pc' := 37) (ls' := [(2, .inl ((v5 * 6) + 6)), (1, .inl (v5 * 6)), (0, .inr (.inr (.inl x0)))]) (st' := [.inr (.inr (.inl x0)), .inl (v5 * 6), .inr (.inr (.inl v7))]) rfl ?_
      obtain ⟨v9, h10, h⟩ := Option.bind_eq_some_iff.mp h
      refine J_getR (jat ok_X4_beginTurn 22 (pc := 37) (i := .getfield 9) (n := 3) rfl rfl) fl_RX4_9 h10 ?_
      refine J_seg ok_X4_beginTurn 23 2 (pc' := 43) (ls' := [(2, .inl ((v5 * 6) + 6)), (1, .inl (v5 * 6)), (0, .inr (.inr (.inl x0)))]) (st' := [.inl 6, .inl ((v5 * 6) + 6), .inr (.inr (.inl v9)), .inl (v5 * 6), .inr (.inr (.inl v7))]) rfl ?_
      obtain ⟨a11, h12, h⟩ := Option.bind_eq_some_iff.mp h
      refine J_cpy (jat ok_X4_beginTurn 25 (pc := 43) (i := .invokestatic 38) (n := 3) rfl rfl) mc_RX4_38 ay_w ⟨by show 1 ≤ d + 1; omega, by show 8 + (nativeFrameWords "java/lang/System" "arraycopy" 5 + 11) ≤ 64 * (d + 1); have := (by decide : nativeFrameWords "java/lang/System" "arraycopy" 5 ≤ 40); omega⟩ (Nat.le_of_ble_eq_true rfl) h12 ?_
      refine J_seg ok_X4_beginTurn 26 1 (pc' := 47) (ls' := [(2, .inl ((v5 * 6) + 6)), (1, .inl (v5 * 6)), (0, .inr (.inr (.inl x0)))]) (st' := [.inr (.inr (.inl x0))]) rfl ?_
      obtain ⟨v13, h14, h⟩ := Option.bind_eq_some_iff.mp h
      refine J_getR (jat ok_X4_beginTurn 27 (pc := 47) (i := .getfield 15) (n := 3) rfl rfl) fl_RX4_15 h14 ?_
      refine J_seg ok_X4_beginTurn 28 2 (pc' := 52) (ls' := [(2, .inl ((v5 * 6) + 6)), (1, .inl (v5 * 6)), (0, .inr (.inr (.inl x0)))]) (st' := [.inr (.inr (.inl x0)), .inl (v5 * 6), .inr (.inr (.inl v13))]) rfl ?_
      obtain ⟨v15, h16, h⟩ := Option.bind_eq_some_iff.mp h
      refine J_getR (jat ok_X4_beginTurn 30 (pc := 52) (i := .getfield 15) (n := 3) rfl rfl) fl_RX4_15 h16 ?_
      refine J_seg ok_X4_beginTurn 31 2 (pc' := 58) (ls' := [(2, .inl ((v5 * 6) + 6)), (1, .inl (v5 * 6)), (0, .inr (.inr (.inl x0)))]) (st' := [.inl 6, .inl ((v5 * 6) + 6), .inr (.inr (.inl v15)), .inl (v5 * 6), .inr (.inr (.inl v13))]) rfl ?_
      obtain ⟨a17, h18, h⟩ := Option.bind_eq_some_iff.mp h
      refine J_cpy (jat ok_X4_beginTurn 33 (pc := 58) (i := .invokestatic 38) (n := 3) rfl rfl) mc_RX4_38 ay_w ⟨by show 1 ≤ d + 1; omega, by show 8 + (nativeFrameWords "java/lang/System" "arraycopy" 5 + 11) ≤ 64 * (d + 1); have := (by decide : nativeFrameWords "java/lang/System" "arraycopy" 5 ≤ 40); omega⟩ (Nat.le_of_ble_eq_true rfl) h18 ?_
      refine J_seg ok_X4_beginTurn 34 1 (pc' := 62) (ls' := [(2, .inl ((v5 * 6) + 6)), (1, .inl (v5 * 6)), (0, .inr (.inr (.inl x0)))]) (st' := [.inr (.inr (.inl x0))]) rfl ?_
      obtain ⟨v19, h20, h⟩ := Option.bind_eq_some_iff.mp h
      refine J_getR (jat ok_X4_beginTurn 35 (pc := 62) (i := .getfield 18) (n := 3) rfl rfl) fl_RX4_18 h20 ?_
      refine J_seg ok_X4_beginTurn 36 2 (pc' := 67) (ls' := [(2, .inl ((v5 * 6) + 6)), (1, .inl (v5 * 6)), (0, .inr (.inr (.inl x0)))]) (st' := [.inr (.inr (.inl x0)), .inl (v5 * 6), .inr (.inr (.inl v19))]) rfl ?_
      obtain ⟨v21, h22, h⟩ := Option.bind_eq_some_iff.mp h
      refine J_getR (jat ok_X4_beginTurn 38 (pc := 67) (i := .getfield 18) (n := 3) rfl rfl) fl_RX4_18 h22 ?_
      refine J_seg ok_X4_beginTurn 39 2 (pc' := 73) (ls' := [(2, .inl ((v5 * 6) + 6)), (1, .inl (v5 * 6)), (0, .inr (.inr (.inl x0)))]) (st' := [.inl 6, .inl ((v5 * 6) + 6), .inr (.inr (.inl v21)), .inl (v5 * 6), .inr (.inr (.inl v19))]) rfl ?_
      obtain ⟨a23, h24, h⟩ := Option.bind_eq_some_iff.mp h
      refine J_cpy (jat ok_X4_beginTurn 41 (pc := 73) (i := .invokestatic 38) (n := 3) rfl rfl) mc_RX4_38 ay_w ⟨by show 1 ≤ d + 1; omega, by show 8 + (nativeFrameWords "java/lang/System" "arraycopy" 5 + 11) ≤ 64 * (d + 1); have := (by decide : nativeFrameWords "java/lang/System" "arraycopy" 5 ≤ 40); omega⟩ (Nat.le_of_ble_eq_true rfl) h24 ?_
      refine J_seg ok_X4_beginTurn 42 2 (pc' := 78) (ls' := [(2, .inl ((v5 * 6) + 6)), (1, .inl (v5 * 6)), (0, .inr (.inr (.inl x0)))]) (st' := [.inr (.inr (.inl x0)), .inr (.inr (.inl x0))]) rfl ?_
      obtain ⟨v25, h26, h⟩ := Option.bind_eq_some_iff.mp h
      refine J_getI (jat ok_X4_beginTurn 44 (pc := 78) (i := .getfield 21) (n := 3) rfl rfl) fl_RX4_21 h26 ?_
      refine J_seg ok_X4_beginTurn 45 2 (pc' := 83) (ls' := [(2, .inl ((v5 * 6) + 6)), (1, .inl (v5 * 6)), (0, .inr (.inr (.inl x0)))]) (st' := [.inl (v25 + 1), .inr (.inr (.inl x0))]) rfl ?_
      obtain ⟨a27, h28, h⟩ := Option.bind_eq_some_iff.mp h
      refine J_put (jat ok_X4_beginTurn 47 (pc := 83) (i := .putfield 21) (n := 3) rfl rfl) (fp_RX4_21 _) (jPV_int _) h28 ?_
      refine J_seg ok_X4_beginTurn 48 1 (pc' := 87) (ls' := [(2, .inl ((v5 * 6) + 6)), (1, .inl (v5 * 6)), (0, .inr (.inr (.inl x0)))]) (st' := [.inl 1]) rfl ?_
      have h := Option.some.inj h
      subst h
      exact hR _ _ (jat ok_X4_beginTurn 49 (pc := 87) (i := .ireturn) (n := 1) rfl rfl) (Or.inr rfl)
    · have h := (if_neg c).symm.trans h
      refine J_seg ok_X4_beginTurn 7 1 (pc' := 17) (ls' := [(0, .inr (.inr (.inl x0)))]) (st' := [.inl 0]) rfl ?_
      have h := Option.some.inj h
      subst h
      exact hR _ _ (jat ok_X4_beginTurn 8 (pc := 17) (i := .ireturn) (n := 1) rfl rfl) (Or.inl rfl)
theorem c_X4_beginTurn (l : Launch) (g : GX) (d : Nat) {x0 : Option Nat} {ah : AH} {q : Int32 × AH} (h : f_X4_beginTurn x0 ah = some q) : jM l g (d + 1) md_X4_beginTurn [.inr (.inr (.inl x0))] ah (some (.inl q.1)) q.2 :=
  jM_of (by decide) (Nat.le_of_ble_eq_true rfl) (k_X4_beginTurn d ah q h (fun pc ls hd c => J_reti hd rfl (jPV_z c) rfl (Nat.le_refl _) rfl rfl))
def f_X4_backTo (x0 : Option Nat) (x1 : Int32) (ah : AH) : Option (Int32 × AH) :=
  (gI ah x0 4 3).bind fun v1 => (sF ah x0 4 3 (.inl x1)).bind fun a3 => some (v1 - x1, a3)
set_option maxRecDepth 100000 in
set_option maxHeartbeats 4000000 in
theorem k_X4_backTo {l : Launch} {g : GX} (d : Nat) {Q : jQ} {x0 : Option Nat} {x1 : Int32} (ah : AH) (out : Int32 × AH) (h : f_X4_backTo x0 x1 ah = some out) (hR : jRetI l g md_X4_backTo (jRm (d + 0) md_X4_backTo) Q (0, 0) out.1 out.2) : J l g md_X4_backTo (jRm (d + 0) md_X4_backTo) Q 0 [(0, .inr (.inr (.inl x0))), (1, .inl x1)] [] ah (0, 0) := by
  unfold f_X4_backTo at h
  refine J_seg ok_X4_backTo 0 1 (pc' := 1) (ls' := [(0, .inr (.inr (.inl x0))), (1, .inl x1)]) (st' := [.inr (.inr (.inl x0))]) rfl ?_
  obtain ⟨v1, h2, h⟩ := Option.bind_eq_some_iff.mp h
  refine J_getI (jat ok_X4_backTo 1 (pc := 1) (i := .getfield 21) (n := 3) rfl rfl) fl_RX4_21 h2 ?_
  refine J_seg ok_X4_backTo 2 5 (pc' := 9) (ls' := [(2, .inl (v1 - x1)), (0, .inr (.inr (.inl x0))), (1, .inl x1)]) (st' := [.inl x1, .inr (.inr (.inl x0))]) rfl ?_
  obtain ⟨a3, h4, h⟩ := Option.bind_eq_some_iff.mp h
  refine J_put (jat ok_X4_backTo 7 (pc := 9) (i := .putfield 21) (n := 3) rfl rfl) (fp_RX4_21 _) (jPV_int _) h4 ?_
  refine J_seg ok_X4_backTo 8 1 (pc' := 13) (ls' := [(2, .inl (v1 - x1)), (0, .inr (.inr (.inl x0))), (1, .inl x1)]) (st' := [.inl (v1 - x1)]) rfl ?_
  have h := Option.some.inj h
  subst h
  exact hR _ _ (jat ok_X4_backTo 9 (pc := 13) (i := .ireturn) (n := 1) rfl rfl)
theorem c_X4_backTo (l : Launch) (g : GX) (d : Nat) {x0 : Option Nat} {x1 : Int32} {ah : AH} {q : Int32 × AH} (h : f_X4_backTo x0 x1 ah = some q) : jM l g (d + 0) md_X4_backTo [.inr (.inr (.inl x0)), .inl x1] ah (some (.inl q.1)) q.2 :=
  jM_of (by decide) (Nat.le_of_ble_eq_true rfl) (k_X4_backTo d ah q h (fun pc ls hd => J_reti hd rfl (jPV_int _) rfl (Nat.le_refl _) rfl rfl))
def f_X4_take (x0 : Option Nat) (x1 : Option Nat) (ah : AH) : Option (Unit × AH) :=
  (gI ah x1 4 3).bind fun v1 => (sF ah x0 4 3 (.inl v1)).bind fun a3 => (gR a3 x1 4 0).bind fun v5 => (gR a3 x0 4 0).bind fun v7 => (cA a3 v5 0 v7 0 246).bind fun a9 => (gR a9 x1 4 1).bind fun v11 => (gR a9 x0 4 1).bind fun v13 => (cA a9 v11 0 v13 0 246).bind fun a15 => (gR a15 x1 4 2).bind fun v17 => (gR a15 x0 4 2).bind fun v19 => (cA a15 v17 0 v19 0 246).bind fun a21 => some ((), a21)
set_option maxRecDepth 100000 in
set_option maxHeartbeats 4000000 in
theorem k_X4_take {l : Launch} {g : GX} (d : Nat) {Q : jQ} {x0 : Option Nat} {x1 : Option Nat} (ah : AH) (out : Unit × AH) (h : f_X4_take x0 x1 ah = some out) (hR : jRetV l g md_X4_take (jRm (d + 1) md_X4_take) Q (0, 0) out.1 out.2) : J l g md_X4_take (jRm (d + 1) md_X4_take) Q 0 [(0, .inr (.inr (.inl x0))), (1, .inr (.inr (.inl x1)))] [] ah (0, 0) := by
  unfold f_X4_take at h
  refine J_seg ok_X4_take 0 2 (pc' := 2) (ls' := [(0, .inr (.inr (.inl x0))), (1, .inr (.inr (.inl x1)))]) (st' := [.inr (.inr (.inl x1)), .inr (.inr (.inl x0))]) rfl ?_
  obtain ⟨v1, h2, h⟩ := Option.bind_eq_some_iff.mp h
  refine J_getI (jat ok_X4_take 2 (pc := 2) (i := .getfield 21) (n := 3) rfl rfl) fl_RX4_21 h2 ?_
  obtain ⟨a3, h4, h⟩ := Option.bind_eq_some_iff.mp h
  refine J_put (jat ok_X4_take 3 (pc := 5) (i := .putfield 21) (n := 3) rfl rfl) (fp_RX4_21 _) (jPV_int _) h4 ?_
  refine J_seg ok_X4_take 4 1 (pc' := 9) (ls' := [(0, .inr (.inr (.inl x0))), (1, .inr (.inr (.inl x1)))]) (st' := [.inr (.inr (.inl x1))]) rfl ?_
  obtain ⟨v5, h6, h⟩ := Option.bind_eq_some_iff.mp h
  refine J_getR (jat ok_X4_take 5 (pc := 9) (i := .getfield 9) (n := 3) rfl rfl) fl_RX4_9 h6 ?_
  refine J_seg ok_X4_take 6 2 (pc' := 14) (ls' := [(0, .inr (.inr (.inl x0))), (1, .inr (.inr (.inl x1)))]) (st' := [.inr (.inr (.inl x0)), .inl 0, .inr (.inr (.inl v5))]) rfl ?_
  obtain ⟨v7, h8, h⟩ := Option.bind_eq_some_iff.mp h
  refine J_getR (jat ok_X4_take 8 (pc := 14) (i := .getfield 9) (n := 3) rfl rfl) fl_RX4_9 h8 ?_
  refine J_seg ok_X4_take 9 2 (pc' := 21) (ls' := [(0, .inr (.inr (.inl x0))), (1, .inr (.inr (.inl x1)))]) (st' := [.inl 246, .inl 0, .inr (.inr (.inl v7)), .inl 0, .inr (.inr (.inl v5))]) rfl ?_
  obtain ⟨a9, h10, h⟩ := Option.bind_eq_some_iff.mp h
  refine J_cpy (jat ok_X4_take 11 (pc := 21) (i := .invokestatic 38) (n := 3) rfl rfl) mc_RX4_38 ay_w ⟨by show 1 ≤ d + 1; omega, by show 8 + (nativeFrameWords "java/lang/System" "arraycopy" 5 + 11) ≤ 64 * (d + 1); have := (by decide : nativeFrameWords "java/lang/System" "arraycopy" 5 ≤ 40); omega⟩ (Nat.le_of_ble_eq_true rfl) h10 ?_
  refine J_seg ok_X4_take 12 1 (pc' := 25) (ls' := [(0, .inr (.inr (.inl x0))), (1, .inr (.inr (.inl x1)))]) (st' := [.inr (.inr (.inl x1))]) rfl ?_
  obtain ⟨v11, h12, h⟩ := Option.bind_eq_some_iff.mp h
  refine J_getR (jat ok_X4_take 13 (pc := 25) (i := .getfield 15) (n := 3) rfl rfl) fl_RX4_15 h12 ?_
  refine J_seg ok_X4_take 14 2 (pc' := 30) (ls' := [(0, .inr (.inr (.inl x0))), (1, .inr (.inr (.inl x1)))]) (st' := [.inr (.inr (.inl x0)), .inl 0, .inr (.inr (.inl v11))]) rfl ?_
  obtain ⟨v13, h14, h⟩ := Option.bind_eq_some_iff.mp h
  refine J_getR (jat ok_X4_take 16 (pc := 30) (i := .getfield 15) (n := 3) rfl rfl) fl_RX4_15 h14 ?_
  refine J_seg ok_X4_take 17 2 (pc' := 37) (ls' := [(0, .inr (.inr (.inl x0))), (1, .inr (.inr (.inl x1)))]) (st' := [.inl 246, .inl 0, .inr (.inr (.inl v13)), .inl 0, .inr (.inr (.inl v11))]) rfl ?_
  obtain ⟨a15, h16, h⟩ := Option.bind_eq_some_iff.mp h
  refine J_cpy (jat ok_X4_take 19 (pc := 37) (i := .invokestatic 38) (n := 3) rfl rfl) mc_RX4_38 ay_w ⟨by show 1 ≤ d + 1; omega, by show 8 + (nativeFrameWords "java/lang/System" "arraycopy" 5 + 11) ≤ 64 * (d + 1); have := (by decide : nativeFrameWords "java/lang/System" "arraycopy" 5 ≤ 40); omega⟩ (Nat.le_of_ble_eq_true rfl) h16 ?_
  refine J_seg ok_X4_take 20 1 (pc' := 41) (ls' := [(0, .inr (.inr (.inl x0))), (1, .inr (.inr (.inl x1)))]) (st' := [.inr (.inr (.inl x1))]) rfl ?_
  obtain ⟨v17, h18, h⟩ := Option.bind_eq_some_iff.mp h
  refine J_getR (jat ok_X4_take 21 (pc := 41) (i := .getfield 18) (n := 3) rfl rfl) fl_RX4_18 h18 ?_
  refine J_seg ok_X4_take 22 2 (pc' := 46) (ls' := [(0, .inr (.inr (.inl x0))), (1, .inr (.inr (.inl x1)))]) (st' := [.inr (.inr (.inl x0)), .inl 0, .inr (.inr (.inl v17))]) rfl ?_
  obtain ⟨v19, h20, h⟩ := Option.bind_eq_some_iff.mp h
  refine J_getR (jat ok_X4_take 24 (pc := 46) (i := .getfield 18) (n := 3) rfl rfl) fl_RX4_18 h20 ?_
  refine J_seg ok_X4_take 25 2 (pc' := 53) (ls' := [(0, .inr (.inr (.inl x0))), (1, .inr (.inr (.inl x1)))]) (st' := [.inl 246, .inl 0, .inr (.inr (.inl v19)), .inl 0, .inr (.inr (.inl v17))]) rfl ?_
  obtain ⟨a21, h22, h⟩ := Option.bind_eq_some_iff.mp h
  refine J_cpy (jat ok_X4_take 27 (pc := 53) (i := .invokestatic 38) (n := 3) rfl rfl) mc_RX4_38 ay_w ⟨by show 1 ≤ d + 1; omega, by show 8 + (nativeFrameWords "java/lang/System" "arraycopy" 5 + 11) ≤ 64 * (d + 1); have := (by decide : nativeFrameWords "java/lang/System" "arraycopy" 5 ≤ 40); omega⟩ (Nat.le_of_ble_eq_true rfl) h22 ?_
  have h := Option.some.inj h
  subst h
  exact hR _ _ (jat ok_X4_take 28 (pc := 56) (i := .return_) (n := 1) rfl rfl)
theorem c_X4_take (l : Launch) (g : GX) (d : Nat) {x0 : Option Nat} {x1 : Option Nat} {ah : AH} {q : Unit × AH} (h : f_X4_take x0 x1 ah = some q) : jM l g (d + 1) md_X4_take [.inr (.inr (.inl x0)), .inr (.inr (.inl x1))] ah none q.2 :=
  jM_of (by decide) (Nat.le_of_ble_eq_true rfl) (k_X4_take d ah q h (fun pc ls hd => J_retv hd rfl rfl (Nat.le_refl _) rfl rfl))
def f_X4_victimOf (x0 : Option Nat) (x1 : Int32) (ah : AH) : Option (Int32 × AH) :=
  (gR ah x0 4 0).bind fun v1 => if qO ah x0 4 = true then ((f_X4_slot x0 x1 ah).bind fun q3 => (gA q3.2 v1 q3.1).bind fun v6 => some (v6, q3.2)) else none
set_option maxRecDepth 100000 in
set_option maxHeartbeats 4000000 in
theorem k_X4_victimOf {l : Launch} {g : GX} (d : Nat) {Q : jQ} {x0 : Option Nat} {x1 : Int32} (ah : AH) (out : Int32 × AH) (h : f_X4_victimOf x0 x1 ah = some out) (hR : jRetI l g md_X4_victimOf (jRm (d + 1) md_X4_victimOf) Q (0, 0) out.1 out.2) : J l g md_X4_victimOf (jRm (d + 1) md_X4_victimOf) Q 0 [(0, .inr (.inr (.inl x0))), (1, .inl x1)] [] ah (0, 0) := by
  unfold f_X4_victimOf at h
  refine J_seg ok_X4_victimOf 0 1 (pc' := 1) (ls' := [(0, .inr (.inr (.inl x0))), (1, .inl x1)]) (st' := [.inr (.inr (.inl x0))]) rfl ?_
  obtain ⟨v1, h2, h⟩ := Option.bind_eq_some_iff.mp h
  refine J_getR (jat ok_X4_victimOf 1 (pc := 1) (i := .getfield 9) (n := 3) rfl rfl) fl_RX4_9 h2 ?_
  refine J_seg ok_X4_victimOf 2 2 (pc' := 6) (ls' := [(0, .inr (.inr (.inl x0))), (1, .inl x1)]) (st' := [.inl x1, .inr (.inr (.inl x0)), .inr (.inr (.inl v1))]) rfl ?_
  by_cases c5 : qO ah x0 4 = true
  case neg => exact absurd ((if_neg c5).symm.trans h) (by simp)
  have h := (if_pos c5).symm.trans h
  obtain ⟨q3, h4, h⟩ := Option.bind_eq_some_iff.mp h
  refine J_callV (md' := md_X4_slot) (As := [.inl x1]) (st := [.inr (.inr (.inl v1))]) (cs' := (0, 0)) (st' := [.inl q3.1, .inr (.inr (.inl v1))]) (jat ok_X4_victimOf 4 (pc := 6) (i := .invokevirtual 44) (n := 3) rfl rfl) ml_RX4_44 yv_X4_slot c5 (c_X4_slot l g (d + 0) h4) (jRo_of (by decide)) (Nat.le_of_ble_eq_true rfl) ⟨Nat.le_of_ble_eq_true rfl, Nat.le_of_ble_eq_true rfl⟩ rfl rfl rfl ?_
  obtain ⟨v6, h7, h⟩ := Option.bind_eq_some_iff.mp h
  refine J_iald (jat ok_X4_victimOf 5 (pc := 9) (i := .iaload) (n := 1) rfl rfl) h7 ?_
  have h := Option.some.inj h
  subst h
  exact hR _ _ (jat ok_X4_victimOf 6 (pc := 10) (i := .ireturn) (n := 1) rfl rfl)
theorem c_X4_victimOf (l : Launch) (g : GX) (d : Nat) {x0 : Option Nat} {x1 : Int32} {ah : AH} {q : Int32 × AH} (h : f_X4_victimOf x0 x1 ah = some q) : jM l g (d + 1) md_X4_victimOf [.inr (.inr (.inl x0)), .inl x1] ah (some (.inl q.1)) q.2 :=
  jM_of (by decide) (Nat.le_of_ble_eq_true rfl) (k_X4_victimOf d ah q h (fun pc ls hd => J_reti hd rfl (jPV_int _) rfl (Nat.le_refl _) rfl rfl))
def f_X4_deedsOf (x0 : Option Nat) (x1 : Int32) (ah : AH) : Option (Int32 × AH) :=
  (gR ah x0 4 1).bind fun v1 => if qO ah x0 4 = true then ((f_X4_slot x0 x1 ah).bind fun q3 => (gA q3.2 v1 q3.1).bind fun v6 => some (v6, q3.2)) else none
set_option maxRecDepth 100000 in
set_option maxHeartbeats 4000000 in
theorem k_X4_deedsOf {l : Launch} {g : GX} (d : Nat) {Q : jQ} {x0 : Option Nat} {x1 : Int32} (ah : AH) (out : Int32 × AH) (h : f_X4_deedsOf x0 x1 ah = some out) (hR : jRetI l g md_X4_deedsOf (jRm (d + 1) md_X4_deedsOf) Q (0, 0) out.1 out.2) : J l g md_X4_deedsOf (jRm (d + 1) md_X4_deedsOf) Q 0 [(0, .inr (.inr (.inl x0))), (1, .inl x1)] [] ah (0, 0) := by
  unfold f_X4_deedsOf at h
  refine J_seg ok_X4_deedsOf 0 1 (pc' := 1) (ls' := [(0, .inr (.inr (.inl x0))), (1, .inl x1)]) (st' := [.inr (.inr (.inl x0))]) rfl ?_
  obtain ⟨v1, h2, h⟩ := Option.bind_eq_some_iff.mp h
  refine J_getR (jat ok_X4_deedsOf 1 (pc := 1) (i := .getfield 15) (n := 3) rfl rfl) fl_RX4_15 h2 ?_
  refine J_seg ok_X4_deedsOf 2 2 (pc' := 6) (ls' := [(0, .inr (.inr (.inl x0))), (1, .inl x1)]) (st' := [.inl x1, .inr (.inr (.inl x0)), .inr (.inr (.inl v1))]) rfl ?_
  by_cases c5 : qO ah x0 4 = true
  case neg => exact absurd ((if_neg c5).symm.trans h) (by simp)
  have h := (if_pos c5).symm.trans h
  obtain ⟨q3, h4, h⟩ := Option.bind_eq_some_iff.mp h
  refine J_callV (md' := md_X4_slot) (As := [.inl x1]) (st := [.inr (.inr (.inl v1))]) (cs' := (0, 0)) (st' := [.inl q3.1, .inr (.inr (.inl v1))]) (jat ok_X4_deedsOf 4 (pc := 6) (i := .invokevirtual 44) (n := 3) rfl rfl) ml_RX4_44 yv_X4_slot c5 (c_X4_slot l g (d + 0) h4) (jRo_of (by decide)) (Nat.le_of_ble_eq_true rfl) ⟨Nat.le_of_ble_eq_true rfl, Nat.le_of_ble_eq_true rfl⟩ rfl rfl rfl ?_
  obtain ⟨v6, h7, h⟩ := Option.bind_eq_some_iff.mp h
  refine J_iald (jat ok_X4_deedsOf 5 (pc := 9) (i := .iaload) (n := 1) rfl rfl) h7 ?_
  have h := Option.some.inj h
  subst h
  exact hR _ _ (jat ok_X4_deedsOf 6 (pc := 10) (i := .ireturn) (n := 1) rfl rfl)
theorem c_X4_deedsOf (l : Launch) (g : GX) (d : Nat) {x0 : Option Nat} {x1 : Int32} {ah : AH} {q : Int32 × AH} (h : f_X4_deedsOf x0 x1 ah = some q) : jM l g (d + 1) md_X4_deedsOf [.inr (.inr (.inl x0)), .inl x1] ah (some (.inl q.1)) q.2 :=
  jM_of (by decide) (Nat.le_of_ble_eq_true rfl) (k_X4_deedsOf d ah q h (fun pc ls hd => J_reti hd rfl (jPV_int _) rfl (Nat.le_refl _) rfl rfl))
def f_X4_finesOf (x0 : Option Nat) (x1 : Int32) (ah : AH) : Option (Int32 × AH) :=
  (gR ah x0 4 2).bind fun v1 => if qO ah x0 4 = true then ((f_X4_slot x0 x1 ah).bind fun q3 => (gA q3.2 v1 q3.1).bind fun v6 => some (v6, q3.2)) else none
set_option maxRecDepth 100000 in
set_option maxHeartbeats 4000000 in
theorem k_X4_finesOf {l : Launch} {g : GX} (d : Nat) {Q : jQ} {x0 : Option Nat} {x1 : Int32} (ah : AH) (out : Int32 × AH) (h : f_X4_finesOf x0 x1 ah = some out) (hR : jRetI l g md_X4_finesOf (jRm (d + 1) md_X4_finesOf) Q (0, 0) out.1 out.2) : J l g md_X4_finesOf (jRm (d + 1) md_X4_finesOf) Q 0 [(0, .inr (.inr (.inl x0))), (1, .inl x1)] [] ah (0, 0) := by
  unfold f_X4_finesOf at h
  refine J_seg ok_X4_finesOf 0 1 (pc' := 1) (ls' := [(0, .inr (.inr (.inl x0))), (1, .inl x1)]) (st' := [.inr (.inr (.inl x0))]) rfl ?_
  obtain ⟨v1, h2, h⟩ := Option.bind_eq_some_iff.mp h
  refine J_getR (jat ok_X4_finesOf 1 (pc := 1) (i := .getfield 18) (n := 3) rfl rfl) fl_RX4_18 h2 ?_
  refine J_seg ok_X4_finesOf 2 2 (pc' := 6) (ls' := [(0, .inr (.inr (.inl x0))), (1, .inl x1)]) (st' := [.inl x1, .inr (.inr (.inl x0)), .inr (.inr (.inl v1))]) rfl ?_
  by_cases c5 : qO ah x0 4 = true
  case neg => exact absurd ((if_neg c5).symm.trans h) (by simp)
  have h := (if_pos c5).symm.trans h
  obtain ⟨q3, h4, h⟩ := Option.bind_eq_some_iff.mp h
  refine J_callV (md' := md_X4_slot) (As := [.inl x1]) (st := [.inr (.inr (.inl v1))]) (cs' := (0, 0)) (st' := [.inl q3.1, .inr (.inr (.inl v1))]) (jat ok_X4_finesOf 4 (pc := 6) (i := .invokevirtual 44) (n := 3) rfl rfl) ml_RX4_44 yv_X4_slot c5 (c_X4_slot l g (d + 0) h4) (jRo_of (by decide)) (Nat.le_of_ble_eq_true rfl) ⟨Nat.le_of_ble_eq_true rfl, Nat.le_of_ble_eq_true rfl⟩ rfl rfl rfl ?_
  obtain ⟨v6, h7, h⟩ := Option.bind_eq_some_iff.mp h
  refine J_iald (jat ok_X4_finesOf 5 (pc := 9) (i := .iaload) (n := 1) rfl rfl) h7 ?_
  have h := Option.some.inj h
  subst h
  exact hR _ _ (jat ok_X4_finesOf 6 (pc := 10) (i := .ireturn) (n := 1) rfl rfl)
theorem c_X4_finesOf (l : Launch) (g : GX) (d : Nat) {x0 : Option Nat} {x1 : Int32} {ah : AH} {q : Int32 × AH} (h : f_X4_finesOf x0 x1 ah = some q) : jM l g (d + 1) md_X4_finesOf [.inr (.inr (.inl x0)), .inl x1] ah (some (.inl q.1)) q.2 :=
  jM_of (by decide) (Nat.le_of_ble_eq_true rfl) (k_X4_finesOf d ah q h (fun pc ls hd => J_reti hd rfl (jPV_int _) rfl (Nat.le_refl _) rfl rfl))
def f_X4_fine (x0 : Option Nat) (x1 : Int32) (ah : AH) : Option (Unit × AH) :=
  (gR ah x0 4 2).bind fun v1 => if qO ah x0 4 = true then ((f_X4_slot x0 x1 ah).bind fun q3 => (gA q3.2 v1 q3.1).bind fun v6 => (sA q3.2 v1 q3.1 (v6 + 1)).bind fun a8 => some ((), a8)) else none
set_option maxRecDepth 100000 in
set_option maxHeartbeats 4000000 in
theorem k_X4_fine {l : Launch} {g : GX} (d : Nat) {Q : jQ} {x0 : Option Nat} {x1 : Int32} (ah : AH) (out : Unit × AH) (h : f_X4_fine x0 x1 ah = some out) (hR : jRetV l g md_X4_fine (jRm (d + 1) md_X4_fine) Q (0, 0) out.1 out.2) : J l g md_X4_fine (jRm (d + 1) md_X4_fine) Q 0 [(0, .inr (.inr (.inl x0))), (1, .inl x1)] [] ah (0, 0) := by
  unfold f_X4_fine at h
  refine J_seg ok_X4_fine 0 1 (pc' := 1) (ls' := [(0, .inr (.inr (.inl x0))), (1, .inl x1)]) (st' := [.inr (.inr (.inl x0))]) rfl ?_
  obtain ⟨v1, h2, h⟩ := Option.bind_eq_some_iff.mp h
  refine J_getR (jat ok_X4_fine 1 (pc := 1) (i := .getfield 18) (n := 3) rfl rfl) fl_RX4_18 h2 ?_
  refine J_seg ok_X4_fine 2 2 (pc' := 6) (ls' := [(0, .inr (.inr (.inl x0))), (1, .inl x1)]) (st' := [.inl x1, .inr (.inr (.inl x0)), .inr (.inr (.inl v1))]) rfl ?_
  by_cases c5 : qO ah x0 4 = true
  case neg => exact absurd ((if_neg c5).symm.trans h) (by simp)
  have h := (if_pos c5).symm.trans h
  obtain ⟨q3, h4, h⟩ := Option.bind_eq_some_iff.mp h
  refine J_callV (md' := md_X4_slot) (As := [.inl x1]) (st := [.inr (.inr (.inl v1))]) (cs' := (0, 0)) (st' := [.inl q3.1, .inr (.inr (.inl v1))]) (jat ok_X4_fine 4 (pc := 6) (i := .invokevirtual 44) (n := 3) rfl rfl) ml_RX4_44 yv_X4_slot c5 (c_X4_slot l g (d + 0) h4) (jRo_of (by decide)) (Nat.le_of_ble_eq_true rfl) ⟨Nat.le_of_ble_eq_true rfl, Nat.le_of_ble_eq_true rfl⟩ rfl rfl rfl ?_
  refine J_seg ok_X4_fine 5 1 (pc' := 10) (ls' := [(0, .inr (.inr (.inl x0))), (1, .inl x1)]) (st' := [.inl q3.1, .inr (.inr (.inl v1)), .inl q3.1, .inr (.inr (.inl v1))]) rfl ?_
  obtain ⟨v6, h7, h⟩ := Option.bind_eq_some_iff.mp h
  refine J_iald (jat ok_X4_fine 6 (pc := 10) (i := .iaload) (n := 1) rfl rfl) h7 ?_
  refine J_seg ok_X4_fine 7 2 (pc' := 13) (ls' := [(0, .inr (.inr (.inl x0))), (1, .inl x1)]) (st' := [.inl (v6 + 1), .inl q3.1, .inr (.inr (.inl v1))]) rfl ?_
  obtain ⟨a8, h9, h⟩ := Option.bind_eq_some_iff.mp h
  refine J_iast (jat ok_X4_fine 9 (pc := 13) (i := .iastore) (n := 1) rfl rfl) h9 ?_
  have h := Option.some.inj h
  subst h
  exact hR _ _ (jat ok_X4_fine 10 (pc := 14) (i := .return_) (n := 1) rfl rfl)
theorem c_X4_fine (l : Launch) (g : GX) (d : Nat) {x0 : Option Nat} {x1 : Int32} {ah : AH} {q : Unit × AH} (h : f_X4_fine x0 x1 ah = some q) : jM l g (d + 1) md_X4_fine [.inr (.inr (.inl x0)), .inl x1] ah none q.2 :=
  jM_of (by decide) (Nat.le_of_ble_eq_true rfl) (k_X4_fine d ah q h (fun pc ls hd => J_retv hd rfl rfl (Nat.le_refl _) rfl rfl))
def f_X4_foeOf_b2 (k0 : Option Nat) (k1 : Int32) (s2 : Int32) (ah : AH) : Option ((Int32 × AH) ⊕ (((Unit) × AH) ⊕ ((Int32) × AH))) :=
  if 6 ≤ s2 then (some (.inr (.inl ((), ah)))) else (if k1 < 0 then (some (.inr (.inr (s2 + 1, ah)))) else (if qO ah k0 4 = true then ((f_X4_victimOf k0 s2 ah).bind fun q1 => if q1.1 = k1 then (some (.inl (s2, q1.2))) else (some (.inr (.inr (s2 + 1, q1.2))))) else none))
set_option maxRecDepth 100000 in
set_option maxHeartbeats 4000000 in
theorem k_X4_foeOf_b2 {l : Launch} {g : GX} (d : Nat) {Q : jQ} {k0 : Option Nat} {k1 : Int32} (s2 : Int32) (ah : AH) (out : (Int32 × AH) ⊕ (((Unit) × AH) ⊕ ((Int32) × AH))) (h : f_X4_foeOf_b2 k0 k1 s2 ah = some out) (hR : ∀ q, out = .inl q → jRetI l g md_X4_foeOf (jRm (d + 2) md_X4_foeOf) Q (0, 0) q.1 q.2) (hX : ∀ q, out = .inr (.inl q) → J l g md_X4_foeOf (jRm (d + 2) md_X4_foeOf) Q 29 [] [] q.2 (0, 0)) (hN : ∀ q, out = .inr (.inr q) → J l g md_X4_foeOf (jRm (d + 2) md_X4_foeOf) Q 2 [(0, .inr (.inr (.inl k0))), (1, .inl k1), (2, .inl q.1)] [] q.2 (0, 0)) : J l g md_X4_foeOf (jRm (d + 2) md_X4_foeOf) Q 2 [(0, .inr (.inr (.inl k0))), (1, .inl k1), (2, .inl s2)] [] ah (0, 0) := by
  unfold f_X4_foeOf_b2 at h
  refine J_seg ok_X4_foeOf 2 2 (pc' := 5) (ls' := [(0, .inr (.inr (.inl k0))), (1, .inl k1), (2, .inl s2)]) (st' := [.inl 6, .inl s2]) rfl ?_
  refine J_ge (jat ok_X4_foeOf 4 (pc := 5) (i := .if_icmp .ge 24) (n := 3) rfl rfl) (tgt := 29) (by decide) (fun c => ?_) (fun c => ?_)
  · have h := (if_pos c).symm.trans h
    exact J_sub (ls' := []) [] rfl (hX ((), ah) (Option.some.inj h).symm)
  · have h := (if_neg c).symm.trans h
    refine J_seg ok_X4_foeOf 5 1 (pc' := 9) (ls' := [(0, .inr (.inr (.inl k0))), (1, .inl k1), (2, .inl s2)]) (st' := [.inl k1]) rfl ?_
    refine J_lt0 (jat ok_X4_foeOf 6 (pc := 9) (i := .ifCond .lt 14) (n := 3) rfl rfl) (tgt := 23) (by decide) (fun c => ?_) (fun c => ?_)
    · have h := (if_pos c).symm.trans h
      refine J_seg ok_X4_foeOf 14 2 (pc' := 2) (ls' := [(2, .inl (s2 + 1)), (0, .inr (.inr (.inl k0))), (1, .inl k1)]) (st' := []) rfl ?_
      exact J_sub (ls' := [(0, .inr (.inr (.inl k0))), (1, .inl k1), (2, .inl (s2 + 1))]) [1, 2, 0] rfl (hN (s2 + 1, ah) (Option.some.inj h).symm)
    · have h := (if_neg c).symm.trans h
      refine J_seg ok_X4_foeOf 7 2 (pc' := 14) (ls' := [(0, .inr (.inr (.inl k0))), (1, .inl k1), (2, .inl s2)]) (st' := [.inl s2, .inr (.inr (.inl k0))]) rfl ?_
      by_cases c3 : qO ah k0 4 = true
      case neg => exact absurd ((if_neg c3).symm.trans h) (by simp)
      have h := (if_pos c3).symm.trans h
      obtain ⟨q1, h2, h⟩ := Option.bind_eq_some_iff.mp h
      refine J_callV (md' := md_X4_victimOf) (As := [.inl s2]) (st := []) (cs' := (0, 0)) (st' := [.inl q1.1]) (jat ok_X4_foeOf 9 (pc := 14) (i := .invokevirtual 47) (n := 3) rfl rfl) ml_RX4_47 yv_X4_victimOf c3 (c_X4_victimOf l g (d + 0) h2) (jRo_of (by decide)) (Nat.le_of_ble_eq_true rfl) ⟨Nat.le_of_ble_eq_true rfl, Nat.le_of_ble_eq_true rfl⟩ rfl rfl rfl ?_
      refine J_seg ok_X4_foeOf 10 1 (pc' := 18) (ls' := [(0, .inr (.inr (.inl k0))), (1, .inl k1), (2, .inl s2)]) (st' := [.inl k1, .inl q1.1]) rfl ?_
      refine J_ne (jat ok_X4_foeOf 11 (pc := 18) (i := .if_icmp .ne 5) (n := 3) rfl rfl) (tgt := 23) (by decide) (fun c => ?_) (fun c => ?_)
      · have h := (if_neg c).symm.trans h
        refine J_seg ok_X4_foeOf 14 2 (pc' := 2) (ls' := [(2, .inl (s2 + 1)), (0, .inr (.inr (.inl k0))), (1, .inl k1)]) (st' := []) rfl ?_
        exact J_sub (ls' := [(0, .inr (.inr (.inl k0))), (1, .inl k1), (2, .inl (s2 + 1))]) [1, 2, 0] rfl (hN (s2 + 1, q1.2) (Option.some.inj h).symm)
      · have h := (if_pos c).symm.trans h
        refine J_seg ok_X4_foeOf 12 1 (pc' := 22) (ls' := [(0, .inr (.inr (.inl k0))), (1, .inl k1), (2, .inl s2)]) (st' := [.inl s2]) rfl ?_
        exact hR _ (Option.some.inj h).symm _ _ (jat ok_X4_foeOf 13 (pc := 22) (i := .ireturn) (n := 1) rfl rfl)
def f_X4_foeOf (x0 : Option Nat) (x1 : Int32) (ah : AH) : Option (Int32 × AH) :=
  (jloop (f_X4_foeOf_b2 x0 x1) jfuel 0 ah).bind fun q4 => match q4 with | .inl r => some r | .inr z6 => some ((-9), z6.2)
set_option maxRecDepth 100000 in
set_option maxHeartbeats 4000000 in
theorem k_X4_foeOf {l : Launch} {g : GX} (d : Nat) {Q : jQ} {x0 : Option Nat} {x1 : Int32} (ah : AH) (out : Int32 × AH) (h : f_X4_foeOf x0 x1 ah = some out) (hR : jRetI l g md_X4_foeOf (jRm (d + 2) md_X4_foeOf) Q (0, 0) out.1 out.2) : J l g md_X4_foeOf (jRm (d + 2) md_X4_foeOf) Q 0 [(0, .inr (.inr (.inl x0))), (1, .inl x1)] [] ah (0, 0) := by
  unfold f_X4_foeOf at h
  refine J_seg ok_X4_foeOf 0 2 (pc' := 2) (ls' := [(2, .inl 0), (0, .inr (.inr (.inl x0))), (1, .inl x1)]) (st' := []) rfl ?_
  obtain ⟨q4, h5, h⟩ := Option.bind_eq_some_iff.mp h
  refine J_sub (ls' := [(0, .inr (.inr (.inl x0))), (1, .inl x1), (2, .inl 0)]) [1, 2, 0] rfl ?_
  refine J_loop (pE := 29) (lh := fun t7 => [(0, .inr (.inr (.inl x0))), (1, .inl x1), (2, .inl t7)]) (lx := fun z6 => []) (P := jRetI l g md_X4_foeOf (jRm (d + 2) md_X4_foeOf) Q (0, 0)) (fun s ah out hb hR hX hN => k_X4_foeOf_b2 d s ah out hb hR hX hN) jfuel 0 _ _ h5 (fun r e => ?_) (fun z6 e => ?_)
  · subst e
    dsimp only at h
    have h := Option.some.inj h
    subst h
    exact hR
  · subst e
    dsimp only at h
    refine J_seg ok_X4_foeOf 16 1 (pc' := 31) (ls' := []) (st' := [.inl (-9)]) rfl ?_
    have h := Option.some.inj h
    subst h
    exact hR _ _ (jat ok_X4_foeOf 17 (pc := 31) (i := .ireturn) (n := 1) rfl rfl)
theorem c_X4_foeOf (l : Launch) (g : GX) (d : Nat) {x0 : Option Nat} {x1 : Int32} {ah : AH} {q : Int32 × AH} (h : f_X4_foeOf x0 x1 ah = some q) : jM l g (d + 2) md_X4_foeOf [.inr (.inr (.inl x0)), .inl x1] ah (some (.inl q.1)) q.2 :=
  jM_of (by decide) (Nat.le_of_ble_eq_true rfl) (k_X4_foeOf d ah q h (fun pc ls hd => J_reti hd rfl (jPV_int _) rfl (Nat.le_refl _) rfl rfl))
def f_X4_victimSet_b4 (k0 : Option Nat) (s4 : Int32 × Int32) (ah : AH) : Option ((Unit × AH) ⊕ (((Int32) × AH) ⊕ ((Int32 × Int32) × AH))) :=
  if 6 ≤ s4.2 then (some (.inr (.inl (s4.1, ah)))) else (if qO ah k0 4 = true then ((f_X4_victimOf k0 s4.2 ah).bind fun q1 => if q1.1 < 0 then (some (.inr (.inr ((s4.1, s4.2 + 1), q1.2)))) else (some (.inr (.inr ((s4.1 ||| (1 <<< (q1.1 &&& 31)), s4.2 + 1), q1.2))))) else none)
set_option maxRecDepth 100000 in
set_option maxHeartbeats 4000000 in
theorem k_X4_victimSet_b4 {l : Launch} {g : GX} (d : Nat) {Q : jQ} {k0 : Option Nat} (s4 : Int32 × Int32) (ah : AH) (out : (Unit × AH) ⊕ (((Int32) × AH) ⊕ ((Int32 × Int32) × AH))) (h : f_X4_victimSet_b4 k0 s4 ah = some out) (hR : ∀ q, out = .inl q → jRetN q.1 q.2) (hX : ∀ q, out = .inr (.inl q) → J l g md_X4_victimSet (jRm (d + 2) md_X4_victimSet) Q 32 [(1, .inl q.1)] [] q.2 (0, 0)) (hN : ∀ q, out = .inr (.inr q) → J l g md_X4_victimSet (jRm (d + 2) md_X4_victimSet) Q 4 [(0, .inr (.inr (.inl k0))), (1, .inl q.1.1), (2, .inl q.1.2)] [] q.2 (0, 0)) : J l g md_X4_victimSet (jRm (d + 2) md_X4_victimSet) Q 4 [(0, .inr (.inr (.inl k0))), (1, .inl s4.1), (2, .inl s4.2)] [] ah (0, 0) := by
  unfold f_X4_victimSet_b4 at h
  refine J_seg ok_X4_victimSet 4 2 (pc' := 7) (ls' := [(0, .inr (.inr (.inl k0))), (1, .inl s4.1), (2, .inl s4.2)]) (st' := [.inl 6, .inl s4.2]) rfl ?_
  refine J_ge (jat ok_X4_victimSet 6 (pc := 7) (i := .if_icmp .ge 25) (n := 3) rfl rfl) (tgt := 32) (by decide) (fun c => ?_) (fun c => ?_)
  · have h := (if_pos c).symm.trans h
    exact J_sub (ls' := [(1, .inl s4.1)]) [1] rfl (hX (s4.1, ah) (Option.some.inj h).symm)
  · have h := (if_neg c).symm.trans h
    refine J_seg ok_X4_victimSet 7 2 (pc' := 12) (ls' := [(0, .inr (.inr (.inl k0))), (1, .inl s4.1), (2, .inl s4.2)]) (st' := [.inl s4.2, .inr (.inr (.inl k0))]) rfl ?_
    by_cases c3 : qO ah k0 4 = true
    case neg => exact absurd ((if_neg c3).symm.trans h) (by simp)
    have h := (if_pos c3).symm.trans h
    obtain ⟨q1, h2, h⟩ := Option.bind_eq_some_iff.mp h
    refine J_callV (md' := md_X4_victimOf) (As := [.inl s4.2]) (st := []) (cs' := (0, 0)) (st' := [.inl q1.1]) (jat ok_X4_victimSet 9 (pc := 12) (i := .invokevirtual 47) (n := 3) rfl rfl) ml_RX4_47 yv_X4_victimOf c3 (c_X4_victimOf l g (d + 0) h2) (jRo_of (by decide)) (Nat.le_of_ble_eq_true rfl) ⟨Nat.le_of_ble_eq_true rfl, Nat.le_of_ble_eq_true rfl⟩ rfl rfl rfl ?_
    refine J_seg ok_X4_victimSet 10 2 (pc' := 17) (ls' := [(3, .inl q1.1), (0, .inr (.inr (.inl k0))), (1, .inl s4.1), (2, .inl s4.2)]) (st' := [.inl q1.1]) rfl ?_
    refine J_lt0 (jat ok_X4_victimSet 12 (pc := 17) (i := .ifCond .lt 9) (n := 3) rfl rfl) (tgt := 26) (by decide) (fun c => ?_) (fun c => ?_)
    · have h := (if_pos c).symm.trans h
      refine J_seg ok_X4_victimSet 19 2 (pc' := 4) (ls' := [(2, .inl (s4.2 + 1)), (3, .inl q1.1), (0, .inr (.inr (.inl k0))), (1, .inl s4.1)]) (st' := []) rfl ?_
      exact J_sub (ls' := [(0, .inr (.inr (.inl k0))), (1, .inl s4.1), (2, .inl (s4.2 + 1))]) [2, 3, 0] rfl (hN ((s4.1, s4.2 + 1), q1.2) (Option.some.inj h).symm)
    · have h := (if_neg c).symm.trans h
      refine J_seg ok_X4_victimSet 13 8 (pc' := 4) (ls' := [(2, .inl (s4.2 + 1)), (1, .inl (s4.1 ||| (1 <<< (q1.1 &&& 31)))), (3, .inl q1.1), (0, .inr (.inr (.inl k0)))]) (st' := []) rfl ?_
      exact J_sub (ls' := [(0, .inr (.inr (.inl k0))), (1, .inl (s4.1 ||| (1 <<< (q1.1 &&& 31)))), (2, .inl (s4.2 + 1))]) [3, 1, 0] rfl (hN ((s4.1 ||| (1 <<< (q1.1 &&& 31)), s4.2 + 1), q1.2) (Option.some.inj h).symm)
def f_X4_victimSet (x0 : Option Nat) (ah : AH) : Option (Int32 × AH) :=
  (jloop (f_X4_victimSet_b4 x0) jfuel (0, 0) ah).bind fun q4 => match q4 with | .inl r => none | .inr z6 => some (z6.1, z6.2)
set_option maxRecDepth 100000 in
set_option maxHeartbeats 4000000 in
theorem k_X4_victimSet {l : Launch} {g : GX} (d : Nat) {Q : jQ} {x0 : Option Nat} (ah : AH) (out : Int32 × AH) (h : f_X4_victimSet x0 ah = some out) (hR : jRetI l g md_X4_victimSet (jRm (d + 2) md_X4_victimSet) Q (0, 0) out.1 out.2) : J l g md_X4_victimSet (jRm (d + 2) md_X4_victimSet) Q 0 [(0, .inr (.inr (.inl x0)))] [] ah (0, 0) := by
  unfold f_X4_victimSet at h
  refine J_seg ok_X4_victimSet 0 4 (pc' := 4) (ls' := [(2, .inl 0), (1, .inl 0), (0, .inr (.inr (.inl x0)))]) (st' := []) rfl ?_
  obtain ⟨q4, h5, h⟩ := Option.bind_eq_some_iff.mp h
  refine J_sub (ls' := [(0, .inr (.inr (.inl x0))), (1, .inl 0), (2, .inl 0)]) [2, 1, 0] rfl ?_
  refine J_loop (pE := 32) (lh := fun t7 => [(0, .inr (.inr (.inl x0))), (1, .inl t7.1), (2, .inl t7.2)]) (lx := fun z6 => [(1, .inl z6)]) (P := jRetN) (fun s ah out hb hR hX hN => k_X4_victimSet_b4 d s ah out hb hR hX hN) jfuel (0, 0) _ _ h5 (fun r e => ?_) (fun z6 e => ?_)
  · subst e
    dsimp only at h
    cases h
  · subst e
    dsimp only at h
    refine J_seg ok_X4_victimSet 21 1 (pc' := 33) (ls' := [(1, .inl z6.1)]) (st' := [.inl z6.1]) rfl ?_
    have h := Option.some.inj h
    subst h
    exact hR _ _ (jat ok_X4_victimSet 22 (pc := 33) (i := .ireturn) (n := 1) rfl rfl)
theorem c_X4_victimSet (l : Launch) (g : GX) (d : Nat) {x0 : Option Nat} {ah : AH} {q : Int32 × AH} (h : f_X4_victimSet x0 ah = some q) : jM l g (d + 2) md_X4_victimSet [.inr (.inr (.inl x0))] ah (some (.inl q.1)) q.2 :=
  jM_of (by decide) (Nat.le_of_ble_eq_true rfl) (k_X4_victimSet d ah q h (fun pc ls hd => J_reti hd rfl (jPV_int _) rfl (Nat.le_refl _) rfl rfl))
def f_X5_init (x0 : Nat) (ah : AH) : Option (Unit × AH) :=
  (sF (ah ++ [.inr (.inl (0, List.replicate (Int32.toNatClampNeg 6) none))]) (some x0) 5 0 (.inr (.inr (.inl (some ah.length))))).bind fun a1 => (sF (a1 ++ [.inr (.inl (0, List.replicate (Int32.toNatClampNeg 4) none))]) (some x0) 5 1 (.inr (.inr (.inl (some a1.length))))).bind fun a3 => (f_X3_init a3.length (a3 ++ [.inr (.inr (3, [.inr (.inr (.inl none))]))])).bind fun q5 => (sF q5.2 (some x0) 5 2 (.inr (.inr (.inl (some a3.length))))).bind fun a7 => (f_X4_init a7.length (a7 ++ [.inr (.inr (4, [.inr (.inr (.inl none)), .inr (.inr (.inl none)), .inr (.inr (.inl none)), .inl 0, .inl 0]))])).bind fun q9 => (sF q9.2 (some x0) 5 3 (.inr (.inr (.inl (some a7.length))))).bind fun a11 => (sF (a11 ++ [.inr (.inl (1, List.replicate (Int32.toNatClampNeg 3) none))]) (some x0) 5 4 (.inr (.inr (.inl (some a11.length))))).bind fun a13 => (f_X0_init a13.length (a13 ++ [.inr (.inr (0, [.inr (.inr (.inl none)), .inr (.inr (.inl none)), .inr (.inr (.inl none)), .inl 0, .inl 0]))])).bind fun q15 => (sF q15.2 (some x0) 5 5 (.inr (.inr (.inl (some a13.length))))).bind fun a17 => (sF (a17 ++ [.inl (List.replicate (Int32.toNatClampNeg 6) 0)]) (some x0) 5 6 (.inr (.inr (.inl (some a17.length))))).bind fun a19 => (sF (a19 ++ [.inl (List.replicate (Int32.toNatClampNeg 6) 0)]) (some x0) 5 7 (.inr (.inr (.inl (some a19.length))))).bind fun a21 => (f_X1_init a21.length (a21 ++ [.inr (.inr (1, [.inr (.inr (.inl none)), .inr (.inr (.inl none)), .inr (.inr (.inl none)), .inr (.inr (.inl none)), .inr (.inr (.inl none)), .inl 0, .inl 0]))])).bind fun q23 => (sF q23.2 (some x0) 5 8 (.inr (.inr (.inl (some a21.length))))).bind fun a25 => (f_X1_init a25.length (a25 ++ [.inr (.inr (1, [.inr (.inr (.inl none)), .inr (.inr (.inl none)), .inr (.inr (.inl none)), .inr (.inr (.inl none)), .inr (.inr (.inl none)), .inl 0, .inl 0]))])).bind fun q27 => (sF q27.2 (some x0) 5 9 (.inr (.inr (.inl (some a25.length))))).bind fun a29 => (gR a29 (some x0) 5 0).bind fun v31 => (f_X2_init a29.length 40 (a29 ++ [.inr (.inr (2, [.inr (.inr (.inl none)), .inl 0]))])).bind fun q33 => (sE q33.2 v31 0 (some a29.length)).bind fun a35 => (gR a35 (some x0) 5 0).bind fun v37 => (f_X2_init a35.length 40 (a35 ++ [.inr (.inr (2, [.inr (.inr (.inl none)), .inl 0]))])).bind fun q39 => (sE q39.2 v37 1 (some a35.length)).bind fun a41 => (gR a41 (some x0) 5 0).bind fun v43 => (f_X2_init a41.length 40 (a41 ++ [.inr (.inr (2, [.inr (.inr (.inl none)), .inl 0]))])).bind fun q45 => (sE q45.2 v43 2 (some a41.length)).bind fun a47 => (gR a47 (some x0) 5 0).bind fun v49 => (f_X2_init a47.length 40 (a47 ++ [.inr (.inr (2, [.inr (.inr (.inl none)), .inl 0]))])).bind fun q51 => (sE q51.2 v49 3 (some a47.length)).bind fun a53 => (gR a53 (some x0) 5 0).bind fun v55 => (f_X2_init a53.length 40 (a53 ++ [.inr (.inr (2, [.inr (.inr (.inl none)), .inl 0]))])).bind fun q57 => (sE q57.2 v55 4 (some a53.length)).bind fun a59 => (gR a59 (some x0) 5 0).bind fun v61 => (f_X2_init a59.length 40 (a59 ++ [.inr (.inr (2, [.inr (.inr (.inl none)), .inl 0]))])).bind fun q63 => (sE q63.2 v61 5 (some a59.length)).bind fun a65 => (gR a65 (some x0) 5 1).bind fun v67 => (f_X2_init a65.length 60 (a65 ++ [.inr (.inr (2, [.inr (.inr (.inl none)), .inl 0]))])).bind fun q69 => (sE q69.2 v67 0 (some a65.length)).bind fun a71 => (gR a71 (some x0) 5 1).bind fun v73 => (f_X2_init a71.length 60 (a71 ++ [.inr (.inr (2, [.inr (.inr (.inl none)), .inl 0]))])).bind fun q75 => (sE q75.2 v73 1 (some a71.length)).bind fun a77 => (gR a77 (some x0) 5 1).bind fun v79 => (f_X2_init a77.length 60 (a77 ++ [.inr (.inr (2, [.inr (.inr (.inl none)), .inl 0]))])).bind fun q81 => (sE q81.2 v79 2 (some a77.length)).bind fun a83 => (gR a83 (some x0) 5 1).bind fun v85 => (f_X2_init a83.length 60 (a83 ++ [.inr (.inr (2, [.inr (.inr (.inl none)), .inl 0]))])).bind fun q87 => (sE q87.2 v85 3 (some a83.length)).bind fun a89 => (gR a89 (some x0) 5 4).bind fun v91 => (f_X4_init a89.length (a89 ++ [.inr (.inr (4, [.inr (.inr (.inl none)), .inr (.inr (.inl none)), .inr (.inr (.inl none)), .inl 0, .inl 0]))])).bind fun q93 => (sE q93.2 v91 0 (some a89.length)).bind fun a95 => (gR a95 (some x0) 5 4).bind fun v97 => (f_X4_init a95.length (a95 ++ [.inr (.inr (4, [.inr (.inr (.inl none)), .inr (.inr (.inl none)), .inr (.inr (.inl none)), .inl 0, .inl 0]))])).bind fun q99 => (sE q99.2 v97 1 (some a95.length)).bind fun a101 => (gR a101 (some x0) 5 4).bind fun v103 => (f_X4_init a101.length (a101 ++ [.inr (.inr (4, [.inr (.inr (.inl none)), .inr (.inr (.inl none)), .inr (.inr (.inl none)), .inl 0, .inl 0]))])).bind fun q105 => (sE q105.2 v103 2 (some a101.length)).bind fun a107 => (gR a107 (some x0) 5 3).bind fun v109 => (gR a107 (some x0) 5 8).bind fun v111 => if qO a107 v109 4 = true then ((f_X4_begin v109 v111 a107).bind fun q113 => (sF q113.2 (some x0) 5 13 (.inr (.inl 1))).bind fun a116 => some ((), a116)) else none
set_option maxRecDepth 100000 in
set_option maxHeartbeats 4000000 in
theorem k_X5_init {l : Launch} {g : GX} (d : Nat) {Q : jQ} {x0 : Nat} (ah : AH) (out : Unit × AH) (h : f_X5_init x0 ah = some out) (hR : jRetV l g md_X5_init (jRm (d + 3) md_X5_init) Q (59, 4093) out.1 out.2) : J l g md_X5_init (jRm (d + 3) md_X5_init) Q 0 [(0, .inr (.inr (.inl (some x0))))] [] ah (0, 0) := by
  unfold f_X5_init at h
  refine J_seg ok_X5_init 0 1 (pc' := 1) (ls' := [(0, .inr (.inr (.inl (some x0))))]) (st' := [.inr (.inr (.inl (some x0)))]) rfl ?_
  refine J_obj (jat ok_X5_init 1 (pc := 1) (i := .invokespecial 3) (n := 3) rfl rfl) mo_RX5_3 oi_i oi_c ⟨by show 1 ≤ d + 3; omega, by show 20 ≤ 64 * (d + 3); omega⟩ (Nat.le_of_ble_eq_true rfl) ?_
  refine J_seg ok_X5_init 2 2 (pc' := 7) (ls' := [(0, .inr (.inr (.inl (some x0))))]) (st' := [.inl 6, .inr (.inr (.inl (some x0)))]) rfl ?_
  refine J_newE (t := 0) (cs' := (1, 6)) (jat ok_X5_init 4 (pc := 7) (i := .anewarray 9) (n := 3) rfl rfl) (by decide) (by decide) ce_RX5_9 (by decide) ⟨Nat.le_of_ble_eq_true rfl, Nat.le_of_ble_eq_true rfl⟩ ?_
  obtain ⟨a1, h2, h⟩ := Option.bind_eq_some_iff.mp h
  refine J_put (jat ok_X5_init 5 (pc := 10) (i := .putfield 11) (n := 3) rfl rfl) fp_RX5_11_i (jPV_arr _ _) h2 ?_
  refine J_seg ok_X5_init 6 2 (pc' := 15) (ls' := [(0, .inr (.inr (.inl (some x0))))]) (st' := [.inl 4, .inr (.inr (.inl (some x0)))]) rfl ?_
  refine J_newE (t := 0) (cs' := (2, 10)) (jat ok_X5_init 8 (pc := 15) (i := .anewarray 9) (n := 3) rfl rfl) (by decide) (by decide) ce_RX5_9 (by decide) ⟨Nat.le_of_ble_eq_true rfl, Nat.le_of_ble_eq_true rfl⟩ ?_
  obtain ⟨a3, h4, h⟩ := Option.bind_eq_some_iff.mp h
  refine J_put (jat ok_X5_init 9 (pc := 18) (i := .putfield 15) (n := 3) rfl rfl) fp_RX5_15_i (jPV_arr _ _) h4 ?_
  refine J_seg ok_X5_init 10 1 (pc' := 22) (ls' := [(0, .inr (.inr (.inl (some x0))))]) (st' := [.inr (.inr (.inl (some x0)))]) rfl ?_
  refine J_new (c := 3) (fs := [.inr (.inr (.inl none))]) (cs' := (3, 11)) (jat ok_X5_init 11 (pc := 22) (i := .new 18) (n := 3) rfl rfl) rfl cl_RX5_18 it_3 in_3 tyX3 tyX3_ok df_3 rfl ⟨Nat.le_of_ble_eq_true rfl, Nat.le_of_ble_eq_true rfl⟩ ?_
  refine J_seg ok_X5_init 12 1 (pc' := 26) (ls' := [(0, .inr (.inr (.inl (some x0))))]) (st' := [.inr (.inr (.inl (some a3.length))), .inr (.inr (.inl (some a3.length))), .inr (.inr (.inl (some x0)))]) rfl ?_
  obtain ⟨q5, h6, h⟩ := Option.bind_eq_some_iff.mp h
  refine J_callI (md' := md_X3_init) (As := []) (st := [.inr (.inr (.inl (some a3.length))), .inr (.inr (.inl (some x0)))]) (cs' := (4, 17)) (jat ok_X5_init 13 (pc := 26) (i := .invokespecial 20) (n := 3) rfl rfl) (Or.inr ⟨_, mn_RX5_20⟩) yi_X3_init rfl (c_X3_init l g (d + 1) h6) (jRo_of (by decide)) (Nat.le_of_ble_eq_true rfl) ⟨Nat.le_of_ble_eq_true rfl, Nat.le_of_ble_eq_true rfl⟩ rfl rfl ?_
  obtain ⟨a7, h8, h⟩ := Option.bind_eq_some_iff.mp h
  refine J_put (jat ok_X5_init 14 (pc := 29) (i := .putfield 21) (n := 3) rfl rfl) fp_RX5_21_i (jPV_obj _ _) h8 ?_
  refine J_seg ok_X5_init 15 1 (pc' := 33) (ls' := [(0, .inr (.inr (.inl (some x0))))]) (st' := [.inr (.inr (.inl (some x0)))]) rfl ?_
  refine J_new (c := 4) (fs := [.inr (.inr (.inl none)), .inr (.inr (.inl none)), .inr (.inr (.inl none)), .inl 0, .inl 0]) (cs' := (5, 22)) (jat ok_X5_init 16 (pc := 33) (i := .new 25) (n := 3) rfl rfl) rfl cl_RX5_25 it_4 in_4 tyX4 tyX4_ok df_4 rfl ⟨Nat.le_of_ble_eq_true rfl, Nat.le_of_ble_eq_true rfl⟩ ?_
  refine J_seg ok_X5_init 17 1 (pc' := 37) (ls' := [(0, .inr (.inr (.inl (some x0))))]) (st' := [.inr (.inr (.inl (some a7.length))), .inr (.inr (.inl (some a7.length))), .inr (.inr (.inl (some x0)))]) rfl ?_
  obtain ⟨q9, h10, h⟩ := Option.bind_eq_some_iff.mp h
  refine J_callI (md' := md_X4_init) (As := []) (st := [.inr (.inr (.inl (some a7.length))), .inr (.inr (.inl (some x0)))]) (cs' := (8, 760)) (jat ok_X5_init 18 (pc := 37) (i := .invokespecial 27) (n := 3) rfl rfl) (Or.inr ⟨_, mn_RX5_27⟩) yi_X4_init rfl (c_X4_init l g (d + 1) h10) (jRo_of (by decide)) (Nat.le_of_ble_eq_true rfl) ⟨Nat.le_of_ble_eq_true rfl, Nat.le_of_ble_eq_true rfl⟩ rfl rfl ?_
  obtain ⟨a11, h12, h⟩ := Option.bind_eq_some_iff.mp h
  refine J_put (jat ok_X5_init 19 (pc := 40) (i := .putfield 28) (n := 3) rfl rfl) fp_RX5_28_i (jPV_obj _ _) h12 ?_
  refine J_seg ok_X5_init 20 2 (pc' := 45) (ls' := [(0, .inr (.inr (.inl (some x0))))]) (st' := [.inl 3, .inr (.inr (.inl (some x0)))]) rfl ?_
  refine J_newE (t := 1) (cs' := (9, 763)) (jat ok_X5_init 22 (pc := 45) (i := .anewarray 25) (n := 3) rfl rfl) (by decide) (by decide) ce_RX5_25 (by decide) ⟨Nat.le_of_ble_eq_true rfl, Nat.le_of_ble_eq_true rfl⟩ ?_
  obtain ⟨a13, h14, h⟩ := Option.bind_eq_some_iff.mp h
  refine J_put (jat ok_X5_init 23 (pc := 48) (i := .putfield 32) (n := 3) rfl rfl) fp_RX5_32_i (jPV_arr _ _) h14 ?_
  refine J_seg ok_X5_init 24 1 (pc' := 52) (ls' := [(0, .inr (.inr (.inl (some x0))))]) (st' := [.inr (.inr (.inl (some x0)))]) rfl ?_
  refine J_new (c := 0) (fs := [.inr (.inr (.inl none)), .inr (.inr (.inl none)), .inr (.inr (.inl none)), .inl 0, .inl 0]) (cs' := (10, 768)) (jat ok_X5_init 25 (pc := 52) (i := .new 36) (n := 3) rfl rfl) rfl cl_RX5_36 it_0 in_0 tyX0 tyX0_ok df_0 rfl ⟨Nat.le_of_ble_eq_true rfl, Nat.le_of_ble_eq_true rfl⟩ ?_
  refine J_seg ok_X5_init 26 1 (pc' := 56) (ls' := [(0, .inr (.inr (.inl (some x0))))]) (st' := [.inr (.inr (.inl (some a13.length))), .inr (.inr (.inl (some a13.length))), .inr (.inr (.inl (some x0)))]) rfl ?_
  obtain ⟨q15, h16, h⟩ := Option.bind_eq_some_iff.mp h
  refine J_callI (md' := md_X0_init) (As := []) (st := [.inr (.inr (.inl (some a13.length))), .inr (.inr (.inl (some x0)))]) (cs' := (13, 1158)) (jat ok_X5_init 27 (pc := 56) (i := .invokespecial 38) (n := 3) rfl rfl) (Or.inr ⟨_, mn_RX5_38⟩) yi_X0_init rfl (c_X0_init l g (d + 1) h16) (jRo_of (by decide)) (Nat.le_of_ble_eq_true rfl) ⟨Nat.le_of_ble_eq_true rfl, Nat.le_of_ble_eq_true rfl⟩ rfl rfl ?_
  obtain ⟨a17, h18, h⟩ := Option.bind_eq_some_iff.mp h
  refine J_put (jat ok_X5_init 28 (pc := 59) (i := .putfield 39) (n := 3) rfl rfl) fp_RX5_39_i (jPV_obj _ _) h18 ?_
  refine J_seg ok_X5_init 29 2 (pc' := 65) (ls' := [(0, .inr (.inr (.inl (some x0))))]) (st' := [.inl 6, .inr (.inr (.inl (some x0)))]) rfl ?_
  refine J_newA (cs' := (14, 1164)) (jat ok_X5_init 31 (pc := 65) (i := .newarray .int) (n := 2) rfl rfl) (by decide) (by decide) ac_int (by decide) ⟨Nat.le_of_ble_eq_true rfl, Nat.le_of_ble_eq_true rfl⟩ ?_
  obtain ⟨a19, h20, h⟩ := Option.bind_eq_some_iff.mp h
  refine J_put (jat ok_X5_init 32 (pc := 67) (i := .putfield 43) (n := 3) rfl rfl) fp_RX5_43_i (jPV_arr _ _) h20 ?_
  refine J_seg ok_X5_init 33 2 (pc' := 73) (ls' := [(0, .inr (.inr (.inl (some x0))))]) (st' := [.inl 6, .inr (.inr (.inl (some x0)))]) rfl ?_
  refine J_newA (cs' := (15, 1170)) (jat ok_X5_init 35 (pc := 73) (i := .newarray .int) (n := 2) rfl rfl) (by decide) (by decide) ac_int (by decide) ⟨Nat.le_of_ble_eq_true rfl, Nat.le_of_ble_eq_true rfl⟩ ?_
  obtain ⟨a21, h22, h⟩ := Option.bind_eq_some_iff.mp h
  refine J_put (jat ok_X5_init 36 (pc := 75) (i := .putfield 47) (n := 3) rfl rfl) fp_RX5_47_i (jPV_arr _ _) h22 ?_
  refine J_seg ok_X5_init 37 1 (pc' := 79) (ls' := [(0, .inr (.inr (.inl (some x0))))]) (st' := [.inr (.inr (.inl (some x0)))]) rfl ?_
  refine J_new (c := 1) (fs := [.inr (.inr (.inl none)), .inr (.inr (.inl none)), .inr (.inr (.inl none)), .inr (.inr (.inl none)), .inr (.inr (.inl none)), .inl 0, .inl 0]) (cs' := (16, 1177)) (jat ok_X5_init 38 (pc := 79) (i := .new 50) (n := 3) rfl rfl) rfl cl_RX5_50 it_1 in_1 tyX1 tyX1_ok df_1 rfl ⟨Nat.le_of_ble_eq_true rfl, Nat.le_of_ble_eq_true rfl⟩ ?_
  refine J_seg ok_X5_init 39 1 (pc' := 83) (ls' := [(0, .inr (.inr (.inl (some x0))))]) (st' := [.inr (.inr (.inl (some a21.length))), .inr (.inr (.inl (some a21.length))), .inr (.inr (.inl (some x0)))]) rfl ?_
  obtain ⟨q23, h24, h⟩ := Option.bind_eq_some_iff.mp h
  refine J_callI (md' := md_X1_init) (As := []) (st := [.inr (.inr (.inl (some a21.length))), .inr (.inr (.inl (some x0)))]) (cs' := (21, 1207)) (jat ok_X5_init 40 (pc := 83) (i := .invokespecial 52) (n := 3) rfl rfl) (Or.inr ⟨_, mn_RX5_52⟩) yi_X1_init rfl (c_X1_init l g (d + 1) h24) (jRo_of (by decide)) (Nat.le_of_ble_eq_true rfl) ⟨Nat.le_of_ble_eq_true rfl, Nat.le_of_ble_eq_true rfl⟩ rfl rfl ?_
  obtain ⟨a25, h26, h⟩ := Option.bind_eq_some_iff.mp h
  refine J_put (jat ok_X5_init 41 (pc := 86) (i := .putfield 53) (n := 3) rfl rfl) (fp_RX5_53 _) (jPV_obj _ _) h26 ?_
  refine J_seg ok_X5_init 42 1 (pc' := 90) (ls' := [(0, .inr (.inr (.inl (some x0))))]) (st' := [.inr (.inr (.inl (some x0)))]) rfl ?_
  refine J_new (c := 1) (fs := [.inr (.inr (.inl none)), .inr (.inr (.inl none)), .inr (.inr (.inl none)), .inr (.inr (.inl none)), .inr (.inr (.inl none)), .inl 0, .inl 0]) (cs' := (22, 1214)) (jat ok_X5_init 43 (pc := 90) (i := .new 50) (n := 3) rfl rfl) rfl cl_RX5_50 it_1 in_1 tyX1 tyX1_ok df_1 rfl ⟨Nat.le_of_ble_eq_true rfl, Nat.le_of_ble_eq_true rfl⟩ ?_
  refine J_seg ok_X5_init 44 1 (pc' := 94) (ls' := [(0, .inr (.inr (.inl (some x0))))]) (st' := [.inr (.inr (.inl (some a25.length))), .inr (.inr (.inl (some a25.length))), .inr (.inr (.inl (some x0)))]) rfl ?_
  obtain ⟨q27, h28, h⟩ := Option.bind_eq_some_iff.mp h
  refine J_callI (md' := md_X1_init) (As := []) (st := [.inr (.inr (.inl (some a25.length))), .inr (.inr (.inl (some x0)))]) (cs' := (27, 1244)) (jat ok_X5_init 45 (pc := 94) (i := .invokespecial 52) (n := 3) rfl rfl) (Or.inr ⟨_, mn_RX5_52⟩) yi_X1_init rfl (c_X1_init l g (d + 1) h28) (jRo_of (by decide)) (Nat.le_of_ble_eq_true rfl) ⟨Nat.le_of_ble_eq_true rfl, Nat.le_of_ble_eq_true rfl⟩ rfl rfl ?_
  obtain ⟨a29, h30, h⟩ := Option.bind_eq_some_iff.mp h
  refine J_put (jat ok_X5_init 46 (pc := 97) (i := .putfield 57) (n := 3) rfl rfl) (fp_RX5_57 _) (jPV_obj _ _) h30 ?_
  refine J_seg ok_X5_init 47 4 (pc' := 105) (ls' := [(1, .inl 0), (0, .inr (.inr (.inl (some x0))))]) (st' := [.inl 6, .inl 0]) rfl ?_
  refine J_ge (jat ok_X5_init 51 (pc := 105) (i := .if_icmp .ge 24) (n := 3) rfl rfl) (tgt := 129) (by decide) (fun c => absurd c (by decide)) (fun _ => ?_)
  refine J_seg ok_X5_init 52 1 (pc' := 109) (ls' := [(1, .inl 0), (0, .inr (.inr (.inl (some x0))))]) (st' := [.inr (.inr (.inl (some x0)))]) rfl ?_
  obtain ⟨v31, h32, h⟩ := Option.bind_eq_some_iff.mp h
  refine J_getR (jat ok_X5_init 53 (pc := 109) (i := .getfield 11) (n := 3) rfl rfl) fl_RX5_11 h32 ?_
  refine J_seg ok_X5_init 54 1 (pc' := 113) (ls' := [(1, .inl 0), (0, .inr (.inr (.inl (some x0))))]) (st' := [.inl 0, .inr (.inr (.inl v31))]) rfl ?_
  refine J_new (c := 2) (fs := [.inr (.inr (.inl none)), .inl 0]) (cs' := (28, 1246)) (jat ok_X5_init 55 (pc := 113) (i := .new 9) (n := 3) rfl rfl) rfl cl_RX5_9 it_2 in_2 tyX2 tyX2_ok df_2 rfl ⟨Nat.le_of_ble_eq_true rfl, Nat.le_of_ble_eq_true rfl⟩ ?_
  refine J_seg ok_X5_init 56 2 (pc' := 119) (ls' := [(1, .inl 0), (0, .inr (.inr (.inl (some x0))))]) (st' := [.inl 40, .inr (.inr (.inl (some a29.length))), .inr (.inr (.inl (some a29.length))), .inl 0, .inr (.inr (.inl v31))]) rfl ?_
  obtain ⟨q33, h34, h⟩ := Option.bind_eq_some_iff.mp h
  refine J_callI (md' := md_X2_init) (As := [.inl 40]) (st := [.inr (.inr (.inl (some a29.length))), .inl 0, .inr (.inr (.inl v31))]) (cs' := (29, 1306)) (jat ok_X5_init 58 (pc := 119) (i := .invokespecial 60) (n := 3) rfl rfl) (Or.inl ml_RX5_60) yi_X2_init rfl (c_X2_init l g (d + 1) h34) (jRo_of (by decide)) (Nat.le_of_ble_eq_true rfl) ⟨Nat.le_of_ble_eq_true rfl, Nat.le_of_ble_eq_true rfl⟩ rfl rfl ?_
  obtain ⟨a35, h36, h⟩ := Option.bind_eq_some_iff.mp h
  refine J_aast (jat ok_X5_init 59 (pc := 122) (i := .aastore) (n := 1) rfl rfl) h36 ?_
  refine J_seg ok_X5_init 60 2 (pc' := 102) (ls' := [(1, .inl 1), (0, .inr (.inr (.inl (some x0))))]) (st' := []) rfl ?_
  refine J_seg ok_X5_init 49 2 (pc' := 105) (ls' := [(1, .inl 1), (0, .inr (.inr (.inl (some x0))))]) (st' := [.inl 6, .inl 1]) rfl ?_
  refine J_ge (jat ok_X5_init 51 (pc := 105) (i := .if_icmp .ge 24) (n := 3) rfl rfl) (tgt := 129) (by decide) (fun c => absurd c (by decide)) (fun _ => ?_)
  refine J_seg ok_X5_init 52 1 (pc' := 109) (ls' := [(1, .inl 1), (0, .inr (.inr (.inl (some x0))))]) (st' := [.inr (.inr (.inl (some x0)))]) rfl ?_
  obtain ⟨v37, h38, h⟩ := Option.bind_eq_some_iff.mp h
  refine J_getR (jat ok_X5_init 53 (pc := 109) (i := .getfield 11) (n := 3) rfl rfl) fl_RX5_11 h38 ?_
  refine J_seg ok_X5_init 54 1 (pc' := 113) (ls' := [(1, .inl 1), (0, .inr (.inr (.inl (some x0))))]) (st' := [.inl 1, .inr (.inr (.inl v37))]) rfl ?_
  refine J_new (c := 2) (fs := [.inr (.inr (.inl none)), .inl 0]) (cs' := (30, 1308)) (jat ok_X5_init 55 (pc := 113) (i := .new 9) (n := 3) rfl rfl) rfl cl_RX5_9 it_2 in_2 tyX2 tyX2_ok df_2 rfl ⟨Nat.le_of_ble_eq_true rfl, Nat.le_of_ble_eq_true rfl⟩ ?_
  refine J_seg ok_X5_init 56 2 (pc' := 119) (ls' := [(1, .inl 1), (0, .inr (.inr (.inl (some x0))))]) (st' := [.inl 40, .inr (.inr (.inl (some a35.length))), .inr (.inr (.inl (some a35.length))), .inl 1, .inr (.inr (.inl v37))]) rfl ?_
  obtain ⟨q39, h40, h⟩ := Option.bind_eq_some_iff.mp h
  refine J_callI (md' := md_X2_init) (As := [.inl 40]) (st := [.inr (.inr (.inl (some a35.length))), .inl 1, .inr (.inr (.inl v37))]) (cs' := (31, 1368)) (jat ok_X5_init 58 (pc := 119) (i := .invokespecial 60) (n := 3) rfl rfl) (Or.inl ml_RX5_60) yi_X2_init rfl (c_X2_init l g (d + 1) h40) (jRo_of (by decide)) (Nat.le_of_ble_eq_true rfl) ⟨Nat.le_of_ble_eq_true rfl, Nat.le_of_ble_eq_true rfl⟩ rfl rfl ?_
  obtain ⟨a41, h42, h⟩ := Option.bind_eq_some_iff.mp h
  refine J_aast (jat ok_X5_init 59 (pc := 122) (i := .aastore) (n := 1) rfl rfl) h42 ?_
  refine J_seg ok_X5_init 60 2 (pc' := 102) (ls' := [(1, .inl 2), (0, .inr (.inr (.inl (some x0))))]) (st' := []) rfl ?_
  refine J_seg ok_X5_init 49 2 (pc' := 105) (ls' := [(1, .inl 2), (0, .inr (.inr (.inl (some x0))))]) (st' := [.inl 6, .inl 2]) rfl ?_
  refine J_ge (jat ok_X5_init 51 (pc := 105) (i := .if_icmp .ge 24) (n := 3) rfl rfl) (tgt := 129) (by decide) (fun c => absurd c (by decide)) (fun _ => ?_)
  refine J_seg ok_X5_init 52 1 (pc' := 109) (ls' := [(1, .inl 2), (0, .inr (.inr (.inl (some x0))))]) (st' := [.inr (.inr (.inl (some x0)))]) rfl ?_
  obtain ⟨v43, h44, h⟩ := Option.bind_eq_some_iff.mp h
  refine J_getR (jat ok_X5_init 53 (pc := 109) (i := .getfield 11) (n := 3) rfl rfl) fl_RX5_11 h44 ?_
  refine J_seg ok_X5_init 54 1 (pc' := 113) (ls' := [(1, .inl 2), (0, .inr (.inr (.inl (some x0))))]) (st' := [.inl 2, .inr (.inr (.inl v43))]) rfl ?_
  refine J_new (c := 2) (fs := [.inr (.inr (.inl none)), .inl 0]) (cs' := (32, 1370)) (jat ok_X5_init 55 (pc := 113) (i := .new 9) (n := 3) rfl rfl) rfl cl_RX5_9 it_2 in_2 tyX2 tyX2_ok df_2 rfl ⟨Nat.le_of_ble_eq_true rfl, Nat.le_of_ble_eq_true rfl⟩ ?_
  refine J_seg ok_X5_init 56 2 (pc' := 119) (ls' := [(1, .inl 2), (0, .inr (.inr (.inl (some x0))))]) (st' := [.inl 40, .inr (.inr (.inl (some a41.length))), .inr (.inr (.inl (some a41.length))), .inl 2, .inr (.inr (.inl v43))]) rfl ?_
  obtain ⟨q45, h46, h⟩ := Option.bind_eq_some_iff.mp h
  refine J_callI (md' := md_X2_init) (As := [.inl 40]) (st := [.inr (.inr (.inl (some a41.length))), .inl 2, .inr (.inr (.inl v43))]) (cs' := (33, 1430)) (jat ok_X5_init 58 (pc := 119) (i := .invokespecial 60) (n := 3) rfl rfl) (Or.inl ml_RX5_60) yi_X2_init rfl (c_X2_init l g (d + 1) h46) (jRo_of (by decide)) (Nat.le_of_ble_eq_true rfl) ⟨Nat.le_of_ble_eq_true rfl, Nat.le_of_ble_eq_true rfl⟩ rfl rfl ?_
  obtain ⟨a47, h48, h⟩ := Option.bind_eq_some_iff.mp h
  refine J_aast (jat ok_X5_init 59 (pc := 122) (i := .aastore) (n := 1) rfl rfl) h48 ?_
  refine J_seg ok_X5_init 60 2 (pc' := 102) (ls' := [(1, .inl 3), (0, .inr (.inr (.inl (some x0))))]) (st' := []) rfl ?_
  refine J_seg ok_X5_init 49 2 (pc' := 105) (ls' := [(1, .inl 3), (0, .inr (.inr (.inl (some x0))))]) (st' := [.inl 6, .inl 3]) rfl ?_
  refine J_ge (jat ok_X5_init 51 (pc := 105) (i := .if_icmp .ge 24) (n := 3) rfl rfl) (tgt := 129) (by decide) (fun c => absurd c (by decide)) (fun _ => ?_)
  refine J_seg ok_X5_init 52 1 (pc' := 109) (ls' := [(1, .inl 3), (0, .inr (.inr (.inl (some x0))))]) (st' := [.inr (.inr (.inl (some x0)))]) rfl ?_
  obtain ⟨v49, h50, h⟩ := Option.bind_eq_some_iff.mp h
  refine J_getR (jat ok_X5_init 53 (pc := 109) (i := .getfield 11) (n := 3) rfl rfl) fl_RX5_11 h50 ?_
  refine J_seg ok_X5_init 54 1 (pc' := 113) (ls' := [(1, .inl 3), (0, .inr (.inr (.inl (some x0))))]) (st' := [.inl 3, .inr (.inr (.inl v49))]) rfl ?_
  refine J_new (c := 2) (fs := [.inr (.inr (.inl none)), .inl 0]) (cs' := (34, 1432)) (jat ok_X5_init 55 (pc := 113) (i := .new 9) (n := 3) rfl rfl) rfl cl_RX5_9 it_2 in_2 tyX2 tyX2_ok df_2 rfl ⟨Nat.le_of_ble_eq_true rfl, Nat.le_of_ble_eq_true rfl⟩ ?_
  refine J_seg ok_X5_init 56 2 (pc' := 119) (ls' := [(1, .inl 3), (0, .inr (.inr (.inl (some x0))))]) (st' := [.inl 40, .inr (.inr (.inl (some a47.length))), .inr (.inr (.inl (some a47.length))), .inl 3, .inr (.inr (.inl v49))]) rfl ?_
  obtain ⟨q51, h52, h⟩ := Option.bind_eq_some_iff.mp h
  refine J_callI (md' := md_X2_init) (As := [.inl 40]) (st := [.inr (.inr (.inl (some a47.length))), .inl 3, .inr (.inr (.inl v49))]) (cs' := (35, 1492)) (jat ok_X5_init 58 (pc := 119) (i := .invokespecial 60) (n := 3) rfl rfl) (Or.inl ml_RX5_60) yi_X2_init rfl (c_X2_init l g (d + 1) h52) (jRo_of (by decide)) (Nat.le_of_ble_eq_true rfl) ⟨Nat.le_of_ble_eq_true rfl, Nat.le_of_ble_eq_true rfl⟩ rfl rfl ?_
  obtain ⟨a53, h54, h⟩ := Option.bind_eq_some_iff.mp h
  refine J_aast (jat ok_X5_init 59 (pc := 122) (i := .aastore) (n := 1) rfl rfl) h54 ?_
  refine J_seg ok_X5_init 60 2 (pc' := 102) (ls' := [(1, .inl 4), (0, .inr (.inr (.inl (some x0))))]) (st' := []) rfl ?_
  refine J_seg ok_X5_init 49 2 (pc' := 105) (ls' := [(1, .inl 4), (0, .inr (.inr (.inl (some x0))))]) (st' := [.inl 6, .inl 4]) rfl ?_
  refine J_ge (jat ok_X5_init 51 (pc := 105) (i := .if_icmp .ge 24) (n := 3) rfl rfl) (tgt := 129) (by decide) (fun c => absurd c (by decide)) (fun _ => ?_)
  refine J_seg ok_X5_init 52 1 (pc' := 109) (ls' := [(1, .inl 4), (0, .inr (.inr (.inl (some x0))))]) (st' := [.inr (.inr (.inl (some x0)))]) rfl ?_
  obtain ⟨v55, h56, h⟩ := Option.bind_eq_some_iff.mp h
  refine J_getR (jat ok_X5_init 53 (pc := 109) (i := .getfield 11) (n := 3) rfl rfl) fl_RX5_11 h56 ?_
  refine J_seg ok_X5_init 54 1 (pc' := 113) (ls' := [(1, .inl 4), (0, .inr (.inr (.inl (some x0))))]) (st' := [.inl 4, .inr (.inr (.inl v55))]) rfl ?_
  refine J_new (c := 2) (fs := [.inr (.inr (.inl none)), .inl 0]) (cs' := (36, 1494)) (jat ok_X5_init 55 (pc := 113) (i := .new 9) (n := 3) rfl rfl) rfl cl_RX5_9 it_2 in_2 tyX2 tyX2_ok df_2 rfl ⟨Nat.le_of_ble_eq_true rfl, Nat.le_of_ble_eq_true rfl⟩ ?_
  refine J_seg ok_X5_init 56 2 (pc' := 119) (ls' := [(1, .inl 4), (0, .inr (.inr (.inl (some x0))))]) (st' := [.inl 40, .inr (.inr (.inl (some a53.length))), .inr (.inr (.inl (some a53.length))), .inl 4, .inr (.inr (.inl v55))]) rfl ?_
  obtain ⟨q57, h58, h⟩ := Option.bind_eq_some_iff.mp h
  refine J_callI (md' := md_X2_init) (As := [.inl 40]) (st := [.inr (.inr (.inl (some a53.length))), .inl 4, .inr (.inr (.inl v55))]) (cs' := (37, 1554)) (jat ok_X5_init 58 (pc := 119) (i := .invokespecial 60) (n := 3) rfl rfl) (Or.inl ml_RX5_60) yi_X2_init rfl (c_X2_init l g (d + 1) h58) (jRo_of (by decide)) (Nat.le_of_ble_eq_true rfl) ⟨Nat.le_of_ble_eq_true rfl, Nat.le_of_ble_eq_true rfl⟩ rfl rfl ?_
  obtain ⟨a59, h60, h⟩ := Option.bind_eq_some_iff.mp h
  refine J_aast (jat ok_X5_init 59 (pc := 122) (i := .aastore) (n := 1) rfl rfl) h60 ?_
  refine J_seg ok_X5_init 60 2 (pc' := 102) (ls' := [(1, .inl 5), (0, .inr (.inr (.inl (some x0))))]) (st' := []) rfl ?_
  refine J_seg ok_X5_init 49 2 (pc' := 105) (ls' := [(1, .inl 5), (0, .inr (.inr (.inl (some x0))))]) (st' := [.inl 6, .inl 5]) rfl ?_
  refine J_ge (jat ok_X5_init 51 (pc := 105) (i := .if_icmp .ge 24) (n := 3) rfl rfl) (tgt := 129) (by decide) (fun c => absurd c (by decide)) (fun _ => ?_)
  refine J_seg ok_X5_init 52 1 (pc' := 109) (ls' := [(1, .inl 5), (0, .inr (.inr (.inl (some x0))))]) (st' := [.inr (.inr (.inl (some x0)))]) rfl ?_
  obtain ⟨v61, h62, h⟩ := Option.bind_eq_some_iff.mp h
  refine J_getR (jat ok_X5_init 53 (pc := 109) (i := .getfield 11) (n := 3) rfl rfl) fl_RX5_11 h62 ?_
  refine J_seg ok_X5_init 54 1 (pc' := 113) (ls' := [(1, .inl 5), (0, .inr (.inr (.inl (some x0))))]) (st' := [.inl 5, .inr (.inr (.inl v61))]) rfl ?_
  refine J_new (c := 2) (fs := [.inr (.inr (.inl none)), .inl 0]) (cs' := (38, 1556)) (jat ok_X5_init 55 (pc := 113) (i := .new 9) (n := 3) rfl rfl) rfl cl_RX5_9 it_2 in_2 tyX2 tyX2_ok df_2 rfl ⟨Nat.le_of_ble_eq_true rfl, Nat.le_of_ble_eq_true rfl⟩ ?_
  refine J_seg ok_X5_init 56 2 (pc' := 119) (ls' := [(1, .inl 5), (0, .inr (.inr (.inl (some x0))))]) (st' := [.inl 40, .inr (.inr (.inl (some a59.length))), .inr (.inr (.inl (some a59.length))), .inl 5, .inr (.inr (.inl v61))]) rfl ?_
  obtain ⟨q63, h64, h⟩ := Option.bind_eq_some_iff.mp h
  refine J_callI (md' := md_X2_init) (As := [.inl 40]) (st := [.inr (.inr (.inl (some a59.length))), .inl 5, .inr (.inr (.inl v61))]) (cs' := (39, 1616)) (jat ok_X5_init 58 (pc := 119) (i := .invokespecial 60) (n := 3) rfl rfl) (Or.inl ml_RX5_60) yi_X2_init rfl (c_X2_init l g (d + 1) h64) (jRo_of (by decide)) (Nat.le_of_ble_eq_true rfl) ⟨Nat.le_of_ble_eq_true rfl, Nat.le_of_ble_eq_true rfl⟩ rfl rfl ?_
  obtain ⟨a65, h66, h⟩ := Option.bind_eq_some_iff.mp h
  refine J_aast (jat ok_X5_init 59 (pc := 122) (i := .aastore) (n := 1) rfl rfl) h66 ?_
  refine J_seg ok_X5_init 60 2 (pc' := 102) (ls' := [(1, .inl 6), (0, .inr (.inr (.inl (some x0))))]) (st' := []) rfl ?_
  refine J_seg ok_X5_init 49 2 (pc' := 105) (ls' := [(1, .inl 6), (0, .inr (.inr (.inl (some x0))))]) (st' := [.inl 6, .inl 6]) rfl ?_
  refine J_ge (jat ok_X5_init 51 (pc := 105) (i := .if_icmp .ge 24) (n := 3) rfl rfl) (tgt := 129) (by decide) (fun _ => ?_) (fun c => absurd (by decide) c)
  refine J_seg ok_X5_init 62 4 (pc' := 133) (ls' := [(1, .inl 0), (0, .inr (.inr (.inl (some x0))))]) (st' := [.inl 4, .inl 0]) rfl ?_
  refine J_ge (jat ok_X5_init 66 (pc := 133) (i := .if_icmp .ge 24) (n := 3) rfl rfl) (tgt := 157) (by decide) (fun c => absurd c (by decide)) (fun _ => ?_)
  refine J_seg ok_X5_init 67 1 (pc' := 137) (ls' := [(1, .inl 0), (0, .inr (.inr (.inl (some x0))))]) (st' := [.inr (.inr (.inl (some x0)))]) rfl ?_
  obtain ⟨v67, h68, h⟩ := Option.bind_eq_some_iff.mp h
  refine J_getR (jat ok_X5_init 68 (pc := 137) (i := .getfield 15) (n := 3) rfl rfl) fl_RX5_15 h68 ?_
  refine J_seg ok_X5_init 69 1 (pc' := 141) (ls' := [(1, .inl 0), (0, .inr (.inr (.inl (some x0))))]) (st' := [.inl 0, .inr (.inr (.inl v67))]) rfl ?_
  refine J_new (c := 2) (fs := [.inr (.inr (.inl none)), .inl 0]) (cs' := (40, 1618)) (jat ok_X5_init 70 (pc := 141) (i := .new 9) (n := 3) rfl rfl) rfl cl_RX5_9 it_2 in_2 tyX2 tyX2_ok df_2 rfl ⟨Nat.le_of_ble_eq_true rfl, Nat.le_of_ble_eq_true rfl⟩ ?_
  refine J_seg ok_X5_init 71 2 (pc' := 147) (ls' := [(1, .inl 0), (0, .inr (.inr (.inl (some x0))))]) (st' := [.inl 60, .inr (.inr (.inl (some a65.length))), .inr (.inr (.inl (some a65.length))), .inl 0, .inr (.inr (.inl v67))]) rfl ?_
  obtain ⟨q69, h70, h⟩ := Option.bind_eq_some_iff.mp h
  refine J_callI (md' := md_X2_init) (As := [.inl 60]) (st := [.inr (.inr (.inl (some a65.length))), .inl 0, .inr (.inr (.inl v67))]) (cs' := (41, 1678)) (jat ok_X5_init 73 (pc := 147) (i := .invokespecial 60) (n := 3) rfl rfl) (Or.inl ml_RX5_60) yi_X2_init rfl (c_X2_init l g (d + 1) h70) (jRo_of (by decide)) (Nat.le_of_ble_eq_true rfl) ⟨Nat.le_of_ble_eq_true rfl, Nat.le_of_ble_eq_true rfl⟩ rfl rfl ?_
  obtain ⟨a71, h72, h⟩ := Option.bind_eq_some_iff.mp h
  refine J_aast (jat ok_X5_init 74 (pc := 150) (i := .aastore) (n := 1) rfl rfl) h72 ?_
  refine J_seg ok_X5_init 75 2 (pc' := 131) (ls' := [(1, .inl 1), (0, .inr (.inr (.inl (some x0))))]) (st' := []) rfl ?_
  refine J_seg ok_X5_init 64 2 (pc' := 133) (ls' := [(1, .inl 1), (0, .inr (.inr (.inl (some x0))))]) (st' := [.inl 4, .inl 1]) rfl ?_
  refine J_ge (jat ok_X5_init 66 (pc := 133) (i := .if_icmp .ge 24) (n := 3) rfl rfl) (tgt := 157) (by decide) (fun c => absurd c (by decide)) (fun _ => ?_)
  refine J_seg ok_X5_init 67 1 (pc' := 137) (ls' := [(1, .inl 1), (0, .inr (.inr (.inl (some x0))))]) (st' := [.inr (.inr (.inl (some x0)))]) rfl ?_
  obtain ⟨v73, h74, h⟩ := Option.bind_eq_some_iff.mp h
  refine J_getR (jat ok_X5_init 68 (pc := 137) (i := .getfield 15) (n := 3) rfl rfl) fl_RX5_15 h74 ?_
  refine J_seg ok_X5_init 69 1 (pc' := 141) (ls' := [(1, .inl 1), (0, .inr (.inr (.inl (some x0))))]) (st' := [.inl 1, .inr (.inr (.inl v73))]) rfl ?_
  refine J_new (c := 2) (fs := [.inr (.inr (.inl none)), .inl 0]) (cs' := (42, 1680)) (jat ok_X5_init 70 (pc := 141) (i := .new 9) (n := 3) rfl rfl) rfl cl_RX5_9 it_2 in_2 tyX2 tyX2_ok df_2 rfl ⟨Nat.le_of_ble_eq_true rfl, Nat.le_of_ble_eq_true rfl⟩ ?_
  refine J_seg ok_X5_init 71 2 (pc' := 147) (ls' := [(1, .inl 1), (0, .inr (.inr (.inl (some x0))))]) (st' := [.inl 60, .inr (.inr (.inl (some a71.length))), .inr (.inr (.inl (some a71.length))), .inl 1, .inr (.inr (.inl v73))]) rfl ?_
  obtain ⟨q75, h76, h⟩ := Option.bind_eq_some_iff.mp h
  refine J_callI (md' := md_X2_init) (As := [.inl 60]) (st := [.inr (.inr (.inl (some a71.length))), .inl 1, .inr (.inr (.inl v73))]) (cs' := (43, 1740)) (jat ok_X5_init 73 (pc := 147) (i := .invokespecial 60) (n := 3) rfl rfl) (Or.inl ml_RX5_60) yi_X2_init rfl (c_X2_init l g (d + 1) h76) (jRo_of (by decide)) (Nat.le_of_ble_eq_true rfl) ⟨Nat.le_of_ble_eq_true rfl, Nat.le_of_ble_eq_true rfl⟩ rfl rfl ?_
  obtain ⟨a77, h78, h⟩ := Option.bind_eq_some_iff.mp h
  refine J_aast (jat ok_X5_init 74 (pc := 150) (i := .aastore) (n := 1) rfl rfl) h78 ?_
  refine J_seg ok_X5_init 75 2 (pc' := 131) (ls' := [(1, .inl 2), (0, .inr (.inr (.inl (some x0))))]) (st' := []) rfl ?_
  refine J_seg ok_X5_init 64 2 (pc' := 133) (ls' := [(1, .inl 2), (0, .inr (.inr (.inl (some x0))))]) (st' := [.inl 4, .inl 2]) rfl ?_
  refine J_ge (jat ok_X5_init 66 (pc := 133) (i := .if_icmp .ge 24) (n := 3) rfl rfl) (tgt := 157) (by decide) (fun c => absurd c (by decide)) (fun _ => ?_)
  refine J_seg ok_X5_init 67 1 (pc' := 137) (ls' := [(1, .inl 2), (0, .inr (.inr (.inl (some x0))))]) (st' := [.inr (.inr (.inl (some x0)))]) rfl ?_
  obtain ⟨v79, h80, h⟩ := Option.bind_eq_some_iff.mp h
  refine J_getR (jat ok_X5_init 68 (pc := 137) (i := .getfield 15) (n := 3) rfl rfl) fl_RX5_15 h80 ?_
  refine J_seg ok_X5_init 69 1 (pc' := 141) (ls' := [(1, .inl 2), (0, .inr (.inr (.inl (some x0))))]) (st' := [.inl 2, .inr (.inr (.inl v79))]) rfl ?_
  refine J_new (c := 2) (fs := [.inr (.inr (.inl none)), .inl 0]) (cs' := (44, 1742)) (jat ok_X5_init 70 (pc := 141) (i := .new 9) (n := 3) rfl rfl) rfl cl_RX5_9 it_2 in_2 tyX2 tyX2_ok df_2 rfl ⟨Nat.le_of_ble_eq_true rfl, Nat.le_of_ble_eq_true rfl⟩ ?_
  refine J_seg ok_X5_init 71 2 (pc' := 147) (ls' := [(1, .inl 2), (0, .inr (.inr (.inl (some x0))))]) (st' := [.inl 60, .inr (.inr (.inl (some a77.length))), .inr (.inr (.inl (some a77.length))), .inl 2, .inr (.inr (.inl v79))]) rfl ?_
  obtain ⟨q81, h82, h⟩ := Option.bind_eq_some_iff.mp h
  refine J_callI (md' := md_X2_init) (As := [.inl 60]) (st := [.inr (.inr (.inl (some a77.length))), .inl 2, .inr (.inr (.inl v79))]) (cs' := (45, 1802)) (jat ok_X5_init 73 (pc := 147) (i := .invokespecial 60) (n := 3) rfl rfl) (Or.inl ml_RX5_60) yi_X2_init rfl (c_X2_init l g (d + 1) h82) (jRo_of (by decide)) (Nat.le_of_ble_eq_true rfl) ⟨Nat.le_of_ble_eq_true rfl, Nat.le_of_ble_eq_true rfl⟩ rfl rfl ?_
  obtain ⟨a83, h84, h⟩ := Option.bind_eq_some_iff.mp h
  refine J_aast (jat ok_X5_init 74 (pc := 150) (i := .aastore) (n := 1) rfl rfl) h84 ?_
  refine J_seg ok_X5_init 75 2 (pc' := 131) (ls' := [(1, .inl 3), (0, .inr (.inr (.inl (some x0))))]) (st' := []) rfl ?_
  refine J_seg ok_X5_init 64 2 (pc' := 133) (ls' := [(1, .inl 3), (0, .inr (.inr (.inl (some x0))))]) (st' := [.inl 4, .inl 3]) rfl ?_
  refine J_ge (jat ok_X5_init 66 (pc := 133) (i := .if_icmp .ge 24) (n := 3) rfl rfl) (tgt := 157) (by decide) (fun c => absurd c (by decide)) (fun _ => ?_)
  refine J_seg ok_X5_init 67 1 (pc' := 137) (ls' := [(1, .inl 3), (0, .inr (.inr (.inl (some x0))))]) (st' := [.inr (.inr (.inl (some x0)))]) rfl ?_
  obtain ⟨v85, h86, h⟩ := Option.bind_eq_some_iff.mp h
  refine J_getR (jat ok_X5_init 68 (pc := 137) (i := .getfield 15) (n := 3) rfl rfl) fl_RX5_15 h86 ?_
  refine J_seg ok_X5_init 69 1 (pc' := 141) (ls' := [(1, .inl 3), (0, .inr (.inr (.inl (some x0))))]) (st' := [.inl 3, .inr (.inr (.inl v85))]) rfl ?_
  refine J_new (c := 2) (fs := [.inr (.inr (.inl none)), .inl 0]) (cs' := (46, 1804)) (jat ok_X5_init 70 (pc := 141) (i := .new 9) (n := 3) rfl rfl) rfl cl_RX5_9 it_2 in_2 tyX2 tyX2_ok df_2 rfl ⟨Nat.le_of_ble_eq_true rfl, Nat.le_of_ble_eq_true rfl⟩ ?_
  refine J_seg ok_X5_init 71 2 (pc' := 147) (ls' := [(1, .inl 3), (0, .inr (.inr (.inl (some x0))))]) (st' := [.inl 60, .inr (.inr (.inl (some a83.length))), .inr (.inr (.inl (some a83.length))), .inl 3, .inr (.inr (.inl v85))]) rfl ?_
  obtain ⟨q87, h88, h⟩ := Option.bind_eq_some_iff.mp h
  refine J_callI (md' := md_X2_init) (As := [.inl 60]) (st := [.inr (.inr (.inl (some a83.length))), .inl 3, .inr (.inr (.inl v85))]) (cs' := (47, 1864)) (jat ok_X5_init 73 (pc := 147) (i := .invokespecial 60) (n := 3) rfl rfl) (Or.inl ml_RX5_60) yi_X2_init rfl (c_X2_init l g (d + 1) h88) (jRo_of (by decide)) (Nat.le_of_ble_eq_true rfl) ⟨Nat.le_of_ble_eq_true rfl, Nat.le_of_ble_eq_true rfl⟩ rfl rfl ?_
  obtain ⟨a89, h90, h⟩ := Option.bind_eq_some_iff.mp h
  refine J_aast (jat ok_X5_init 74 (pc := 150) (i := .aastore) (n := 1) rfl rfl) h90 ?_
  refine J_seg ok_X5_init 75 2 (pc' := 131) (ls' := [(1, .inl 4), (0, .inr (.inr (.inl (some x0))))]) (st' := []) rfl ?_
  refine J_seg ok_X5_init 64 2 (pc' := 133) (ls' := [(1, .inl 4), (0, .inr (.inr (.inl (some x0))))]) (st' := [.inl 4, .inl 4]) rfl ?_
  refine J_ge (jat ok_X5_init 66 (pc := 133) (i := .if_icmp .ge 24) (n := 3) rfl rfl) (tgt := 157) (by decide) (fun _ => ?_) (fun c => absurd (by decide) c)
  refine J_seg ok_X5_init 77 4 (pc' := 161) (ls' := [(1, .inl 0), (0, .inr (.inr (.inl (some x0))))]) (st' := [.inl 3, .inl 0]) rfl ?_
  refine J_ge (jat ok_X5_init 81 (pc := 161) (i := .if_icmp .ge 22) (n := 3) rfl rfl) (tgt := 183) (by decide) (fun c => absurd c (by decide)) (fun _ => ?_)
  refine J_seg ok_X5_init 82 1 (pc' := 165) (ls' := [(1, .inl 0), (0, .inr (.inr (.inl (some x0))))]) (st' := [.inr (.inr (.inl (some x0)))]) rfl ?_
  obtain ⟨v91, h92, h⟩ := Option.bind_eq_some_iff.mp h
  refine J_getR (jat ok_X5_init 83 (pc := 165) (i := .getfield 32) (n := 3) rfl rfl) fl_RX5_32 h92 ?_
  refine J_seg ok_X5_init 84 1 (pc' := 169) (ls' := [(1, .inl 0), (0, .inr (.inr (.inl (some x0))))]) (st' := [.inl 0, .inr (.inr (.inl v91))]) rfl ?_
  refine J_new (c := 4) (fs := [.inr (.inr (.inl none)), .inr (.inr (.inl none)), .inr (.inr (.inl none)), .inl 0, .inl 0]) (cs' := (48, 1869)) (jat ok_X5_init 85 (pc := 169) (i := .new 25) (n := 3) rfl rfl) rfl cl_RX5_25 it_4 in_4 tyX4 tyX4_ok df_4 rfl ⟨Nat.le_of_ble_eq_true rfl, Nat.le_of_ble_eq_true rfl⟩ ?_
  refine J_seg ok_X5_init 86 1 (pc' := 173) (ls' := [(1, .inl 0), (0, .inr (.inr (.inl (some x0))))]) (st' := [.inr (.inr (.inl (some a89.length))), .inr (.inr (.inl (some a89.length))), .inl 0, .inr (.inr (.inl v91))]) rfl ?_
  obtain ⟨q93, h94, h⟩ := Option.bind_eq_some_iff.mp h
  refine J_callI (md' := md_X4_init) (As := []) (st := [.inr (.inr (.inl (some a89.length))), .inl 0, .inr (.inr (.inl v91))]) (cs' := (51, 2607)) (jat ok_X5_init 87 (pc := 173) (i := .invokespecial 27) (n := 3) rfl rfl) (Or.inr ⟨_, mn_RX5_27⟩) yi_X4_init rfl (c_X4_init l g (d + 1) h94) (jRo_of (by decide)) (Nat.le_of_ble_eq_true rfl) ⟨Nat.le_of_ble_eq_true rfl, Nat.le_of_ble_eq_true rfl⟩ rfl rfl ?_
  obtain ⟨a95, h96, h⟩ := Option.bind_eq_some_iff.mp h
  refine J_aast (jat ok_X5_init 88 (pc := 176) (i := .aastore) (n := 1) rfl rfl) h96 ?_
  refine J_seg ok_X5_init 89 2 (pc' := 159) (ls' := [(1, .inl 1), (0, .inr (.inr (.inl (some x0))))]) (st' := []) rfl ?_
  refine J_seg ok_X5_init 79 2 (pc' := 161) (ls' := [(1, .inl 1), (0, .inr (.inr (.inl (some x0))))]) (st' := [.inl 3, .inl 1]) rfl ?_
  refine J_ge (jat ok_X5_init 81 (pc := 161) (i := .if_icmp .ge 22) (n := 3) rfl rfl) (tgt := 183) (by decide) (fun c => absurd c (by decide)) (fun _ => ?_)
  refine J_seg ok_X5_init 82 1 (pc' := 165) (ls' := [(1, .inl 1), (0, .inr (.inr (.inl (some x0))))]) (st' := [.inr (.inr (.inl (some x0)))]) rfl ?_
  obtain ⟨v97, h98, h⟩ := Option.bind_eq_some_iff.mp h
  refine J_getR (jat ok_X5_init 83 (pc := 165) (i := .getfield 32) (n := 3) rfl rfl) fl_RX5_32 h98 ?_
  refine J_seg ok_X5_init 84 1 (pc' := 169) (ls' := [(1, .inl 1), (0, .inr (.inr (.inl (some x0))))]) (st' := [.inl 1, .inr (.inr (.inl v97))]) rfl ?_
  refine J_new (c := 4) (fs := [.inr (.inr (.inl none)), .inr (.inr (.inl none)), .inr (.inr (.inl none)), .inl 0, .inl 0]) (cs' := (52, 2612)) (jat ok_X5_init 85 (pc := 169) (i := .new 25) (n := 3) rfl rfl) rfl cl_RX5_25 it_4 in_4 tyX4 tyX4_ok df_4 rfl ⟨Nat.le_of_ble_eq_true rfl, Nat.le_of_ble_eq_true rfl⟩ ?_
  refine J_seg ok_X5_init 86 1 (pc' := 173) (ls' := [(1, .inl 1), (0, .inr (.inr (.inl (some x0))))]) (st' := [.inr (.inr (.inl (some a95.length))), .inr (.inr (.inl (some a95.length))), .inl 1, .inr (.inr (.inl v97))]) rfl ?_
  obtain ⟨q99, h100, h⟩ := Option.bind_eq_some_iff.mp h
  refine J_callI (md' := md_X4_init) (As := []) (st := [.inr (.inr (.inl (some a95.length))), .inl 1, .inr (.inr (.inl v97))]) (cs' := (55, 3350)) (jat ok_X5_init 87 (pc := 173) (i := .invokespecial 27) (n := 3) rfl rfl) (Or.inr ⟨_, mn_RX5_27⟩) yi_X4_init rfl (c_X4_init l g (d + 1) h100) (jRo_of (by decide)) (Nat.le_of_ble_eq_true rfl) ⟨Nat.le_of_ble_eq_true rfl, Nat.le_of_ble_eq_true rfl⟩ rfl rfl ?_
  obtain ⟨a101, h102, h⟩ := Option.bind_eq_some_iff.mp h
  refine J_aast (jat ok_X5_init 88 (pc := 176) (i := .aastore) (n := 1) rfl rfl) h102 ?_
  refine J_seg ok_X5_init 89 2 (pc' := 159) (ls' := [(1, .inl 2), (0, .inr (.inr (.inl (some x0))))]) (st' := []) rfl ?_
  refine J_seg ok_X5_init 79 2 (pc' := 161) (ls' := [(1, .inl 2), (0, .inr (.inr (.inl (some x0))))]) (st' := [.inl 3, .inl 2]) rfl ?_
  refine J_ge (jat ok_X5_init 81 (pc := 161) (i := .if_icmp .ge 22) (n := 3) rfl rfl) (tgt := 183) (by decide) (fun c => absurd c (by decide)) (fun _ => ?_)
  refine J_seg ok_X5_init 82 1 (pc' := 165) (ls' := [(1, .inl 2), (0, .inr (.inr (.inl (some x0))))]) (st' := [.inr (.inr (.inl (some x0)))]) rfl ?_
  obtain ⟨v103, h104, h⟩ := Option.bind_eq_some_iff.mp h
  refine J_getR (jat ok_X5_init 83 (pc := 165) (i := .getfield 32) (n := 3) rfl rfl) fl_RX5_32 h104 ?_
  refine J_seg ok_X5_init 84 1 (pc' := 169) (ls' := [(1, .inl 2), (0, .inr (.inr (.inl (some x0))))]) (st' := [.inl 2, .inr (.inr (.inl v103))]) rfl ?_
  refine J_new (c := 4) (fs := [.inr (.inr (.inl none)), .inr (.inr (.inl none)), .inr (.inr (.inl none)), .inl 0, .inl 0]) (cs' := (56, 3355)) (jat ok_X5_init 85 (pc := 169) (i := .new 25) (n := 3) rfl rfl) rfl cl_RX5_25 it_4 in_4 tyX4 tyX4_ok df_4 rfl ⟨Nat.le_of_ble_eq_true rfl, Nat.le_of_ble_eq_true rfl⟩ ?_
  refine J_seg ok_X5_init 86 1 (pc' := 173) (ls' := [(1, .inl 2), (0, .inr (.inr (.inl (some x0))))]) (st' := [.inr (.inr (.inl (some a101.length))), .inr (.inr (.inl (some a101.length))), .inl 2, .inr (.inr (.inl v103))]) rfl ?_
  obtain ⟨q105, h106, h⟩ := Option.bind_eq_some_iff.mp h
  refine J_callI (md' := md_X4_init) (As := []) (st := [.inr (.inr (.inl (some a101.length))), .inl 2, .inr (.inr (.inl v103))]) (cs' := (59, 4093)) (jat ok_X5_init 87 (pc := 173) (i := .invokespecial 27) (n := 3) rfl rfl) (Or.inr ⟨_, mn_RX5_27⟩) yi_X4_init rfl (c_X4_init l g (d + 1) h106) (jRo_of (by decide)) (Nat.le_of_ble_eq_true rfl) ⟨Nat.le_of_ble_eq_true rfl, Nat.le_of_ble_eq_true rfl⟩ rfl rfl ?_
  obtain ⟨a107, h108, h⟩ := Option.bind_eq_some_iff.mp h
  refine J_aast (jat ok_X5_init 88 (pc := 176) (i := .aastore) (n := 1) rfl rfl) h108 ?_
  refine J_seg ok_X5_init 89 2 (pc' := 159) (ls' := [(1, .inl 3), (0, .inr (.inr (.inl (some x0))))]) (st' := []) rfl ?_
  refine J_seg ok_X5_init 79 2 (pc' := 161) (ls' := [(1, .inl 3), (0, .inr (.inr (.inl (some x0))))]) (st' := [.inl 3, .inl 3]) rfl ?_
  refine J_ge (jat ok_X5_init 81 (pc := 161) (i := .if_icmp .ge 22) (n := 3) rfl rfl) (tgt := 183) (by decide) (fun _ => ?_) (fun c => absurd (by decide) c)
  refine J_seg ok_X5_init 91 1 (pc' := 184) (ls' := [(1, .inl 3), (0, .inr (.inr (.inl (some x0))))]) (st' := [.inr (.inr (.inl (some x0)))]) rfl ?_
  obtain ⟨v109, h110, h⟩ := Option.bind_eq_some_iff.mp h
  refine J_getR (jat ok_X5_init 92 (pc := 184) (i := .getfield 28) (n := 3) rfl rfl) fl_RX5_28 h110 ?_
  refine J_seg ok_X5_init 93 1 (pc' := 188) (ls' := [(1, .inl 3), (0, .inr (.inr (.inl (some x0))))]) (st' := [.inr (.inr (.inl (some x0))), .inr (.inr (.inl v109))]) rfl ?_
  obtain ⟨v111, h112, h⟩ := Option.bind_eq_some_iff.mp h
  refine J_getR (jat ok_X5_init 94 (pc := 188) (i := .getfield 53) (n := 3) rfl rfl) fl_RX5_53 h112 ?_
  by_cases c115 : qO a107 v109 4 = true
  case neg => exact absurd ((if_neg c115).symm.trans h) (by simp)
  have h := (if_pos c115).symm.trans h
  obtain ⟨q113, h114, h⟩ := Option.bind_eq_some_iff.mp h
  refine J_callV (md' := md_X4_begin) (As := [.inr (.inr (.inl v111))]) (st := []) (cs' := (59, 4093)) (st' := []) (jat ok_X5_init 95 (pc := 191) (i := .invokevirtual 63) (n := 3) rfl rfl) ml_RX5_63 yv_X4_begin c115 (c_X4_begin l g (d + 0) h114) (jRo_of (by decide)) (Nat.le_of_ble_eq_true rfl) ⟨Nat.le_of_ble_eq_true rfl, Nat.le_of_ble_eq_true rfl⟩ rfl rfl rfl ?_
  refine J_seg ok_X5_init 96 2 (pc' := 196) (ls' := [(1, .inl 3), (0, .inr (.inr (.inl (some x0))))]) (st' := [.inr (.inl 1), .inr (.inr (.inl (some x0)))]) rfl ?_
  obtain ⟨a116, h117, h⟩ := Option.bind_eq_some_iff.mp h
  refine J_put (jat ok_X5_init 98 (pc := 196) (i := .putfield 67) (n := 3) rfl rfl) (fp_RX5_67 _) (jPV_long _) h117 ?_
  have h := Option.some.inj h
  subst h
  exact hR _ _ (jat ok_X5_init 99 (pc := 199) (i := .return_) (n := 1) rfl rfl)
theorem c_X5_init (l : Launch) (g : GX) (d : Nat) {x0 : Nat} {ah : AH} {q : Unit × AH} (h : f_X5_init x0 ah = some q) : jM l g (d + 3) md_X5_init [.inr (.inr (.inl (some x0)))] ah none q.2 :=
  jM_of (by decide) (Nat.le_of_ble_eq_true rfl) (k_X5_init d ah q h (fun pc ls hd => J_retv hd rfl rfl (Nat.le_refl _) rfl rfl))
