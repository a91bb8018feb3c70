def f_X2_mixInto_b15 (k0 : Option Nat) (s15 : Int64 × Int32) (ah : AH) : Option ((Unit × AH) ⊕ (((Int64) × AH) ⊕ ((Int64 × Int32) × AH))) :=
  (gI ah k0 2 1).bind fun v3 => if v3 ≤ s15.2 then (some (.inr (.inl (s15.1, ah)))) else (if qO ah k0 2 = true then ((f_X2_get k0 s15.2 ah).bind fun q5 => some (.inr (.inr (((31 * s15.1) + (Int32.toInt64 q5.1), s15.2 + 1), q5.2)))) else none)
set_option maxRecDepth 100000 in
set_option maxHeartbeats 4000000 in
theorem k_X2_mixInto_b15 {l : Launch} {g : GX} (d : Nat) {Q : jQ} {k0 : Option Nat} (s15 : Int64 × Int32) (ah : AH) (out : (Unit × AH) ⊕ (((Int64) × AH) ⊕ ((Int64 × Int32) × AH))) (h : f_X2_mixInto_b15 k0 s15 ah = some out) (hR : ∀ q, out = .inl q → jRetN q.1 q.2) (hX : ∀ q, out = .inr (.inl q) → J l g md_X2_mixInto (jRm (d + 2) md_X2_mixInto) Q 44 [(3, .inr (.inl q.1))] [] q.2 (0, 0)) (hN : ∀ q, out = .inr (.inr q) → J l g md_X2_mixInto (jRm (d + 2) md_X2_mixInto) Q 15 [(0, .inr (.inr (.inl k0))), (3, .inr (.inl q.1.1)), (5, .inl q.1.2)] [] q.2 (0, 0)) : J l g md_X2_mixInto (jRm (d + 2) md_X2_mixInto) Q 15 [(0, .inr (.inr (.inl k0))), (3, .inr (.inl s15.1)), (5, .inl s15.2)] [] ah (0, 0) := by
  unfold f_X2_mixInto_b15 at h
  refine J_seg ok_X2_mixInto 10 2 (pc' := 18) (ls' := [(0, .inr (.inr (.inl k0))), (3, .inr (.inl s15.1)), (5, .inl s15.2)]) (st' := [.inr (.inr (.inl k0)), .inl s15.2]) rfl ?_
  obtain ⟨v3, h4, h⟩ := Option.bind_eq_some_iff.mp h
  refine J_getI (jat ok_X2_mixInto 12 (pc := 18) (i := .getfield 21) (n := 3) rfl rfl) fl_RX2_21 h4 ?_
  refine J_ge (jat ok_X2_mixInto 13 (pc := 21) (i := .if_icmp .ge 23) (n := 3) rfl rfl) (tgt := 44) (by decide) (fun c => ?_) (fun c => ?_)
  · have h := (if_pos c).symm.trans h
    exact J_sub (ls' := [(3, .inr (.inl s15.1))]) [1] rfl (hX (s15.1, ah) (Option.some.inj h).symm)
  · have h := (if_neg c).symm.trans h
    refine J_ldc2 (jat ok_X2_mixInto 14 (pc := 24) (i := .ldc2_w 50) (n := 3) rfl rfl) lc_RX2_50 ?_
    refine J_seg ok_X2_mixInto 15 4 (pc' := 32) (ls' := [(0, .inr (.inr (.inl k0))), (3, .inr (.inl s15.1)), (5, .inl s15.2)]) (st' := [.inl s15.2, .inr (.inr (.inl k0)), .inr (.inl (31 * s15.1))]) rfl ?_
    by_cases c7 : qO ah k0 2 = true
    case neg => exact absurd ((if_neg c7).symm.trans h) (by simp)
    have h := (if_pos c7).symm.trans h
    obtain ⟨q5, h6, h⟩ := Option.bind_eq_some_iff.mp h
    refine J_callV (md' := md_X2_get) (As := [.inl s15.2]) (st := [.inr (.inl (31 * s15.1))]) (cs' := (0, 0)) (st' := [.inl q5.1, .inr (.inl (31 * s15.1))]) (jat ok_X2_mixInto 19 (pc := 32) (i := .invokevirtual 46) (n := 3) rfl rfl) ml_RX2_46 yv_X2_get c7 (c_X2_get l g (d + 0) h6) (jRo_of (by decide)) (Nat.le_of_ble_eq_true rfl) ⟨Nat.le_of_ble_eq_true rfl, Nat.le_of_ble_eq_true rfl⟩ rfl rfl rfl ?_
    refine J_seg ok_X2_mixInto 20 5 (pc' := 15) (ls' := [(5, .inl (s15.2 + 1)), (3, .inr (.inl ((31 * s15.1) + (Int32.toInt64 q5.1)))), (0, .inr (.inr (.inl k0)))]) (st' := []) rfl ?_
    exact J_sub (ls' := [(0, .inr (.inr (.inl k0))), (3, .inr (.inl ((31 * s15.1) + (Int32.toInt64 q5.1)))), (5, .inl (s15.2 + 1))]) [2, 1, 0] rfl (hN (((31 * s15.1) + (Int32.toInt64 q5.1), s15.2 + 1), q5.2) (Option.some.inj h).symm)
def f_X2_mixInto (x0 : Option Nat) (x1 : Int64) (ah : AH) : Option (Int64 × AH) :=
  (gI ah x0 2 1).bind fun v1 => (jloop (f_X2_mixInto_b15 x0) jfuel ((31 * x1) + (Int32.toInt64 v1), 0) ah).bind fun q8 => match q8 with | .inl r => none | .inr z10 => some (z10.1, z10.2)
set_option maxRecDepth 100000 in
set_option maxHeartbeats 4000000 in
theorem k_X2_mixInto {l : Launch} {g : GX} (d : Nat) {Q : jQ} {x0 : Option Nat} {x1 : Int64} (ah : AH) (out : Int64 × AH) (h : f_X2_mixInto x0 x1 ah = some out) (hR : jRetL l g md_X2_mixInto (jRm (d + 2) md_X2_mixInto) Q (0, 0) out.1 out.2) : J l g md_X2_mixInto (jRm (d + 2) md_X2_mixInto) Q 0 [(0, .inr (.inr (.inl x0))), (1, .inr (.inl x1))] [] ah (0, 0) := by
  unfold f_X2_mixInto at h
  refine J_ldc2 (jat ok_X2_mixInto 0 (pc := 0) (i := .ldc2_w 50) (n := 3) rfl rfl) lc_RX2_50 ?_
  refine J_seg ok_X2_mixInto 1 3 (pc' := 6) (ls' := [(0, .inr (.inr (.inl x0))), (1, .inr (.inl x1))]) (st' := [.inr (.inr (.inl x0)), .inr (.inl (31 * x1))]) rfl ?_
  obtain ⟨v1, h2, h⟩ := Option.bind_eq_some_iff.mp h
  refine J_getI (jat ok_X2_mixInto 4 (pc := 6) (i := .getfield 21) (n := 3) rfl rfl) fl_RX2_21 h2 ?_
  refine J_seg ok_X2_mixInto 5 5 (pc' := 15) (ls' := [(5, .inl 0), (3, .inr (.inl ((31 * x1) + (Int32.toInt64 v1)))), (0, .inr (.inr (.inl x0))), (1, .inr (.inl x1))]) (st' := []) rfl ?_
  obtain ⟨q8, h9, h⟩ := Option.bind_eq_some_iff.mp h
  refine J_sub (ls' := [(0, .inr (.inr (.inl x0))), (3, .inr (.inl ((31 * x1) + (Int32.toInt64 v1)))), (5, .inl 0)]) [2, 1, 0] rfl ?_
  refine J_loop (pE := 44) (lh := fun t11 => [(0, .inr (.inr (.inl x0))), (3, .inr (.inl t11.1)), (5, .inl t11.2)]) (lx := fun z10 => [(3, .inr (.inl z10))]) (P := jRetN) (fun s ah out hb hR hX hN => k_X2_mixInto_b15 d s ah out hb hR hX hN) jfuel ((31 * x1) + (Int32.toInt64 v1), 0) _ _ h9 (fun r e => ?_) (fun z10 e => ?_)
  · subst e
    dsimp only at h
    cases h
  · subst e
    dsimp only at h
    refine J_seg ok_X2_mixInto 25 1 (pc' := 45) (ls' := [(3, .inr (.inl z10.1))]) (st' := [.inr (.inl z10.1)]) rfl ?_
    have h := Option.some.inj h
    subst h
    exact hR _ _ (jat ok_X2_mixInto 26 (pc := 45) (i := .lreturn) (n := 1) rfl rfl)
theorem c_X2_mixInto (l : Launch) (g : GX) (d : Nat) {x0 : Option Nat} {x1 : Int64} {ah : AH} {q : Int64 × AH} (h : f_X2_mixInto x0 x1 ah = some q) : jM l g (d + 2) md_X2_mixInto [.inr (.inr (.inl x0)), .inr (.inl x1)] ah (some (.inr (.inl q.1))) q.2 :=
  jM_of (by decide) (Nat.le_of_ble_eq_true rfl) (k_X2_mixInto d ah q h (fun pc ls hd => J_retl hd rfl rfl (Nat.le_refl _) rfl rfl))
def f_X3_init (x0 : Nat) (ah : AH) : Option (Unit × AH) :=
  (sF (ah ++ [.inl (List.replicate (Int32.toNatClampNeg 6) 0)]) (some x0) 3 0 (.inr (.inr (.inl (some ah.length))))).bind fun a1 => some ((), a1)
set_option maxRecDepth 100000 in
set_option maxHeartbeats 4000000 in
theorem k_X3_init {l : Launch} {g : GX} (d : Nat) {Q : jQ} {x0 : Nat} (ah : AH) (out : Unit × AH) (h : f_X3_init x0 ah = some out) (hR : jRetV l g md_X3_init (jRm (d + 1) md_X3_init) Q (1, 6) out.1 out.2) : J l g md_X3_init (jRm (d + 1) md_X3_init) Q 0 [(0, .inr (.inr (.inl (some x0))))] [] ah (0, 0) := by
  unfold f_X3_init at h
  refine J_seg ok_X3_init 0 1 (pc' := 1) (ls' := [(0, .inr (.inr (.inl (some x0))))]) (st' := [.inr (.inr (.inl (some x0)))]) rfl ?_
  refine J_obj (jat ok_X3_init 1 (pc := 1) (i := .invokespecial 3) (n := 3) rfl rfl) mo_RX3_3 oi_i oi_c ⟨by show 1 ≤ d + 1; omega, by show 20 ≤ 64 * (d + 1); omega⟩ (Nat.le_of_ble_eq_true rfl) ?_
  refine J_seg ok_X3_init 2 2 (pc' := 7) (ls' := [(0, .inr (.inr (.inl (some x0))))]) (st' := [.inl 6, .inr (.inr (.inl (some x0)))]) rfl ?_
  refine J_newA (cs' := (1, 6)) (jat ok_X3_init 4 (pc := 7) (i := .newarray .int) (n := 2) rfl rfl) (by decide) (by decide) ac_int (by decide) ⟨Nat.le_of_ble_eq_true rfl, Nat.le_of_ble_eq_true rfl⟩ ?_
  obtain ⟨a1, h2, h⟩ := Option.bind_eq_some_iff.mp h
  refine J_put (jat ok_X3_init 5 (pc := 9) (i := .putfield 9) (n := 3) rfl rfl) fp_RX3_9_i (jPV_arr _ _) h2 ?_
  have h := Option.some.inj h
  subst h
  exact hR _ _ (jat ok_X3_init 6 (pc := 12) (i := .return_) (n := 1) rfl rfl)
theorem c_X3_init (l : Launch) (g : GX) (d : Nat) {x0 : Nat} {ah : AH} {q : Unit × AH} (h : f_X3_init x0 ah = some q) : jM l g (d + 1) md_X3_init [.inr (.inr (.inl (some x0)))] ah none q.2 :=
  jM_of (by decide) (Nat.le_of_ble_eq_true rfl) (k_X3_init d ah q h (fun pc ls hd => J_retv hd rfl rfl (Nat.le_refl _) rfl rfl))
def f_X3_faultOfFoes_b4_j59 (k0 : Option Nat) (k1 : Option Nat) (x3 : Int32) (ah : AH) : Option ((Int32 × AH) ⊕ (((Unit) × AH) ⊕ ((Int32 × Int32) × AH))) :=
  (gR ah k0 3 0).bind fun v6 => (gA ah v6 x3).bind fun v8 => some (.inl (v8, ah))
set_option maxRecDepth 100000 in
set_option maxHeartbeats 4000000 in
theorem k_X3_faultOfFoes_b4_j59 {l : Launch} {g : GX} (d : Nat) {Q : jQ} {k0 : Option Nat} {k1 : Option Nat} {x3 : Int32} (ah : AH) (out : (Int32 × AH) ⊕ (((Unit) × AH) ⊕ ((Int32 × Int32) × AH))) (h : f_X3_faultOfFoes_b4_j59 k0 k1 x3 ah = some out) (hR : ∀ q, out = .inl q → jRetI l g md_X3_faultOfFoes (jRm (d + 2) md_X3_faultOfFoes) Q (0, 0) q.1 q.2) (hX : ∀ q, out = .inr (.inl q) → J l g md_X3_faultOfFoes (jRm (d + 2) md_X3_faultOfFoes) Q 79 [] [] q.2 (0, 0)) (hN : ∀ q, out = .inr (.inr q) → J l g md_X3_faultOfFoes (jRm (d + 2) md_X3_faultOfFoes) Q 4 [(0, .inr (.inr (.inl k0))), (1, .inr (.inr (.inl k1))), (2, .inl q.1.1), (3, .inl q.1.2)] [] q.2 (0, 0)) : J l g md_X3_faultOfFoes (jRm (d + 2) md_X3_faultOfFoes) Q 59 [(0, .inr (.inr (.inl k0))), (3, .inl x3)] [] ah (0, 0) := by
  unfold f_X3_faultOfFoes_b4_j59 at h
  refine J_seg ok_X3_faultOfFoes 30 1 (pc' := 60) (ls' := [(0, .inr (.inr (.inl k0))), (3, .inl x3)]) (st' := [.inr (.inr (.inl k0))]) rfl ?_
  obtain ⟨v6, h7, h⟩ := Option.bind_eq_some_iff.mp h
  refine J_getR (jat ok_X3_faultOfFoes 31 (pc := 60) (i := .getfield 9) (n := 3) rfl rfl) fl_RX3_9 h7 ?_
  refine J_seg ok_X3_faultOfFoes 32 1 (pc' := 64) (ls' := [(0, .inr (.inr (.inl k0))), (3, .inl x3)]) (st' := [.inl x3, .inr (.inr (.inl v6))]) rfl ?_
  obtain ⟨v8, h9, h⟩ := Option.bind_eq_some_iff.mp h
  refine J_iald (jat ok_X3_faultOfFoes 33 (pc := 64) (i := .iaload) (n := 1) rfl rfl) h9 ?_
  exact hR _ (Option.some.inj h).symm _ _ (jat ok_X3_faultOfFoes 34 (pc := 65) (i := .ireturn) (n := 1) rfl rfl)
def f_X3_faultOfFoes_b4 (k0 : Option Nat) (k1 : Option Nat) (s4 : Int32 × Int32) (ah : AH) : Option ((Int32 × AH) ⊕ (((Unit) × AH) ⊕ ((Int32 × Int32) × AH))) :=
  (gI ah k1 1 5).bind fun v1 => if v1 ≤ s4.2 then (some (.inr (.inl ((), ah)))) else (if 6 ≤ s4.2 then (some (.inr (.inl ((), ah)))) else (if qO ah k1 1 = true then ((f_X1_firstVictimOf k1 s4.2 ah).bind fun q3 => if q3.1 = (-9) then (some (.inr (.inr ((s4.1, s4.2 + 1), q3.2)))) else (if q3.1 = s4.2 then (f_X3_faultOfFoes_b4_j59 k0 k1 s4.2 q3.2) else (if qO q3.2 k1 1 = true then ((f_X1_has k1 q3.1 q3.2).bind fun q10 => if q10.1 = 0 then (f_X3_faultOfFoes_b4_j59 k0 k1 s4.2 q10.2) else ((f_X5_isIn s4.1 q3.1 q10.2).bind fun q13 => if q13.1 = 0 then (some (.inr (.inr ((s4.1 ||| (1 <<< (q3.1 &&& 31)), s4.2 + 1), q13.2)))) else (f_X3_faultOfFoes_b4_j59 k0 k1 s4.2 q13.2))) else none))) else none))
set_option maxRecDepth 100000 in
set_option maxHeartbeats 4000000 in
theorem k_X3_faultOfFoes_b4 {l : Launch} {g : GX} (d : Nat) {Q : jQ} {k0 : Option Nat} {k1 : Option Nat} (s4 : Int32 × Int32) (ah : AH) (out : (Int32 × AH) ⊕ (((Unit) × AH) ⊕ ((Int32 × Int32) × AH))) (h : f_X3_faultOfFoes_b4 k0 k1 s4 ah = some out) (hR : ∀ q, out = .inl q → jRetI l g md_X3_faultOfFoes (jRm (d + 2) md_X3_faultOfFoes) Q (0, 0) q.1 q.2) (hX : ∀ q, out = .inr (.inl q) → J l g md_X3_faultOfFoes (jRm (d + 2) md_X3_faultOfFoes) Q 79 [] [] q.2 (0, 0)) (hN : ∀ q, out = .inr (.inr q) → J l g md_X3_faultOfFoes (jRm (d + 2) md_X3_faultOfFoes) Q 4 [(0, .inr (.inr (.inl k0))), (1, .inr (.inr (.inl k1))), (2, .inl q.1.1), (3, .inl q.1.2)] [] q.2 (0, 0)) : J l g md_X3_faultOfFoes (jRm (d + 2) md_X3_faultOfFoes) Q 4 [(0, .inr (.inr (.inl k0))), (1, .inr (.inr (.inl k1))), (2, .inl s4.1), (3, .inl s4.2)] [] ah (0, 0) := by
  unfold f_X3_faultOfFoes_b4 at h
  refine J_seg ok_X3_faultOfFoes 4 2 (pc' := 6) (ls' := [(0, .inr (.inr (.inl k0))), (1, .inr (.inr (.inl k1))), (2, .inl s4.1), (3, .inl s4.2)]) (st' := [.inr (.inr (.inl k1)), .inl s4.2]) rfl ?_
  obtain ⟨v1, h2, h⟩ := Option.bind_eq_some_iff.mp h
  refine J_getI (jat ok_X3_faultOfFoes 6 (pc := 6) (i := .getfield 37) (n := 3) rfl rfl) fl_RX3_37 h2 ?_
  refine J_ge (jat ok_X3_faultOfFoes 7 (pc := 9) (i := .if_icmp .ge 70) (n := 3) rfl rfl) (tgt := 79) (by decide) (fun c => ?_) (fun c => ?_)
  · have h := (if_pos c).symm.trans h
    exact J_sub (ls' := []) [] rfl (hX ((), ah) (Option.some.inj h).symm)
  · have h := (if_neg c).symm.trans h
    refine J_seg ok_X3_faultOfFoes 8 2 (pc' := 15) (ls' := [(0, .inr (.inr (.inl k0))), (1, .inr (.inr (.inl k1))), (2, .inl s4.1), (3, .inl s4.2)]) (st' := [.inl 6, .inl s4.2]) rfl ?_
    refine J_ge (jat ok_X3_faultOfFoes 10 (pc := 15) (i := .if_icmp .ge 64) (n := 3) rfl rfl) (tgt := 79) (by decide) (fun c => ?_) (fun c => ?_)
    · have h := (if_pos c).symm.trans h
      exact J_sub (ls' := []) [] rfl (hX ((), ah) (Option.some.inj h).symm)
    · have h := (if_neg c).symm.trans h
      refine J_seg ok_X3_faultOfFoes 11 2 (pc' := 20) (ls' := [(0, .inr (.inr (.inl k0))), (1, .inr (.inr (.inl k1))), (2, .inl s4.1), (3, .inl s4.2)]) (st' := [.inl s4.2, .inr (.inr (.inl k1))]) rfl ?_
      by_cases c5 : qO ah k1 1 = true
      case neg => exact absurd ((if_neg c5).symm.trans h) (by simp)
      have h := (if_pos c5).symm.trans h
      obtain ⟨q3, h4, h⟩ := Option.bind_eq_some_iff.mp h
      refine J_callV (md' := md_X1_firstVictimOf) (As := [.inl s4.2]) (st := []) (cs' := (0, 0)) (st' := [.inl q3.1]) (jat ok_X3_faultOfFoes 13 (pc := 20) (i := .invokevirtual 77) (n := 3) rfl rfl) ml_RX3_77 yv_X1_firstVictimOf c5 (c_X1_firstVictimOf l g (d + 0) h4) (jRo_of (by decide)) (Nat.le_of_ble_eq_true rfl) ⟨Nat.le_of_ble_eq_true rfl, Nat.le_of_ble_eq_true rfl⟩ rfl rfl rfl ?_
      refine J_seg ok_X3_faultOfFoes 14 3 (pc' := 29) (ls' := [(4, .inl q3.1), (0, .inr (.inr (.inl k0))), (1, .inr (.inr (.inl k1))), (2, .inl s4.1), (3, .inl s4.2)]) (st' := [.inl (-9), .inl q3.1]) rfl ?_
      refine J_ne (jat ok_X3_faultOfFoes 17 (pc := 29) (i := .if_icmp .ne 6) (n := 3) rfl rfl) (tgt := 35) (by decide) (fun c => ?_) (fun c => ?_)
      · have h := (if_neg c).symm.trans h
        refine J_seg ok_X3_faultOfFoes 19 2 (pc' := 38) (ls' := [(4, .inl q3.1), (0, .inr (.inr (.inl k0))), (1, .inr (.inr (.inl k1))), (2, .inl s4.1), (3, .inl s4.2)]) (st' := [.inl s4.2, .inl q3.1]) rfl ?_
        refine J_eq (jat ok_X3_faultOfFoes 21 (pc := 38) (i := .if_icmp .eq 21) (n := 3) rfl rfl) (tgt := 59) (by decide) (fun c => ?_) (fun c => ?_)
        · have h := (if_pos c).symm.trans h
          refine J_sub (ls' := [(0, .inr (.inr (.inl k0))), (3, .inl s4.2)]) [1, 4] rfl ?_
          exact k_X3_faultOfFoes_b4_j59 d _ _ h hR hX hN
        · have h := (if_neg c).symm.trans h
          refine J_seg ok_X3_faultOfFoes 22 2 (pc' := 44) (ls' := [(4, .inl q3.1), (0, .inr (.inr (.inl k0))), (1, .inr (.inr (.inl k1))), (2, .inl s4.1), (3, .inl s4.2)]) (st' := [.inl q3.1, .inr (.inr (.inl k1))]) rfl ?_
          by_cases c12 : qO q3.2 k1 1 = true
          case neg => exact absurd ((if_neg c12).symm.trans h) (by simp)
          have h := (if_pos c12).symm.trans h
          obtain ⟨q10, h11, h⟩ := Option.bind_eq_some_iff.mp h
          refine J_callV (md' := md_X1_has) (As := [.inl q3.1]) (st := []) (cs' := (0, 0)) (st' := [.inl q10.1]) (jat ok_X3_faultOfFoes 24 (pc := 44) (i := .invokevirtual 80) (n := 3) rfl rfl) ml_RX3_80 yv_X1_has c12 (c_X1_has l g (d + 1) h11) (jRo_of (by decide)) (Nat.le_of_ble_eq_true rfl) ⟨Nat.le_of_ble_eq_true rfl, Nat.le_of_ble_eq_true rfl⟩ rfl rfl rfl ?_
          refine J_eq0 (jat ok_X3_faultOfFoes 25 (pc := 47) (i := .ifCond .eq 12) (n := 3) rfl rfl) (tgt := 59) (by decide) (fun c => ?_) (fun c => ?_)
          · have h := (if_pos c).symm.trans h
            refine J_sub (ls' := [(0, .inr (.inr (.inl k0))), (3, .inl s4.2)]) [1, 4] rfl ?_
            exact k_X3_faultOfFoes_b4_j59 d _ _ h hR hX hN
          · have h := (if_neg c).symm.trans h
            refine J_seg ok_X3_faultOfFoes 26 2 (pc' := 53) (ls' := [(4, .inl q3.1), (0, .inr (.inr (.inl k0))), (1, .inr (.inr (.inl k1))), (2, .inl s4.1), (3, .inl s4.2)]) (st' := [.inl q3.1, .inl s4.1]) rfl ?_
            obtain ⟨q13, h14, h⟩ := Option.bind_eq_some_iff.mp h
            refine J_callS (md' := md_X5_isIn) (As := [.inl s4.1, .inl q3.1]) (st := []) (cs' := (0, 0)) (st' := [.inl q13.1]) (jat ok_X3_faultOfFoes 28 (pc := 53) (i := .invokestatic 69) (n := 3) rfl rfl) (Or.inr ⟨_, mn_RX3_69⟩) ys_X5_isIn (c_X5_isIn l g (d + 1) h14) (jRo_of (by decide)) (Nat.le_of_ble_eq_true rfl) ⟨Nat.le_of_ble_eq_true rfl, Nat.le_of_ble_eq_true rfl⟩ rfl rfl rfl ?_
            refine J_eq0 (jat ok_X3_faultOfFoes 29 (pc := 56) (i := .ifCond .eq 10) (n := 3) rfl rfl) (tgt := 66) (by decide) (fun c => ?_) (fun c => ?_)
            · have h := (if_pos c).symm.trans h
              refine J_seg ok_X3_faultOfFoes 35 8 (pc' := 4) (ls' := [(3, .inl (s4.2 + 1)), (2, .inl (s4.1 ||| (1 <<< (q3.1 &&& 31)))), (4, .inl q3.1), (0, .inr (.inr (.inl k0))), (1, .inr (.inr (.inl k1)))]) (st' := []) rfl ?_
              exact J_sub (ls' := [(0, .inr (.inr (.inl k0))), (1, .inr (.inr (.inl k1))), (2, .inl (s4.1 ||| (1 <<< (q3.1 &&& 31)))), (3, .inl (s4.2 + 1))]) [3, 4, 1, 0] rfl (hN ((s4.1 ||| (1 <<< (q3.1 &&& 31)), s4.2 + 1), q13.2) (Option.some.inj h).symm)
            · have h := (if_neg c).symm.trans h
              refine J_sub (ls' := [(0, .inr (.inr (.inl k0))), (3, .inl s4.2)]) [1, 4] rfl ?_
              exact k_X3_faultOfFoes_b4_j59 d _ _ h hR hX hN
      · have h := (if_pos c).symm.trans h
        refine J_seg ok_X3_faultOfFoes 18 1 (pc' := 73) (ls' := [(4, .inl q3.1), (0, .inr (.inr (.inl k0))), (1, .inr (.inr (.inl k1))), (2, .inl s4.1), (3, .inl s4.2)]) (st' := []) rfl ?_
        refine J_seg ok_X3_faultOfFoes 41 2 (pc' := 4) (ls' := [(3, .inl (s4.2 + 1)), (4, .inl q3.1), (0, .inr (.inr (.inl k0))), (1, .inr (.inr (.inl k1))), (2, .inl s4.1)]) (st' := []) rfl ?_
        exact J_sub (ls' := [(0, .inr (.inr (.inl k0))), (1, .inr (.inr (.inl k1))), (2, .inl s4.1), (3, .inl (s4.2 + 1))]) [2, 3, 4, 0] rfl (hN ((s4.1, s4.2 + 1), q3.2) (Option.some.inj h).symm)
def f_X3_faultOfFoes (x0 : Option Nat) (x1 : Option Nat) (ah : AH) : Option (Int32 × AH) :=
  (jloop (f_X3_faultOfFoes_b4 x0 x1) jfuel (0, 0) ah).bind fun q15 => match q15 with | .inl r => some r | .inr z17 => some ((-9), z17.2)
set_option maxRecDepth 100000 in
set_option maxHeartbeats 4000000 in
theorem k_X3_faultOfFoes {l : Launch} {g : GX} (d : Nat) {Q : jQ} {x0 : Option Nat} {x1 : Option Nat} (ah : AH) (out : Int32 × AH) (h : f_X3_faultOfFoes x0 x1 ah = some out) (hR : jRetI l g md_X3_faultOfFoes (jRm (d + 2) md_X3_faultOfFoes) Q (0, 0) out.1 out.2) : J l g md_X3_faultOfFoes (jRm (d + 2) md_X3_faultOfFoes) Q 0 [(0, .inr (.inr (.inl x0))), (1, .inr (.inr (.inl x1)))] [] ah (0, 0) := by
  unfold f_X3_faultOfFoes at h
  refine J_seg ok_X3_faultOfFoes 0 4 (pc' := 4) (ls' := [(3, .inl 0), (2, .inl 0), (0, .inr (.inr (.inl x0))), (1, .inr (.inr (.inl x1)))]) (st' := []) rfl ?_
  obtain ⟨q15, h16, h⟩ := Option.bind_eq_some_iff.mp h
  refine J_sub (ls' := [(0, .inr (.inr (.inl x0))), (1, .inr (.inr (.inl x1))), (2, .inl 0), (3, .inl 0)]) [2, 3, 1, 0] rfl ?_
  refine J_loop (pE := 79) (lh := fun t18 => [(0, .inr (.inr (.inl x0))), (1, .inr (.inr (.inl x1))), (2, .inl t18.1), (3, .inl t18.2)]) (lx := fun z17 => []) (P := jRetI l g md_X3_faultOfFoes (jRm (d + 2) md_X3_faultOfFoes) Q (0, 0)) (fun s ah out hb hR hX hN => k_X3_faultOfFoes_b4 d s ah out hb hR hX hN) jfuel (0, 0) _ _ h16 (fun r e => ?_) (fun z17 e => ?_)
  · subst e
    dsimp only at h
    have h := Option.some.inj h
    subst h
    exact hR
  · subst e
    dsimp only at h
    refine J_seg ok_X3_faultOfFoes 43 1 (pc' := 81) (ls' := []) (st' := [.inl (-9)]) rfl ?_
    have h := Option.some.inj h
    subst h
    exact hR _ _ (jat ok_X3_faultOfFoes 44 (pc := 81) (i := .ireturn) (n := 1) rfl rfl)
theorem c_X3_faultOfFoes (l : Launch) (g : GX) (d : Nat) {x0 : Option Nat} {x1 : Option Nat} {ah : AH} {q : Int32 × AH} (h : f_X3_faultOfFoes x0 x1 ah = some q) : jM l g (d + 2) md_X3_faultOfFoes [.inr (.inr (.inl x0)), .inr (.inr (.inl x1))] ah (some (.inl q.1)) q.2 :=
  jM_of (by decide) (Nat.le_of_ble_eq_true rfl) (k_X3_faultOfFoes d ah q h (fun pc ls hd => J_reti hd rfl (jPV_int _) rfl (Nat.le_refl _) rfl rfl))
def f_X3_figure (x0 : Option Nat) (x1 : Int32) (x2 : Int32) (x3 : Int32) (ah : AH) : Option (Int32 × AH) :=
  if qO ah x0 2 = true then ((f_X2_holds x0 x1 ah).bind fun q1 => if q1.1 = 0 then (some ((-1), q1.2)) else (if qO q1.2 x0 2 = true then ((f_X2_get x0 x1 q1.2).bind fun q4 => if (q4.1 - 48) < x2 then (some ((-1), q4.2)) else (if x3 < (q4.1 - 48) then (some ((-1), q4.2)) else (some (q4.1 - 48, q4.2)))) else none)) else none
set_option maxRecDepth 100000 in
set_option maxHeartbeats 4000000 in
theorem k_X3_figure {l : Launch} {g : GX} (d : Nat) {Q : jQ} {x0 : Option Nat} {x1 : Int32} {x2 : Int32} {x3 : Int32} (ah : AH) (out : Int32 × AH) (h : f_X3_figure x0 x1 x2 x3 ah = some out) (hR : jRetI l g md_X3_figure (jRm (d + 2) md_X3_figure) Q (0, 0) out.1 out.2) : J l g md_X3_figure (jRm (d + 2) md_X3_figure) Q 0 [(0, .inr (.inr (.inl x0))), (1, .inl x1), (2, .inl x2), (3, .inl x3)] [] ah (0, 0) := by
  unfold f_X3_figure at h
  refine J_seg ok_X3_figure 0 2 (pc' := 2) (ls' := [(0, .inr (.inr (.inl x0))), (1, .inl x1), (2, .inl x2), (3, .inl x3)]) (st' := [.inl x1, .inr (.inr (.inl x0))]) rfl ?_
  by_cases c3 : qO ah x0 2 = true
  case neg => exact absurd ((if_neg c3).symm.trans h) (by simp)
  have h := (if_pos c3).symm.trans h
  obtain ⟨q1, h2, h⟩ := Option.bind_eq_some_iff.mp h
  refine J_callV (md' := md_X2_holds) (As := [.inl x1]) (st := []) (cs' := (0, 0)) (st' := [.inl q1.1]) (jat ok_X3_figure 2 (pc := 2) (i := .invokevirtual 58) (n := 3) rfl rfl) ml_RX3_58 yv_X2_holds c3 (c_X2_holds l g (d + 1) h2) (jRo_of (by decide)) (Nat.le_of_ble_eq_true rfl) ⟨Nat.le_of_ble_eq_true rfl, Nat.le_of_ble_eq_true rfl⟩ rfl rfl rfl ?_
  refine J_ne0 (jat ok_X3_figure 3 (pc := 5) (i := .ifCond .ne 5) (n := 3) rfl rfl) (tgt := 10) (by decide) (fun c => ?_) (fun c => ?_)
  · have h := (if_neg c).symm.trans h
    refine J_seg ok_X3_figure 6 2 (pc' := 12) (ls' := [(0, .inr (.inr (.inl x0))), (1, .inl x1), (2, .inl x2), (3, .inl x3)]) (st' := [.inl x1, .inr (.inr (.inl x0))]) rfl ?_
    by_cases c6 : qO q1.2 x0 2 = true
    case neg => exact absurd ((if_neg c6).symm.trans h) (by simp)
    have h := (if_pos c6).symm.trans h
    obtain ⟨q4, h5, h⟩ := Option.bind_eq_some_iff.mp h
    refine J_callV (md' := md_X2_get) (As := [.inl x1]) (st := []) (cs' := (0, 0)) (st' := [.inl q4.1]) (jat ok_X3_figure 8 (pc := 12) (i := .invokevirtual 30) (n := 3) rfl rfl) ml_RX3_30 yv_X2_get c6 (c_X2_get l g (d + 0) h5) (jRo_of (by decide)) (Nat.le_of_ble_eq_true rfl) ⟨Nat.le_of_ble_eq_true rfl, Nat.le_of_ble_eq_true rfl⟩ rfl rfl rfl ?_
    refine J_seg ok_X3_figure 9 5 (pc' := 23) (ls' := [(4, .inl (q4.1 - 48)), (0, .inr (.inr (.inl x0))), (1, .inl x1), (2, .inl x2), (3, .inl x3)]) (st' := [.inl x2, .inl (q4.1 - 48)]) rfl ?_
    refine J_lt (jat ok_X3_figure 14 (pc := 23) (i := .if_icmp .lt 14) (n := 3) rfl rfl) (tgt := 37) (by decide) (fun c => ?_) (fun c => ?_)
    · have h := (if_pos c).symm.trans h
      refine J_seg ok_X3_figure 20 1 (pc' := 38) (ls' := [(4, .inl (q4.1 - 48)), (0, .inr (.inr (.inl x0))), (1, .inl x1), (2, .inl x2), (3, .inl x3)]) (st' := [.inl (-1)]) rfl ?_
      have h := Option.some.inj h
      subst h
      exact hR _ _ (jat ok_X3_figure 21 (pc := 38) (i := .ireturn) (n := 1) rfl rfl)
    · have h := (if_neg c).symm.trans h
      refine J_seg ok_X3_figure 15 2 (pc' := 29) (ls' := [(4, .inl (q4.1 - 48)), (0, .inr (.inr (.inl x0))), (1, .inl x1), (2, .inl x2), (3, .inl x3)]) (st' := [.inl x3, .inl (q4.1 - 48)]) rfl ?_
      refine J_gt (jat ok_X3_figure 17 (pc := 29) (i := .if_icmp .gt 8) (n := 3) rfl rfl) (tgt := 37) (by decide) (fun c => ?_) (fun c => ?_)
      · have h := (if_pos c).symm.trans h
        refine J_seg ok_X3_figure 20 1 (pc' := 38) (ls' := [(4, .inl (q4.1 - 48)), (0, .inr (.inr (.inl x0))), (1, .inl x1), (2, .inl x2), (3, .inl x3)]) (st' := [.inl (-1)]) rfl ?_
        have h := Option.some.inj h
        subst h
        exact hR _ _ (jat ok_X3_figure 21 (pc := 38) (i := .ireturn) (n := 1) rfl rfl)
      · have h := (if_neg c).symm.trans h
        refine J_seg ok_X3_figure 18 2 (pc' := 38) (ls' := [(4, .inl (q4.1 - 48)), (0, .inr (.inr (.inl x0))), (1, .inl x1), (2, .inl x2), (3, .inl x3)]) (st' := [.inl (q4.1 - 48)]) rfl ?_
        have h := Option.some.inj h
        subst h
        exact hR _ _ (jat ok_X3_figure 21 (pc := 38) (i := .ireturn) (n := 1) rfl rfl)
  · have h := (if_pos c).symm.trans h
    refine J_seg ok_X3_figure 4 1 (pc' := 9) (ls' := [(0, .inr (.inr (.inl x0))), (1, .inl x1), (2, .inl x2), (3, .inl x3)]) (st' := [.inl (-1)]) rfl ?_
    have h := Option.some.inj h
    subst h
    exact hR _ _ (jat ok_X3_figure 5 (pc := 9) (i := .ireturn) (n := 1) rfl rfl)
theorem c_X3_figure (l : Launch) (g : GX) (d : Nat) {x0 : Option Nat} {x1 : Int32} {x2 : Int32} {x3 : Int32} {ah : AH} {q : Int32 × AH} (h : f_X3_figure x0 x1 x2 x3 ah = some q) : jM l g (d + 2) md_X3_figure [.inr (.inr (.inl x0)), .inl x1, .inl x2, .inl x3] ah (some (.inl q.1)) q.2 :=
  jM_of (by decide) (Nat.le_of_ble_eq_true rfl) (k_X3_figure d ah q h (fun pc ls hd => J_reti hd rfl (jPV_int _) rfl (Nat.le_refl _) rfl rfl))
def f_X3_readLove (x0 : Option Nat) (x1 : Option Nat) (x2 : Int32) (x3 : Option Nat) (ah : AH) : Option (Int32 × AH) :=
  (gI ah x3 1 5).bind fun v1 => if v1 < 2 then (some (x2, ah)) else ((gI ah x3 1 6).bind fun v3 => if v3 < 8 then ((gI ah x3 1 5).bind fun v5 => (f_X3_figure x1 (x2 + 1) 0 (v5 - 1) ah).bind fun q7 => if 0 ≤ q7.1 then ((gI q7.2 x3 1 5).bind fun v9 => (f_X3_figure x1 (x2 + 2) 0 (v9 - 1) q7.2).bind fun q11 => if q11.1 < 0 then (some (x2 + 2, q11.2)) else (if q11.1 = q7.1 then (some (x2 + 2, q11.2)) else (if qO q11.2 x3 1 = true then ((f_X1_lovedBy x3 q7.1 q11.2).bind fun q13 => (f_X5_isIn q13.1 q11.1 q13.2).bind fun q16 => if q16.1 = 0 then (if qO q16.2 x3 1 = true then ((f_X1_pair x3 q7.1 q11.1 q16.2).bind fun q18 => some ((-9), q18.2)) else none) else (some (x2 + 2, q16.2))) else none))) else (some (x2 + 1, q7.2))) else (some (x2, ah)))
set_option maxRecDepth 100000 in
set_option maxHeartbeats 4000000 in
theorem k_X3_readLove {l : Launch} {g : GX} (d : Nat) {Q : jQ} {x0 : Option Nat} {x1 : Option Nat} {x2 : Int32} {x3 : Option Nat} (ah : AH) (out : Int32 × AH) (h : f_X3_readLove x0 x1 x2 x3 ah = some out) (hR : jRetI l g md_X3_readLove (jRm (d + 3) md_X3_readLove) Q (0, 0) out.1 out.2) : J l g md_X3_readLove (jRm (d + 3) md_X3_readLove) Q 0 [(0, .inr (.inr (.inl x0))), (1, .inr (.inr (.inl x1))), (2, .inl x2), (3, .inr (.inr (.inl x3)))] [] ah (0, 0) := by
  unfold f_X3_readLove at h
  refine J_seg ok_X3_readLove 0 1 (pc' := 1) (ls' := [(0, .inr (.inr (.inl x0))), (1, .inr (.inr (.inl x1))), (2, .inl x2), (3, .inr (.inr (.inl x3)))]) (st' := [.inr (.inr (.inl x3))]) rfl ?_
  obtain ⟨v1, h2, h⟩ := Option.bind_eq_some_iff.mp h
  refine J_getI (jat ok_X3_readLove 1 (pc := 1) (i := .getfield 37) (n := 3) rfl rfl) fl_RX3_37 h2 ?_
  refine J_seg ok_X3_readLove 2 1 (pc' := 5) (ls' := [(0, .inr (.inr (.inl x0))), (1, .inr (.inr (.inl x1))), (2, .inl x2), (3, .inr (.inr (.inl x3)))]) (st' := [.inl 2, .inl v1]) rfl ?_
  refine J_lt (jat ok_X3_readLove 3 (pc := 5) (i := .if_icmp .lt 12) (n := 3) rfl rfl) (tgt := 17) (by decide) (fun c => ?_) (fun c => ?_)
  · have h := (if_pos c).symm.trans h
    refine J_seg ok_X3_readLove 8 1 (pc' := 18) (ls' := [(0, .inr (.inr (.inl x0))), (1, .inr (.inr (.inl x1))), (2, .inl x2), (3, .inr (.inr (.inl x3)))]) (st' := [.inl x2]) rfl ?_
    have h := Option.some.inj h
    subst h
    exact hR _ _ (jat ok_X3_readLove 9 (pc := 18) (i := .ireturn) (n := 1) rfl rfl)
  · have h := (if_neg c).symm.trans h
    refine J_seg ok_X3_readLove 4 1 (pc' := 9) (ls' := [(0, .inr (.inr (.inl x0))), (1, .inr (.inr (.inl x1))), (2, .inl x2), (3, .inr (.inr (.inl x3)))]) (st' := [.inr (.inr (.inl x3))]) rfl ?_
    obtain ⟨v3, h4, h⟩ := Option.bind_eq_some_iff.mp h
    refine J_getI (jat ok_X3_readLove 5 (pc := 9) (i := .getfield 51) (n := 3) rfl rfl) fl_RX3_51 h4 ?_
    refine J_seg ok_X3_readLove 6 1 (pc' := 14) (ls' := [(0, .inr (.inr (.inl x0))), (1, .inr (.inr (.inl x1))), (2, .inl x2), (3, .inr (.inr (.inl x3)))]) (st' := [.inl 8, .inl v3]) rfl ?_
    refine J_lt (jat ok_X3_readLove 7 (pc := 14) (i := .if_icmp .lt 5) (n := 3) rfl rfl) (tgt := 19) (by decide) (fun c => ?_) (fun c => ?_)
    · have h := (if_pos c).symm.trans h
      refine J_seg ok_X3_readLove 10 6 (pc' := 25) (ls' := [(0, .inr (.inr (.inl x0))), (1, .inr (.inr (.inl x1))), (2, .inl x2), (3, .inr (.inr (.inl x3)))]) (st' := [.inr (.inr (.inl x3)), .inl 0, .inl (x2 + 1), .inr (.inr (.inl x1))]) rfl ?_
      obtain ⟨v5, h6, h⟩ := Option.bind_eq_some_iff.mp h
      refine J_getI (jat ok_X3_readLove 16 (pc := 25) (i := .getfield 37) (n := 3) rfl rfl) fl_RX3_37 h6 ?_
      refine J_seg ok_X3_readLove 17 2 (pc' := 30) (ls' := [(0, .inr (.inr (.inl x0))), (1, .inr (.inr (.inl x1))), (2, .inl x2), (3, .inr (.inr (.inl x3)))]) (st' := [.inl (v5 - 1), .inl 0, .inl (x2 + 1), .inr (.inr (.inl x1))]) rfl ?_
      obtain ⟨q7, h8, h⟩ := Option.bind_eq_some_iff.mp h
      refine J_callS (md' := md_X3_figure) (As := [.inr (.inr (.inl x1)), .inl (x2 + 1), .inl 0, .inl (v5 - 1)]) (st := []) (cs' := (0, 0)) (st' := [.inl q7.1]) (jat ok_X3_readLove 19 (pc := 30) (i := .invokestatic 54) (n := 3) rfl rfl) (Or.inl ml_RX3_54) ys_X3_figure (c_X3_figure l g (d + 0) h8) (jRo_of (by decide)) (Nat.le_of_ble_eq_true rfl) ⟨Nat.le_of_ble_eq_true rfl, Nat.le_of_ble_eq_true rfl⟩ rfl rfl rfl ?_
      refine J_seg ok_X3_readLove 20 2 (pc' := 37) (ls' := [(4, .inl q7.1), (0, .inr (.inr (.inl x0))), (1, .inr (.inr (.inl x1))), (2, .inl x2), (3, .inr (.inr (.inl x3)))]) (st' := [.inl q7.1]) rfl ?_
      refine J_ge0 (jat ok_X3_readLove 22 (pc := 37) (i := .ifCond .ge 7) (n := 3) rfl rfl) (tgt := 44) (by decide) (fun c => ?_) (fun c => ?_)
      · have h := (if_pos c).symm.trans h
        refine J_seg ok_X3_readLove 27 6 (pc' := 50) (ls' := [(4, .inl q7.1), (0, .inr (.inr (.inl x0))), (1, .inr (.inr (.inl x1))), (2, .inl x2), (3, .inr (.inr (.inl x3)))]) (st' := [.inr (.inr (.inl x3)), .inl 0, .inl (x2 + 2), .inr (.inr (.inl x1))]) rfl ?_
        obtain ⟨v9, h10, h⟩ := Option.bind_eq_some_iff.mp h
        refine J_getI (jat ok_X3_readLove 33 (pc := 50) (i := .getfield 37) (n := 3) rfl rfl) fl_RX3_37 h10 ?_
        refine J_seg ok_X3_readLove 34 2 (pc' := 55) (ls' := [(4, .inl q7.1), (0, .inr (.inr (.inl x0))), (1, .inr (.inr (.inl x1))), (2, .inl x2), (3, .inr (.inr (.inl x3)))]) (st' := [.inl (v9 - 1), .inl 0, .inl (x2 + 2), .inr (.inr (.inl x1))]) rfl ?_
        obtain ⟨q11, h12, h⟩ := Option.bind_eq_some_iff.mp h
        refine J_callS (md' := md_X3_figure) (As := [.inr (.inr (.inl x1)), .inl (x2 + 2), .inl 0, .inl (v9 - 1)]) (st := []) (cs' := (0, 0)) (st' := [.inl q11.1]) (jat ok_X3_readLove 36 (pc := 55) (i := .invokestatic 54) (n := 3) rfl rfl) (Or.inl ml_RX3_54) ys_X3_figure (c_X3_figure l g (d + 0) h12) (jRo_of (by decide)) (Nat.le_of_ble_eq_true rfl) ⟨Nat.le_of_ble_eq_true rfl, Nat.le_of_ble_eq_true rfl⟩ rfl rfl rfl ?_
        refine J_seg ok_X3_readLove 37 2 (pc' := 62) (ls' := [(5, .inl q11.1), (4, .inl q7.1), (0, .inr (.inr (.inl x0))), (1, .inr (.inr (.inl x1))), (2, .inl x2), (3, .inr (.inr (.inl x3)))]) (st' := [.inl q11.1]) rfl ?_
        refine J_lt0 (jat ok_X3_readLove 39 (pc := 62) (i := .ifCond .lt 24) (n := 3) rfl rfl) (tgt := 86) (by decide) (fun c => ?_) (fun c => ?_)
        · have h := (if_pos c).symm.trans h
          refine J_seg ok_X3_readLove 49 3 (pc' := 89) (ls' := [(5, .inl q11.1), (4, .inl q7.1), (0, .inr (.inr (.inl x0))), (1, .inr (.inr (.inl x1))), (2, .inl x2), (3, .inr (.inr (.inl x3)))]) (st' := [.inl (x2 + 2)]) rfl ?_
          have h := Option.some.inj h
          subst h
          exact hR _ _ (jat ok_X3_readLove 52 (pc := 89) (i := .ireturn) (n := 1) rfl rfl)
        · have h := (if_neg c).symm.trans h
          refine J_seg ok_X3_readLove 40 2 (pc' := 69) (ls' := [(5, .inl q11.1), (4, .inl q7.1), (0, .inr (.inr (.inl x0))), (1, .inr (.inr (.inl x1))), (2, .inl x2), (3, .inr (.inr (.inl x3)))]) (st' := [.inl q7.1, .inl q11.1]) rfl ?_
          refine J_eq (jat ok_X3_readLove 42 (pc := 69) (i := .if_icmp .eq 17) (n := 3) rfl rfl) (tgt := 86) (by decide) (fun c => ?_) (fun c => ?_)
          · have h := (if_pos c).symm.trans h
            refine J_seg ok_X3_readLove 49 3 (pc' := 89) (ls' := [(5, .inl q11.1), (4, .inl q7.1), (0, .inr (.inr (.inl x0))), (1, .inr (.inr (.inl x1))), (2, .inl x2), (3, .inr (.inr (.inl x3)))]) (st' := [.inl (x2 + 2)]) rfl ?_
            have h := Option.some.inj h
            subst h
            exact hR _ _ (jat ok_X3_readLove 52 (pc := 89) (i := .ireturn) (n := 1) rfl rfl)
          · have h := (if_neg c).symm.trans h
            refine J_seg ok_X3_readLove 43 2 (pc' := 75) (ls' := [(5, .inl q11.1), (4, .inl q7.1), (0, .inr (.inr (.inl x0))), (1, .inr (.inr (.inl x1))), (2, .inl x2), (3, .inr (.inr (.inl x3)))]) (st' := [.inl q7.1, .inr (.inr (.inl x3))]) rfl ?_
            by_cases c15 : qO q11.2 x3 1 = true
            case neg => exact absurd ((if_neg c15).symm.trans h) (by simp)
            have h := (if_pos c15).symm.trans h
            obtain ⟨q13, h14, h⟩ := Option.bind_eq_some_iff.mp h
            refine J_callV (md' := md_X1_lovedBy) (As := [.inl q7.1]) (st := []) (cs' := (0, 0)) (st' := [.inl q13.1]) (jat ok_X3_readLove 45 (pc := 75) (i := .invokevirtual 66) (n := 3) rfl rfl) ml_RX3_66 yv_X1_lovedBy c15 (c_X1_lovedBy l g (d + 1) h14) (jRo_of (by decide)) (Nat.le_of_ble_eq_true rfl) ⟨Nat.le_of_ble_eq_true rfl, Nat.le_of_ble_eq_true rfl⟩ rfl rfl rfl ?_
            refine J_seg ok_X3_readLove 46 1 (pc' := 80) (ls' := [(5, .inl q11.1), (4, .inl q7.1), (0, .inr (.inr (.inl x0))), (1, .inr (.inr (.inl x1))), (2, .inl x2), (3, .inr (.inr (.inl x3)))]) (st' := [.inl q11.1, .inl q13.1]) rfl ?_
            obtain ⟨q16, h17, h⟩ := Option.bind_eq_some_iff.mp h
            refine J_callS (md' := md_X5_isIn) (As := [.inl q13.1, .inl q11.1]) (st := []) (cs' := (0, 0)) (st' := [.inl q16.1]) (jat ok_X3_readLove 47 (pc := 80) (i := .invokestatic 69) (n := 3) rfl rfl) (Or.inr ⟨_, mn_RX3_69⟩) ys_X5_isIn (c_X5_isIn l g (d + 2) h17) (jRo_of (by decide)) (Nat.le_of_ble_eq_true rfl) ⟨Nat.le_of_ble_eq_true rfl, Nat.le_of_ble_eq_true rfl⟩ rfl rfl rfl ?_
            refine J_eq0 (jat ok_X3_readLove 48 (pc := 83) (i := .ifCond .eq 7) (n := 3) rfl rfl) (tgt := 90) (by decide) (fun c => ?_) (fun c => ?_)
            · have h := (if_pos c).symm.trans h
              refine J_seg ok_X3_readLove 53 3 (pc' := 95) (ls' := [(5, .inl q11.1), (4, .inl q7.1), (0, .inr (.inr (.inl x0))), (1, .inr (.inr (.inl x1))), (2, .inl x2), (3, .inr (.inr (.inl x3)))]) (st' := [.inl q11.1, .inl q7.1, .inr (.inr (.inl x3))]) rfl ?_
              by_cases c20 : qO q16.2 x3 1 = true
              case neg => exact absurd ((if_neg c20).symm.trans h) (by simp)
              have h := (if_pos c20).symm.trans h
              obtain ⟨q18, h19, h⟩ := Option.bind_eq_some_iff.mp h
              refine J_callV (md' := md_X1_pair) (As := [.inl q7.1, .inl q11.1]) (st := []) (cs' := (0, 0)) (st' := []) (jat ok_X3_readLove 56 (pc := 95) (i := .invokevirtual 73) (n := 3) rfl rfl) ml_RX3_73 yv_X1_pair c20 (c_X1_pair l g (d + 1) h19) (jRo_of (by decide)) (Nat.le_of_ble_eq_true rfl) ⟨Nat.le_of_ble_eq_true rfl, Nat.le_of_ble_eq_true rfl⟩ rfl rfl rfl ?_
              refine J_seg ok_X3_readLove 57 1 (pc' := 100) (ls' := [(5, .inl q11.1), (4, .inl q7.1), (0, .inr (.inr (.inl x0))), (1, .inr (.inr (.inl x1))), (2, .inl x2), (3, .inr (.inr (.inl x3)))]) (st' := [.inl (-9)]) rfl ?_
              have h := Option.some.inj h
              subst h
              exact hR _ _ (jat ok_X3_readLove 58 (pc := 100) (i := .ireturn) (n := 1) rfl rfl)
            · have h := (if_neg c).symm.trans h
              refine J_seg ok_X3_readLove 49 3 (pc' := 89) (ls' := [(5, .inl q11.1), (4, .inl q7.1), (0, .inr (.inr (.inl x0))), (1, .inr (.inr (.inl x1))), (2, .inl x2), (3, .inr (.inr (.inl x3)))]) (st' := [.inl (x2 + 2)]) rfl ?_
              have h := Option.some.inj h
              subst h
              exact hR _ _ (jat ok_X3_readLove 52 (pc := 89) (i := .ireturn) (n := 1) rfl rfl)
      · have h := (if_neg c).symm.trans h
        refine J_seg ok_X3_readLove 23 3 (pc' := 43) (ls' := [(4, .inl q7.1), (0, .inr (.inr (.inl x0))), (1, .inr (.inr (.inl x1))), (2, .inl x2), (3, .inr (.inr (.inl x3)))]) (st' := [.inl (x2 + 1)]) rfl ?_
        have h := Option.some.inj h
        subst h
        exact hR _ _ (jat ok_X3_readLove 26 (pc := 43) (i := .ireturn) (n := 1) rfl rfl)
    · have h := (if_neg c).symm.trans h
      refine J_seg ok_X3_readLove 8 1 (pc' := 18) (ls' := [(0, .inr (.inr (.inl x0))), (1, .inr (.inr (.inl x1))), (2, .inl x2), (3, .inr (.inr (.inl x3)))]) (st' := [.inl x2]) rfl ?_
      have h := Option.some.inj h
      subst h
      exact hR _ _ (jat ok_X3_readLove 9 (pc := 18) (i := .ireturn) (n := 1) rfl rfl)
theorem c_X3_readLove (l : Launch) (g : GX) (d : Nat) {x0 : Option Nat} {x1 : Option Nat} {x2 : Int32} {x3 : Option Nat} {ah : AH} {q : Int32 × AH} (h : f_X3_readLove x0 x1 x2 x3 ah = some q) : jM l g (d + 3) md_X3_readLove [.inr (.inr (.inl x0)), .inr (.inr (.inl x1)), .inl x2, .inr (.inr (.inl x3))] ah (some (.inl q.1)) q.2 :=
  jM_of (by decide) (Nat.le_of_ble_eq_true rfl) (k_X3_readLove d ah q h (fun pc ls hd => J_reti hd rfl (jPV_int _) rfl (Nat.le_refl _) rfl rfl))
def f_X3_kindBy_b2 (k0 : Int32) (s2 : Int32) (ah : AH) : Option ((Int32 × AH) ⊕ (((Unit) × AH) ⊕ ((Int32) × AH))) :=
  if 6 ≤ s2 then (some (.inr (.inl ((), ah)))) else ((gT s2).bind fun v1 => if v1 = k0 then (some (.inl (s2, ah))) else (some (.inr (.inr (s2 + 1, ah)))))
set_option maxRecDepth 100000 in
set_option maxHeartbeats 4000000 in
theorem k_X3_kindBy_b2 {l : Launch} {g : GX} (d : Nat) {Q : jQ} {k0 : Int32} (s2 : Int32) (ah : AH) (out : (Int32 × AH) ⊕ (((Unit) × AH) ⊕ ((Int32) × AH))) (h : f_X3_kindBy_b2 k0 s2 ah = some out) (hR : ∀ q, out = .inl q → jRetI l g md_X3_kindBy (jRm (d + 0) md_X3_kindBy) Q (0, 0) q.1 q.2) (hX : ∀ q, out = .inr (.inl q) → J l g md_X3_kindBy (jRm (d + 0) md_X3_kindBy) Q 27 [] [] q.2 (0, 0)) (hN : ∀ q, out = .inr (.inr q) → J l g md_X3_kindBy (jRm (d + 0) md_X3_kindBy) Q 2 [(0, .inl k0), (1, .inl q.1)] [] q.2 (0, 0)) : J l g md_X3_kindBy (jRm (d + 0) md_X3_kindBy) Q 2 [(0, .inl k0), (1, .inl s2)] [] ah (0, 0) := by
  unfold f_X3_kindBy_b2 at h
  refine J_seg ok_X3_kindBy 2 1 (pc' := 3) (ls' := [(0, .inl k0), (1, .inl s2)]) (st' := [.inl s2]) rfl ?_
  refine J_gets (jat ok_X3_kindBy 3 (pc := 3) (i := .getstatic 83) (n := 3) rfl rfl) gs_RX3_83 ?_
  refine J_tlen (jat ok_X3_kindBy 4 (pc := 6) (i := .arraylength) (n := 1) rfl rfl) ?_
  refine J_ge (jat ok_X3_kindBy 5 (pc := 7) (i := .if_icmp .ge 20) (n := 3) rfl rfl) (tgt := 27) (by decide) (fun c => ?_) (fun c => ?_)
  · have h := (if_pos c).symm.trans h
    exact J_sub (ls' := []) [] rfl (hX ((), ah) (Option.some.inj h).symm)
  · have h := (if_neg c).symm.trans h
    refine J_gets (jat ok_X3_kindBy 6 (pc := 10) (i := .getstatic 83) (n := 3) rfl rfl) gs_RX3_83 ?_
    refine J_seg ok_X3_kindBy 7 1 (pc' := 14) (ls' := [(0, .inl k0), (1, .inl s2)]) (st' := [.inl s2, .inr (.inr (.inr true))]) rfl ?_
    obtain ⟨v1, h2, h⟩ := Option.bind_eq_some_iff.mp h
    refine J_tget (jat ok_X3_kindBy 8 (pc := 14) (i := .iaload) (n := 1) rfl rfl) h2 ?_
    refine J_seg ok_X3_kindBy 9 1 (pc' := 16) (ls' := [(0, .inl k0), (1, .inl s2)]) (st' := [.inl k0, .inl v1]) rfl ?_
    refine J_ne (jat ok_X3_kindBy 10 (pc := 16) (i := .if_icmp .ne 5) (n := 3) rfl rfl) (tgt := 21) (by decide) (fun c => ?_) (fun c => ?_)
    · have h := (if_neg c).symm.trans h
      refine J_seg ok_X3_kindBy 13 2 (pc' := 2) (ls' := [(1, .inl (s2 + 1)), (0, .inl k0)]) (st' := []) rfl ?_
      exact J_sub (ls' := [(0, .inl k0), (1, .inl (s2 + 1))]) [1, 0] rfl (hN (s2 + 1, ah) (Option.some.inj h).symm)
    · have h := (if_pos c).symm.trans h
      refine J_seg ok_X3_kindBy 11 1 (pc' := 20) (ls' := [(0, .inl k0), (1, .inl s2)]) (st' := [.inl s2]) rfl ?_
      exact hR _ (Option.some.inj h).symm _ _ (jat ok_X3_kindBy 12 (pc := 20) (i := .ireturn) (n := 1) rfl rfl)
def f_X3_kindBy (x0 : Int32) (ah : AH) : Option (Int32 × AH) :=
  (jloop (f_X3_kindBy_b2 x0) jfuel 0 ah).bind fun q3 => match q3 with | .inl r => some r | .inr z5 => some ((-1), z5.2)
set_option maxRecDepth 100000 in
set_option maxHeartbeats 4000000 in
theorem k_X3_kindBy {l : Launch} {g : GX} (d : Nat) {Q : jQ} {x0 : Int32} (ah : AH) (out : Int32 × AH) (h : f_X3_kindBy x0 ah = some out) (hR : jRetI l g md_X3_kindBy (jRm (d + 0) md_X3_kindBy) Q (0, 0) out.1 out.2) : J l g md_X3_kindBy (jRm (d + 0) md_X3_kindBy) Q 0 [(0, .inl x0)] [] ah (0, 0) := by
  unfold f_X3_kindBy at h
  refine J_seg ok_X3_kindBy 0 2 (pc' := 2) (ls' := [(1, .inl 0), (0, .inl x0)]) (st' := []) rfl ?_
  obtain ⟨q3, h4, h⟩ := Option.bind_eq_some_iff.mp h
  refine J_sub (ls' := [(0, .inl x0), (1, .inl 0)]) [1, 0] rfl ?_
  refine J_loop (pE := 27) (lh := fun t6 => [(0, .inl x0), (1, .inl t6)]) (lx := fun z5 => []) (P := jRetI l g md_X3_kindBy (jRm (d + 0) md_X3_kindBy) Q (0, 0)) (fun s ah out hb hR hX hN => k_X3_kindBy_b2 d s ah out hb hR hX hN) jfuel 0 _ _ h4 (fun r e => ?_) (fun z5 e => ?_)
  · subst e
    dsimp only at h
    have h := Option.some.inj h
    subst h
    exact hR
  · subst e
    dsimp only at h
    refine J_seg ok_X3_kindBy 15 1 (pc' := 28) (ls' := []) (st' := [.inl (-1)]) rfl ?_
    have h := Option.some.inj h
    subst h
    exact hR _ _ (jat ok_X3_kindBy 16 (pc := 28) (i := .ireturn) (n := 1) rfl rfl)
theorem c_X3_kindBy (l : Launch) (g : GX) (d : Nat) {x0 : Int32} {ah : AH} {q : Int32 × AH} (h : f_X3_kindBy x0 ah = some q) : jM l g (d + 0) md_X3_kindBy [.inl x0] ah (some (.inl q.1)) q.2 :=
  jM_of (by decide) (Nat.le_of_ble_eq_true rfl) (k_X3_kindBy d ah q h (fun pc ls hd => J_reti hd rfl (jPV_int _) rfl (Nat.le_refl _) rfl rfl))
def f_X3_readPerson_j167 (x3 : Option Nat) (x4 : Int32) (x5 : Int32) (x6 : Int32) (x8 : Int32) (ah : AH) : Option (Int32 × AH) :=
  if qO ah x3 1 = true then ((f_X1_join x3 x4 x5 x6 x8 ah).bind fun q21 => some ((-9), q21.2)) else none
set_option maxRecDepth 100000 in
set_option maxHeartbeats 4000000 in
theorem k_X3_readPerson_j167 {l : Launch} {g : GX} (d : Nat) {Q : jQ} {x3 : Option Nat} {x4 : Int32} {x5 : Int32} {x6 : Int32} {x8 : Int32} (ah : AH) (out : Int32 × AH) (h : f_X3_readPerson_j167 x3 x4 x5 x6 x8 ah = some out) (hR : jRetI l g md_X3_readPerson (jRm (d + 3) md_X3_readPerson) Q (0, 0) out.1 out.2) : J l g md_X3_readPerson (jRm (d + 3) md_X3_readPerson) Q 167 [(3, .inr (.inr (.inl x3))), (4, .inl x4), (5, .inl x5), (6, .inl x6), (8, .inl x8)] [] ah (0, 0) := by
  unfold f_X3_readPerson_j167 at h
  refine J_seg ok_X3_readPerson 96 5 (pc' := 176) (ls' := [(3, .inr (.inr (.inl x3))), (4, .inl x4), (5, .inl x5), (6, .inl x6), (8, .inl x8)]) (st' := [.inl x8, .inl x6, .inl x5, .inl x4, .inr (.inr (.inl x3))]) rfl ?_
  by_cases c23 : qO ah x3 1 = true
  case neg => exact absurd ((if_neg c23).symm.trans h) (by simp)
  have h := (if_pos c23).symm.trans h
  obtain ⟨q21, h22, h⟩ := Option.bind_eq_some_iff.mp h
  refine J_callV (md' := md_X1_join) (As := [.inl x4, .inl x5, .inl x6, .inl x8]) (st := []) (cs' := (0, 0)) (st' := []) (jat ok_X3_readPerson 101 (pc := 176) (i := .invokevirtual 62) (n := 3) rfl rfl) ml_RX3_62 yv_X1_join c23 (c_X1_join l g (d + 2) h22) (jRo_of (by decide)) (Nat.le_of_ble_eq_true rfl) ⟨Nat.le_of_ble_eq_true rfl, Nat.le_of_ble_eq_true rfl⟩ rfl rfl rfl ?_
  refine J_seg ok_X3_readPerson 102 1 (pc' := 181) (ls' := [(3, .inr (.inr (.inl x3))), (4, .inl x4), (5, .inl x5), (6, .inl x6), (8, .inl x8)]) (st' := [.inl (-9)]) rfl ?_
  have h := Option.some.inj h
  subst h
  exact hR _ _ (jat ok_X3_readPerson 103 (pc := 181) (i := .ireturn) (n := 1) rfl rfl)
def f_X3_readPerson_j139 (x0 : Option Nat) (x2 : Int32) (x3 : Option Nat) (x4 : Int32) (x5 : Int32) (x6 : Int32) (x8 : Int32) (ah : AH) : Option (Int32 × AH) :=
  (gI ah x3 1 5).bind fun v19 => if v19 < 0 then (f_X3_readPerson_j167 x3 x4 x5 x6 x8 ah) else ((gI ah x3 1 5).bind fun v24 => if 6 ≤ v24 then (f_X3_readPerson_j167 x3 x4 x5 x6 x8 ah) else ((gR ah x0 3 0).bind fun v26 => (gI ah x3 1 5).bind fun v28 => (sA ah v26 v28 (x2 + 3)).bind fun a30 => f_X3_readPerson_j167 x3 x4 x5 x6 x8 a30))
set_option maxRecDepth 100000 in
set_option maxHeartbeats 4000000 in
theorem k_X3_readPerson_j139 {l : Launch} {g : GX} (d : Nat) {Q : jQ} {x0 : Option Nat} {x2 : Int32} {x3 : Option Nat} {x4 : Int32} {x5 : Int32} {x6 : Int32} {x8 : Int32} (ah : AH) (out : Int32 × AH) (h : f_X3_readPerson_j139 x0 x2 x3 x4 x5 x6 x8 ah = some out) (hR : jRetI l g md_X3_readPerson (jRm (d + 3) md_X3_readPerson) Q (0, 0) out.1 out.2) : J l g md_X3_readPerson (jRm (d + 3) md_X3_readPerson) Q 139 [(0, .inr (.inr (.inl x0))), (2, .inl x2), (3, .inr (.inr (.inl x3))), (4, .inl x4), (5, .inl x5), (6, .inl x6), (8, .inl x8)] [] ah (0, 0) := by
  unfold f_X3_readPerson_j139 at h
  refine J_seg ok_X3_readPerson 81 1 (pc' := 140) (ls' := [(0, .inr (.inr (.inl x0))), (2, .inl x2), (3, .inr (.inr (.inl x3))), (4, .inl x4), (5, .inl x5), (6, .inl x6), (8, .inl x8)]) (st' := [.inr (.inr (.inl x3))]) rfl ?_
  obtain ⟨v19, h20, h⟩ := Option.bind_eq_some_iff.mp h
  refine J_getI (jat ok_X3_readPerson 82 (pc := 140) (i := .getfield 37) (n := 3) rfl rfl) fl_RX3_37 h20 ?_
  refine J_lt0 (jat ok_X3_readPerson 83 (pc := 143) (i := .ifCond .lt 24) (n := 3) rfl rfl) (tgt := 167) (by decide) (fun c => ?_) (fun c => ?_)
  · have h := (if_pos c).symm.trans h
    refine J_sub (ls' := [(3, .inr (.inr (.inl x3))), (4, .inl x4), (5, .inl x5), (6, .inl x6), (8, .inl x8)]) [2, 3, 4, 5, 6] rfl ?_
    exact k_X3_readPerson_j167 d _ _ h hR
  · have h := (if_neg c).symm.trans h
    refine J_seg ok_X3_readPerson 84 1 (pc' := 147) (ls' := [(0, .inr (.inr (.inl x0))), (2, .inl x2), (3, .inr (.inr (.inl x3))), (4, .inl x4), (5, .inl x5), (6, .inl x6), (8, .inl x8)]) (st' := [.inr (.inr (.inl x3))]) rfl ?_
    obtain ⟨v24, h25, h⟩ := Option.bind_eq_some_iff.mp h
    refine J_getI (jat ok_X3_readPerson 85 (pc := 147) (i := .getfield 37) (n := 3) rfl rfl) fl_RX3_37 h25 ?_
    refine J_seg ok_X3_readPerson 86 1 (pc' := 152) (ls' := [(0, .inr (.inr (.inl x0))), (2, .inl x2), (3, .inr (.inr (.inl x3))), (4, .inl x4), (5, .inl x5), (6, .inl x6), (8, .inl x8)]) (st' := [.inl 6, .inl v24]) rfl ?_
    refine J_ge (jat ok_X3_readPerson 87 (pc := 152) (i := .if_icmp .ge 15) (n := 3) rfl rfl) (tgt := 167) (by decide) (fun c => ?_) (fun c => ?_)
    · have h := (if_pos c).symm.trans h
      refine J_sub (ls' := [(3, .inr (.inr (.inl x3))), (4, .inl x4), (5, .inl x5), (6, .inl x6), (8, .inl x8)]) [2, 3, 4, 5, 6] rfl ?_
      exact k_X3_readPerson_j167 d _ _ h hR
    · have h := (if_neg c).symm.trans h
      refine J_seg ok_X3_readPerson 88 1 (pc' := 156) (ls' := [(0, .inr (.inr (.inl x0))), (2, .inl x2), (3, .inr (.inr (.inl x3))), (4, .inl x4), (5, .inl x5), (6, .inl x6), (8, .inl x8)]) (st' := [.inr (.inr (.inl x0))]) rfl ?_
      obtain ⟨v26, h27, h⟩ := Option.bind_eq_some_iff.mp h
      refine J_getR (jat ok_X3_readPerson 89 (pc := 156) (i := .getfield 9) (n := 3) rfl rfl) fl_RX3_9 h27 ?_
      refine J_seg ok_X3_readPerson 90 1 (pc' := 160) (ls' := [(0, .inr (.inr (.inl x0))), (2, .inl x2), (3, .inr (.inr (.inl x3))), (4, .inl x4), (5, .inl x5), (6, .inl x6), (8, .inl x8)]) (st' := [.inr (.inr (.inl x3)), .inr (.inr (.inl v26))]) rfl ?_
      obtain ⟨v28, h29, h⟩ := Option.bind_eq_some_iff.mp h
      refine J_getI (jat ok_X3_readPerson 91 (pc := 160) (i := .getfield 37) (n := 3) rfl rfl) fl_RX3_37 h29 ?_
      refine J_seg ok_X3_readPerson 92 3 (pc' := 166) (ls' := [(0, .inr (.inr (.inl x0))), (2, .inl x2), (3, .inr (.inr (.inl x3))), (4, .inl x4), (5, .inl x5), (6, .inl x6), (8, .inl x8)]) (st' := [.inl (x2 + 3), .inl v28, .inr (.inr (.inl v26))]) rfl ?_
      obtain ⟨a30, h31, h⟩ := Option.bind_eq_some_iff.mp h
      refine J_iast (jat ok_X3_readPerson 95 (pc := 166) (i := .iastore) (n := 1) rfl rfl) h31 ?_
      refine J_sub (ls' := [(3, .inr (.inr (.inl x3))), (4, .inl x4), (5, .inl x5), (6, .inl x6), (8, .inl x8)]) [2, 3, 4, 5, 6] rfl ?_
      exact k_X3_readPerson_j167 d _ _ h hR
def f_X3_readPerson_j123 (x0 : Option Nat) (x2 : Int32) (x3 : Option Nat) (x4 : Int32) (x5 : Int32) (x6 : Int32) (x7 : Int32) (y0 : Int32) (ah : AH) : Option (Int32 × AH) :=
  if x7 = 0 then (if 0 ≤ y0 then (f_X3_readPerson_j139 x0 x2 x3 x4 x5 x6 y0 ah) else (some (x2 + 3, ah))) else (f_X3_readPerson_j139 x0 x2 x3 x4 x5 x6 y0 ah)
set_option maxRecDepth 100000 in
set_option maxHeartbeats 4000000 in
theorem k_X3_readPerson_j123 {l : Launch} {g : GX} (d : Nat) {Q : jQ} {x0 : Option Nat} {x2 : Int32} {x3 : Option Nat} {x4 : Int32} {x5 : Int32} {x6 : Int32} {x7 : Int32} {y0 : Int32} (ah : AH) (out : Int32 × AH) (h : f_X3_readPerson_j123 x0 x2 x3 x4 x5 x6 x7 y0 ah = some out) (hR : jRetI l g md_X3_readPerson (jRm (d + 3) md_X3_readPerson) Q (0, 0) out.1 out.2) : J l g md_X3_readPerson (jRm (d + 3) md_X3_readPerson) Q 123 [(0, .inr (.inr (.inl x0))), (2, .inl x2), (3, .inr (.inr (.inl x3))), (4, .inl x4), (5, .inl x5), (6, .inl x6), (7, .inl x7)] [.inl y0] ah (0, 0) := by
  unfold f_X3_readPerson_j123 at h
  refine J_seg ok_X3_readPerson 72 2 (pc' := 127) (ls' := [(8, .inl y0), (0, .inr (.inr (.inl x0))), (2, .inl x2), (3, .inr (.inr (.inl x3))), (4, .inl x4), (5, .inl x5), (6, .inl x6), (7, .inl x7)]) (st' := [.inl x7]) rfl ?_
  refine J_ne0 (jat ok_X3_readPerson 74 (pc := 127) (i := .ifCond .ne 12) (n := 3) rfl rfl) (tgt := 139) (by decide) (fun c => ?_) (fun c => ?_)
  · have h := (if_neg c).symm.trans h
    refine J_sub (ls' := [(0, .inr (.inr (.inl x0))), (2, .inl x2), (3, .inr (.inr (.inl x3))), (4, .inl x4), (5, .inl x5), (6, .inl x6), (8, .inl y0)]) [1, 2, 3, 4, 5, 6, 0] rfl ?_
    exact k_X3_readPerson_j139 d _ _ h hR
  · have h := (if_pos c).symm.trans h
    refine J_seg ok_X3_readPerson 75 1 (pc' := 132) (ls' := [(8, .inl y0), (0, .inr (.inr (.inl x0))), (2, .inl x2), (3, .inr (.inr (.inl x3))), (4, .inl x4), (5, .inl x5), (6, .inl x6), (7, .inl x7)]) (st' := [.inl y0]) rfl ?_
    refine J_ge0 (jat ok_X3_readPerson 76 (pc := 132) (i := .ifCond .ge 7) (n := 3) rfl rfl) (tgt := 139) (by decide) (fun c => ?_) (fun c => ?_)
    · have h := (if_pos c).symm.trans h
      refine J_sub (ls' := [(0, .inr (.inr (.inl x0))), (2, .inl x2), (3, .inr (.inr (.inl x3))), (4, .inl x4), (5, .inl x5), (6, .inl x6), (8, .inl y0)]) [1, 2, 3, 4, 5, 6, 0] rfl ?_
      exact k_X3_readPerson_j139 d _ _ h hR
    · have h := (if_neg c).symm.trans h
      refine J_seg ok_X3_readPerson 77 3 (pc' := 138) (ls' := [(8, .inl y0), (0, .inr (.inr (.inl x0))), (2, .inl x2), (3, .inr (.inr (.inl x3))), (4, .inl x4), (5, .inl x5), (6, .inl x6), (7, .inl x7)]) (st' := [.inl (x2 + 3)]) rfl ?_
      have h := Option.some.inj h
      subst h
      exact hR _ _ (jat ok_X3_readPerson 80 (pc := 138) (i := .ireturn) (n := 1) rfl rfl)
def f_X3_readPerson_j101 (x0 : Option Nat) (x1 : Option Nat) (x2 : Int32) (x3 : Option Nat) (x4 : Int32) (x5 : Int32) (x6 : Int32) (y0 : Int32) (ah : AH) : Option (Int32 × AH) :=
  if y0 = 0 then ((f_X3_figure x1 (x2 + 3) 0 9 ah).bind fun q17 => f_X3_readPerson_j123 x0 x2 x3 x4 x5 x6 y0 q17.1 q17.2) else (f_X3_readPerson_j123 x0 x2 x3 x4 x5 x6 y0 (-9) ah)
set_option maxRecDepth 100000 in
set_option maxHeartbeats 4000000 in
theorem k_X3_readPerson_j101 {l : Launch} {g : GX} (d : Nat) {Q : jQ} {x0 : Option Nat} {x1 : Option Nat} {x2 : Int32} {x3 : Option Nat} {x4 : Int32} {x5 : Int32} {x6 : Int32} {y0 : Int32} (ah : AH) (out : Int32 × AH) (h : f_X3_readPerson_j101 x0 x1 x2 x3 x4 x5 x6 y0 ah = some out) (hR : jRetI l g md_X3_readPerson (jRm (d + 3) md_X3_readPerson) Q (0, 0) out.1 out.2) : J l g md_X3_readPerson (jRm (d + 3) md_X3_readPerson) Q 101 [(0, .inr (.inr (.inl x0))), (1, .inr (.inr (.inl x1))), (2, .inl x2), (3, .inr (.inr (.inl x3))), (4, .inl x4), (5, .inl x5), (6, .inl x6)] [.inl y0] ah (0, 0) := by
  unfold f_X3_readPerson_j101 at h
  refine J_seg ok_X3_readPerson 60 2 (pc' := 105) (ls' := [(7, .inl y0), (0, .inr (.inr (.inl x0))), (1, .inr (.inr (.inl x1))), (2, .inl x2), (3, .inr (.inr (.inl x3))), (4, .inl x4), (5, .inl x5), (6, .inl x6)]) (st' := [.inl y0]) rfl ?_
  refine J_eq0 (jat ok_X3_readPerson 62 (pc := 105) (i := .ifCond .eq 8) (n := 3) rfl rfl) (tgt := 113) (by decide) (fun c => ?_) (fun c => ?_)
  · have h := (if_pos c).symm.trans h
    refine J_seg ok_X3_readPerson 65 6 (pc' := 120) (ls' := [(7, .inl y0), (0, .inr (.inr (.inl x0))), (1, .inr (.inr (.inl x1))), (2, .inl x2), (3, .inr (.inr (.inl x3))), (4, .inl x4), (5, .inl x5), (6, .inl x6)]) (st' := [.inl 9, .inl 0, .inl (x2 + 3), .inr (.inr (.inl x1))]) rfl ?_
    obtain ⟨q17, h18, h⟩ := Option.bind_eq_some_iff.mp h
    refine J_callS (md' := md_X3_figure) (As := [.inr (.inr (.inl x1)), .inl (x2 + 3), .inl 0, .inl 9]) (st := []) (cs' := (0, 0)) (st' := [.inl q17.1]) (jat ok_X3_readPerson 71 (pc := 120) (i := .invokestatic 54) (n := 3) rfl rfl) (Or.inl ml_RX3_54) ys_X3_figure (c_X3_figure l g (d + 0) h18) (jRo_of (by decide)) (Nat.le_of_ble_eq_true rfl) ⟨Nat.le_of_ble_eq_true rfl, Nat.le_of_ble_eq_true rfl⟩ rfl rfl rfl ?_
    refine J_sub (ls' := [(0, .inr (.inr (.inl x0))), (2, .inl x2), (3, .inr (.inr (.inl x3))), (4, .inl x4), (5, .inl x5), (6, .inl x6), (7, .inl y0)]) [1, 3, 4, 5, 6, 7, 0] rfl ?_
    exact k_X3_readPerson_j123 d _ _ h hR
  · have h := (if_neg c).symm.trans h
    refine J_seg ok_X3_readPerson 63 2 (pc' := 123) (ls' := [(7, .inl y0), (0, .inr (.inr (.inl x0))), (1, .inr (.inr (.inl x1))), (2, .inl x2), (3, .inr (.inr (.inl x3))), (4, .inl x4), (5, .inl x5), (6, .inl x6)]) (st' := [.inl (-9)]) rfl ?_
    refine J_sub (ls' := [(0, .inr (.inr (.inl x0))), (2, .inl x2), (3, .inr (.inr (.inl x3))), (4, .inl x4), (5, .inl x5), (6, .inl x6), (7, .inl y0)]) [1, 3, 4, 5, 6, 7, 0] rfl ?_
    exact k_X3_readPerson_j123 d _ _ h hR
def f_X3_readPerson_j100 (x0 : Option Nat) (x1 : Option Nat) (x2 : Int32) (x3 : Option Nat) (x4 : Int32) (x5 : Int32) (x6 : Int32) (ah : AH) : Option (Int32 × AH) :=
  f_X3_readPerson_j101 x0 x1 x2 x3 x4 x5 x6 0 ah
set_option maxRecDepth 100000 in
set_option maxHeartbeats 4000000 in
theorem k_X3_readPerson_j100 {l : Launch} {g : GX} (d : Nat) {Q : jQ} {x0 : Option Nat} {x1 : Option Nat} {x2 : Int32} {x3 : Option Nat} {x4 : Int32} {x5 : Int32} {x6 : Int32} (ah : AH) (out : Int32 × AH) (h : f_X3_readPerson_j100 x0 x1 x2 x3 x4 x5 x6 ah = some out) (hR : jRetI l g md_X3_readPerson (jRm (d + 3) md_X3_readPerson) Q (0, 0) out.1 out.2) : J l g md_X3_readPerson (jRm (d + 3) md_X3_readPerson) Q 100 [(0, .inr (.inr (.inl x0))), (1, .inr (.inr (.inl x1))), (2, .inl x2), (3, .inr (.inr (.inl x3))), (4, .inl x4), (5, .inl x5), (6, .inl x6)] [] ah (0, 0) := by
  unfold f_X3_readPerson_j100 at h
  refine J_seg ok_X3_readPerson 59 1 (pc' := 101) (ls' := [(0, .inr (.inr (.inl x0))), (1, .inr (.inr (.inl x1))), (2, .inl x2), (3, .inr (.inr (.inl x3))), (4, .inl x4), (5, .inl x5), (6, .inl x6)]) (st' := [.inl 0]) rfl ?_
  refine J_sub (ls' := [(0, .inr (.inr (.inl x0))), (1, .inr (.inr (.inl x1))), (2, .inl x2), (3, .inr (.inr (.inl x3))), (4, .inl x4), (5, .inl x5), (6, .inl x6)]) [0, 1, 2, 3, 4, 5, 6] rfl ?_
  exact k_X3_readPerson_j101 d _ _ h hR
def f_X3_readPerson (x0 : Option Nat) (x1 : Option Nat) (x2 : Int32) (x3 : Option Nat) (ah : AH) : Option (Int32 × AH) :=
  if qO ah x1 2 = true then ((f_X2_get x1 x2 ah).bind fun q1 => (f_X3_kindBy q1.1 q1.2).bind fun q4 => if q4.1 < 0 then (some (x2, q4.2)) else ((gI q4.2 x3 1 6).bind fun v6 => if 0 < v6 then (some (x2, q4.2)) else ((gI q4.2 x3 1 5).bind fun v8 => if v8 < 6 then ((f_X3_figure x1 (x2 + 1) 1 9 q4.2).bind fun q10 => if 0 ≤ q10.1 then ((f_X3_figure x1 (x2 + 2) 0 5 q10.2).bind fun q12 => if 0 ≤ q12.1 then (if qO q12.2 x1 2 = true then ((f_X2_holds x1 (x2 + 3) q12.2).bind fun q14 => if q14.1 = 0 then (f_X3_readPerson_j100 x0 x1 x2 x3 q4.1 q10.1 q12.1 q14.2) else (if qO q14.2 x1 2 = true then ((f_X2_get x1 (x2 + 3) q14.2).bind fun q32 => if q32.1 = 45 then (f_X3_readPerson_j101 x0 x1 x2 x3 q4.1 q10.1 q12.1 1 q32.2) else (f_X3_readPerson_j100 x0 x1 x2 x3 q4.1 q10.1 q12.1 q32.2)) else none)) else none) else (some (x2 + 2, q12.2))) else (some (x2 + 1, q10.2))) else (some (x2, q4.2))))) else none
set_option maxRecDepth 100000 in
set_option maxHeartbeats 4000000 in
theorem k_X3_readPerson {l : Launch} {g : GX} (d : Nat) {Q : jQ} {x0 : Option Nat} {x1 : Option Nat} {x2 : Int32} {x3 : Option Nat} (ah : AH) (out : Int32 × AH) (h : f_X3_readPerson x0 x1 x2 x3 ah = some out) (hR : jRetI l g md_X3_readPerson (jRm (d + 3) md_X3_readPerson) Q (0, 0) out.1 out.2) : J l g md_X3_readPerson (jRm (d + 3) md_X3_readPerson) Q 0 [(0, .inr (.inr (.inl x0))), (1, .inr (.inr (.inl x1))), (2, .inl x2), (3, .inr (.inr (.inl x3)))] [] ah (0, 0) := by
  unfold f_X3_readPerson at h
  refine J_seg ok_X3_readPerson 0 2 (pc' := 2) (ls' := [(0, .inr (.inr (.inl x0))), (1, .inr (.inr (.inl x1))), (2, .inl x2), (3, .inr (.inr (.inl x3)))]) (st' := [.inl x2, .inr (.inr (.inl x1))]) rfl ?_
  by_cases c3 : qO ah x1 2 = true
  case neg => exact absurd ((if_neg c3).symm.trans h) (by simp)
  have h := (if_pos c3).symm.trans h
  obtain ⟨q1, h2, h⟩ := Option.bind_eq_some_iff.mp h
  refine J_callV (md' := md_X2_get) (As := [.inl x2]) (st := []) (cs' := (0, 0)) (st' := [.inl q1.1]) (jat ok_X3_readPerson 2 (pc := 2) (i := .invokevirtual 30) (n := 3) rfl rfl) ml_RX3_30 yv_X2_get c3 (c_X2_get l g (d + 1) h2) (jRo_of (by decide)) (Nat.le_of_ble_eq_true rfl) ⟨Nat.le_of_ble_eq_true rfl, Nat.le_of_ble_eq_true rfl⟩ rfl rfl rfl ?_
  obtain ⟨q4, h5, h⟩ := Option.bind_eq_some_iff.mp h
  refine J_callS (md' := md_X3_kindBy) (As := [.inl q1.1]) (st := []) (cs' := (0, 0)) (st' := [.inl q4.1]) (jat ok_X3_readPerson 3 (pc := 5) (i := .invokestatic 48) (n := 3) rfl rfl) (Or.inl ml_RX3_48) ys_X3_kindBy (c_X3_kindBy l g (d + 2) h5) (jRo_of (by decide)) (Nat.le_of_ble_eq_true rfl) ⟨Nat.le_of_ble_eq_true rfl, Nat.le_of_ble_eq_true rfl⟩ rfl rfl rfl ?_
  refine J_seg ok_X3_readPerson 4 2 (pc' := 12) (ls' := [(4, .inl q4.1), (0, .inr (.inr (.inl x0))), (1, .inr (.inr (.inl x1))), (2, .inl x2), (3, .inr (.inr (.inl x3)))]) (st' := [.inl q4.1]) rfl ?_
  refine J_lt0 (jat ok_X3_readPerson 6 (pc := 12) (i := .ifCond .lt 19) (n := 3) rfl rfl) (tgt := 31) (by decide) (fun c => ?_) (fun c => ?_)
  · have h := (if_pos c).symm.trans h
    refine J_seg ok_X3_readPerson 14 1 (pc' := 32) (ls' := [(4, .inl q4.1), (0, .inr (.inr (.inl x0))), (1, .inr (.inr (.inl x1))), (2, .inl x2), (3, .inr (.inr (.inl x3)))]) (st' := [.inl x2]) rfl ?_
    have h := Option.some.inj h
    subst h
    exact hR _ _ (jat ok_X3_readPerson 15 (pc := 32) (i := .ireturn) (n := 1) rfl rfl)
  · have h := (if_neg c).symm.trans h
    refine J_seg ok_X3_readPerson 7 1 (pc' := 16) (ls' := [(4, .inl q4.1), (0, .inr (.inr (.inl x0))), (1, .inr (.inr (.inl x1))), (2, .inl x2), (3, .inr (.inr (.inl x3)))]) (st' := [.inr (.inr (.inl x3))]) rfl ?_
    obtain ⟨v6, h7, h⟩ := Option.bind_eq_some_iff.mp h
    refine J_getI (jat ok_X3_readPerson 8 (pc := 16) (i := .getfield 51) (n := 3) rfl rfl) fl_RX3_51 h7 ?_
    refine J_gt0 (jat ok_X3_readPerson 9 (pc := 19) (i := .ifCond .gt 12) (n := 3) rfl rfl) (tgt := 31) (by decide) (fun c => ?_) (fun c => ?_)
    · have h := (if_pos c).symm.trans h
      refine J_seg ok_X3_readPerson 14 1 (pc' := 32) (ls' := [(4, .inl q4.1), (0, .inr (.inr (.inl x0))), (1, .inr (.inr (.inl x1))), (2, .inl x2), (3, .inr (.inr (.inl x3)))]) (st' := [.inl x2]) rfl ?_
      have h := Option.some.inj h
      subst h
      exact hR _ _ (jat ok_X3_readPerson 15 (pc := 32) (i := .ireturn) (n := 1) rfl rfl)
    · have h := (if_neg c).symm.trans h
      refine J_seg ok_X3_readPerson 10 1 (pc' := 23) (ls' := [(4, .inl q4.1), (0, .inr (.inr (.inl x0))), (1, .inr (.inr (.inl x1))), (2, .inl x2), (3, .inr (.inr (.inl x3)))]) (st' := [.inr (.inr (.inl x3))]) rfl ?_
      obtain ⟨v8, h9, h⟩ := Option.bind_eq_some_iff.mp h
      refine J_getI (jat ok_X3_readPerson 11 (pc := 23) (i := .getfield 37) (n := 3) rfl rfl) fl_RX3_37 h9 ?_
      refine J_seg ok_X3_readPerson 12 1 (pc' := 28) (ls' := [(4, .inl q4.1), (0, .inr (.inr (.inl x0))), (1, .inr (.inr (.inl x1))), (2, .inl x2), (3, .inr (.inr (.inl x3)))]) (st' := [.inl 6, .inl v8]) rfl ?_
      refine J_lt (jat ok_X3_readPerson 13 (pc := 28) (i := .if_icmp .lt 5) (n := 3) rfl rfl) (tgt := 33) (by decide) (fun c => ?_) (fun c => ?_)
      · have h := (if_pos c).symm.trans h
        refine J_seg ok_X3_readPerson 16 6 (pc' := 40) (ls' := [(4, .inl q4.1), (0, .inr (.inr (.inl x0))), (1, .inr (.inr (.inl x1))), (2, .inl x2), (3, .inr (.inr (.inl x3)))]) (st' := [.inl 9, .inl 1, .inl (x2 + 1), .inr (.inr (.inl x1))]) rfl ?_
        obtain ⟨q10, h11, h⟩ := Option.bind_eq_some_iff.mp h
        refine J_callS (md' := md_X3_figure) (As := [.inr (.inr (.inl x1)), .inl (x2 + 1), .inl 1, .inl 9]) (st := []) (cs' := (0, 0)) (st' := [.inl q10.1]) (jat ok_X3_readPerson 22 (pc := 40) (i := .invokestatic 54) (n := 3) rfl rfl) (Or.inl ml_RX3_54) ys_X3_figure (c_X3_figure l g (d + 0) h11) (jRo_of (by decide)) (Nat.le_of_ble_eq_true rfl) ⟨Nat.le_of_ble_eq_true rfl, Nat.le_of_ble_eq_true rfl⟩ rfl rfl rfl ?_
        refine J_seg ok_X3_readPerson 23 2 (pc' := 47) (ls' := [(5, .inl q10.1), (4, .inl q4.1), (0, .inr (.inr (.inl x0))), (1, .inr (.inr (.inl x1))), (2, .inl x2), (3, .inr (.inr (.inl x3)))]) (st' := [.inl q10.1]) rfl ?_
        refine J_ge0 (jat ok_X3_readPerson 25 (pc := 47) (i := .ifCond .ge 7) (n := 3) rfl rfl) (tgt := 54) (by decide) (fun c => ?_) (fun c => ?_)
        · have h := (if_pos c).symm.trans h
          refine J_seg ok_X3_readPerson 30 6 (pc' := 60) (ls' := [(5, .inl q10.1), (4, .inl q4.1), (0, .inr (.inr (.inl x0))), (1, .inr (.inr (.inl x1))), (2, .inl x2), (3, .inr (.inr (.inl x3)))]) (st' := [.inl 5, .inl 0, .inl (x2 + 2), .inr (.inr (.inl x1))]) rfl ?_
          obtain ⟨q12, h13, h⟩ := Option.bind_eq_some_iff.mp h
          refine J_callS (md' := md_X3_figure) (As := [.inr (.inr (.inl x1)), .inl (x2 + 2), .inl 0, .inl 5]) (st := []) (cs' := (0, 0)) (st' := [.inl q12.1]) (jat ok_X3_readPerson 36 (pc := 60) (i := .invokestatic 54) (n := 3) rfl rfl) (Or.inl ml_RX3_54) ys_X3_figure (c_X3_figure l g (d + 0) h13) (jRo_of (by decide)) (Nat.le_of_ble_eq_true rfl) ⟨Nat.le_of_ble_eq_true rfl, Nat.le_of_ble_eq_true rfl⟩ rfl rfl rfl ?_
          refine J_seg ok_X3_readPerson 37 2 (pc' := 67) (ls' := [(6, .inl q12.1), (5, .inl q10.1), (4, .inl q4.1), (0, .inr (.inr (.inl x0))), (1, .inr (.inr (.inl x1))), (2, .inl x2), (3, .inr (.inr (.inl x3)))]) (st' := [.inl q12.1]) rfl ?_
          refine J_ge0 (jat ok_X3_readPerson 39 (pc := 67) (i := .ifCond .ge 7) (n := 3) rfl rfl) (tgt := 74) (by decide) (fun c => ?_) (fun c => ?_)
          · have h := (if_pos c).symm.trans h
            refine J_seg ok_X3_readPerson 44 4 (pc' := 78) (ls' := [(6, .inl q12.1), (5, .inl q10.1), (4, .inl q4.1), (0, .inr (.inr (.inl x0))), (1, .inr (.inr (.inl x1))), (2, .inl x2), (3, .inr (.inr (.inl x3)))]) (st' := [.inl (x2 + 3), .inr (.inr (.inl x1))]) rfl ?_
            by_cases c16 : qO q12.2 x1 2 = true
            case neg => exact absurd ((if_neg c16).symm.trans h) (by simp)
            have h := (if_pos c16).symm.trans h
            obtain ⟨q14, h15, h⟩ := Option.bind_eq_some_iff.mp h
            refine J_callV (md' := md_X2_holds) (As := [.inl (x2 + 3)]) (st := []) (cs' := (0, 0)) (st' := [.inl q14.1]) (jat ok_X3_readPerson 48 (pc := 78) (i := .invokevirtual 58) (n := 3) rfl rfl) ml_RX3_58 yv_X2_holds c16 (c_X2_holds l g (d + 2) h15) (jRo_of (by decide)) (Nat.le_of_ble_eq_true rfl) ⟨Nat.le_of_ble_eq_true rfl, Nat.le_of_ble_eq_true rfl⟩ rfl rfl rfl ?_
            refine J_eq0 (jat ok_X3_readPerson 49 (pc := 81) (i := .ifCond .eq 19) (n := 3) rfl rfl) (tgt := 100) (by decide) (fun c => ?_) (fun c => ?_)
            · have h := (if_pos c).symm.trans h
              refine J_sub (ls' := [(0, .inr (.inr (.inl x0))), (1, .inr (.inr (.inl x1))), (2, .inl x2), (3, .inr (.inr (.inl x3))), (4, .inl q4.1), (5, .inl q10.1), (6, .inl q12.1)]) [3, 4, 5, 6, 2, 1, 0] rfl ?_
              exact k_X3_readPerson_j100 d _ _ h hR
            · have h := (if_neg c).symm.trans h
              refine J_seg ok_X3_readPerson 50 4 (pc' := 88) (ls' := [(6, .inl q12.1), (5, .inl q10.1), (4, .inl q4.1), (0, .inr (.inr (.inl x0))), (1, .inr (.inr (.inl x1))), (2, .inl x2), (3, .inr (.inr (.inl x3)))]) (st' := [.inl (x2 + 3), .inr (.inr (.inl x1))]) rfl ?_
              by_cases c34 : qO q14.2 x1 2 = true
              case neg => exact absurd ((if_neg c34).symm.trans h) (by simp)
              have h := (if_pos c34).symm.trans h
              obtain ⟨q32, h33, h⟩ := Option.bind_eq_some_iff.mp h
              refine J_callV (md' := md_X2_get) (As := [.inl (x2 + 3)]) (st := []) (cs' := (0, 0)) (st' := [.inl q32.1]) (jat ok_X3_readPerson 54 (pc := 88) (i := .invokevirtual 30) (n := 3) rfl rfl) ml_RX3_30 yv_X2_get c34 (c_X2_get l g (d + 1) h33) (jRo_of (by decide)) (Nat.le_of_ble_eq_true rfl) ⟨Nat.le_of_ble_eq_true rfl, Nat.le_of_ble_eq_true rfl⟩ rfl rfl rfl ?_
              refine J_seg ok_X3_readPerson 55 1 (pc' := 93) (ls' := [(6, .inl q12.1), (5, .inl q10.1), (4, .inl q4.1), (0, .inr (.inr (.inl x0))), (1, .inr (.inr (.inl x1))), (2, .inl x2), (3, .inr (.inr (.inl x3)))]) (st' := [.inl 45, .inl q32.1]) rfl ?_
              refine J_ne (jat ok_X3_readPerson 56 (pc := 93) (i := .if_icmp .ne 7) (n := 3) rfl rfl) (tgt := 100) (by decide) (fun c => ?_) (fun c => ?_)
              · have h := (if_neg c).symm.trans h
                refine J_sub (ls' := [(0, .inr (.inr (.inl x0))), (1, .inr (.inr (.inl x1))), (2, .inl x2), (3, .inr (.inr (.inl x3))), (4, .inl q4.1), (5, .inl q10.1), (6, .inl q12.1)]) [3, 4, 5, 6, 2, 1, 0] rfl ?_
                exact k_X3_readPerson_j100 d _ _ h hR
              · have h := (if_pos c).symm.trans h
                refine J_seg ok_X3_readPerson 57 2 (pc' := 101) (ls' := [(6, .inl q12.1), (5, .inl q10.1), (4, .inl q4.1), (0, .inr (.inr (.inl x0))), (1, .inr (.inr (.inl x1))), (2, .inl x2), (3, .inr (.inr (.inl x3)))]) (st' := [.inl 1]) rfl ?_
                refine J_sub (ls' := [(0, .inr (.inr (.inl x0))), (1, .inr (.inr (.inl x1))), (2, .inl x2), (3, .inr (.inr (.inl x3))), (4, .inl q4.1), (5, .inl q10.1), (6, .inl q12.1)]) [3, 4, 5, 6, 2, 1, 0] rfl ?_
                exact k_X3_readPerson_j101 d _ _ h hR
          · have h := (if_neg c).symm.trans h
            refine J_seg ok_X3_readPerson 40 3 (pc' := 73) (ls' := [(6, .inl q12.1), (5, .inl q10.1), (4, .inl q4.1), (0, .inr (.inr (.inl x0))), (1, .inr (.inr (.inl x1))), (2, .inl x2), (3, .inr (.inr (.inl x3)))]) (st' := [.inl (x2 + 2)]) rfl ?_
            have h := Option.some.inj h
            subst h
            exact hR _ _ (jat ok_X3_readPerson 43 (pc := 73) (i := .ireturn) (n := 1) rfl rfl)
        · have h := (if_neg c).symm.trans h
          refine J_seg ok_X3_readPerson 26 3 (pc' := 53) (ls' := [(5, .inl q10.1), (4, .inl q4.1), (0, .inr (.inr (.inl x0))), (1, .inr (.inr (.inl x1))), (2, .inl x2), (3, .inr (.inr (.inl x3)))]) (st' := [.inl (x2 + 1)]) rfl ?_
          have h := Option.some.inj h
          subst h
          exact hR _ _ (jat ok_X3_readPerson 29 (pc := 53) (i := .ireturn) (n := 1) rfl rfl)
      · have h := (if_neg c).symm.trans h
        refine J_seg ok_X3_readPerson 14 1 (pc' := 32) (ls' := [(4, .inl q4.1), (0, .inr (.inr (.inl x0))), (1, .inr (.inr (.inl x1))), (2, .inl x2), (3, .inr (.inr (.inl x3)))]) (st' := [.inl x2]) rfl ?_
        have h := Option.some.inj h
        subst h
        exact hR _ _ (jat ok_X3_readPerson 15 (pc := 32) (i := .ireturn) (n := 1) rfl rfl)
theorem c_X3_readPerson (l : Launch) (g : GX) (d : Nat) {x0 : Option Nat} {x1 : Option Nat} {x2 : Int32} {x3 : Option Nat} {ah : AH} {q : Int32 × AH} (h : f_X3_readPerson x0 x1 x2 x3 ah = some q) : jM l g (d + 3) md_X3_readPerson [.inr (.inr (.inl x0)), .inr (.inr (.inl x1)), .inl x2, .inr (.inr (.inl x3))] ah (some (.inl q.1)) q.2 :=
  jM_of (by decide) (Nat.le_of_ble_eq_true rfl) (k_X3_readPerson d ah q h (fun pc ls hd => J_reti hd rfl (jPV_int _) rfl (Nat.le_refl _) rfl rfl))
def f_X3_readItem (x0 : Option Nat) (x1 : Option Nat) (x2 : Int32) (x3 : Option Nat) (ah : AH) : Option (Int32 × AH) :=
  if qO ah x1 2 = true then ((f_X2_get x1 x2 ah).bind fun q1 => if q1.1 = 32 then (some ((-9), q1.2)) else (if qO q1.2 x1 2 = true then ((f_X2_get x1 x2 q1.2).bind fun q4 => if q4.1 = 111 then (if qO q4.2 x0 3 = true then ((f_X3_readLove x0 x1 x2 x3 q4.2).bind fun q10 => some (q10.1, q10.2)) else none) else (if qO q4.2 x0 3 = true then ((f_X3_readPerson x0 x1 x2 x3 q4.2).bind fun q7 => some (q7.1, q7.2)) else none)) else none)) else none
set_option maxRecDepth 100000 in
set_option maxHeartbeats 4000000 in
theorem k_X3_readItem {l : Launch} {g : GX} (d : Nat) {Q : jQ} {x0 : Option Nat} {x1 : Option Nat} {x2 : Int32} {x3 : Option Nat} (ah : AH) (out : Int32 × AH) (h : f_X3_readItem x0 x1 x2 x3 ah = some out) (hR : jRetI l g md_X3_readItem (jRm (d + 4) md_X3_readItem) Q (0, 0) out.1 out.2) : J l g md_X3_readItem (jRm (d + 4) md_X3_readItem) Q 0 [(0, .inr (.inr (.inl x0))), (1, .inr (.inr (.inl x1))), (2, .inl x2), (3, .inr (.inr (.inl x3)))] [] ah (0, 0) := by
  unfold f_X3_readItem at h
  refine J_seg ok_X3_readItem 0 2 (pc' := 2) (ls' := [(0, .inr (.inr (.inl x0))), (1, .inr (.inr (.inl x1))), (2, .inl x2), (3, .inr (.inr (.inl x3)))]) (st' := [.inl x2, .inr (.inr (.inl x1))]) rfl ?_
  by_cases c3 : qO ah x1 2 = true
  case neg => exact absurd ((if_neg c3).symm.trans h) (by simp)
  have h := (if_pos c3).symm.trans h
  obtain ⟨q1, h2, h⟩ := Option.bind_eq_some_iff.mp h
  refine J_callV (md' := md_X2_get) (As := [.inl x2]) (st := []) (cs' := (0, 0)) (st' := [.inl q1.1]) (jat ok_X3_readItem 2 (pc := 2) (i := .invokevirtual 30) (n := 3) rfl rfl) ml_RX3_30 yv_X2_get c3 (c_X2_get l g (d + 2) h2) (jRo_of (by decide)) (Nat.le_of_ble_eq_true rfl) ⟨Nat.le_of_ble_eq_true rfl, Nat.le_of_ble_eq_true rfl⟩ rfl rfl rfl ?_
  refine J_seg ok_X3_readItem 3 1 (pc' := 7) (ls' := [(0, .inr (.inr (.inl x0))), (1, .inr (.inr (.inl x1))), (2, .inl x2), (3, .inr (.inr (.inl x3)))]) (st' := [.inl 32, .inl q1.1]) rfl ?_
  refine J_ne (jat ok_X3_readItem 4 (pc := 7) (i := .if_icmp .ne 6) (n := 3) rfl rfl) (tgt := 13) (by decide) (fun c => ?_) (fun c => ?_)
  · have h := (if_neg c).symm.trans h
    refine J_seg ok_X3_readItem 7 2 (pc' := 15) (ls' := [(0, .inr (.inr (.inl x0))), (1, .inr (.inr (.inl x1))), (2, .inl x2), (3, .inr (.inr (.inl x3)))]) (st' := [.inl x2, .inr (.inr (.inl x1))]) rfl ?_
    by_cases c6 : qO q1.2 x1 2 = true
    case neg => exact absurd ((if_neg c6).symm.trans h) (by simp)
    have h := (if_pos c6).symm.trans h
    obtain ⟨q4, h5, h⟩ := Option.bind_eq_some_iff.mp h
    refine J_callV (md' := md_X2_get) (As := [.inl x2]) (st := []) (cs' := (0, 0)) (st' := [.inl q4.1]) (jat ok_X3_readItem 9 (pc := 15) (i := .invokevirtual 30) (n := 3) rfl rfl) ml_RX3_30 yv_X2_get c6 (c_X2_get l g (d + 2) h5) (jRo_of (by decide)) (Nat.le_of_ble_eq_true rfl) ⟨Nat.le_of_ble_eq_true rfl, Nat.le_of_ble_eq_true rfl⟩ rfl rfl rfl ?_
    refine J_seg ok_X3_readItem 10 1 (pc' := 20) (ls' := [(0, .inr (.inr (.inl x0))), (1, .inr (.inr (.inl x1))), (2, .inl x2), (3, .inr (.inr (.inl x3)))]) (st' := [.inl 111, .inl q4.1]) rfl ?_
    refine J_ne (jat ok_X3_readItem 11 (pc := 20) (i := .if_icmp .ne 13) (n := 3) rfl rfl) (tgt := 33) (by decide) (fun c => ?_) (fun c => ?_)
    · have h := (if_neg c).symm.trans h
      refine J_seg ok_X3_readItem 18 4 (pc' := 37) (ls' := [(0, .inr (.inr (.inl x0))), (1, .inr (.inr (.inl x1))), (2, .inl x2), (3, .inr (.inr (.inl x3)))]) (st' := [.inr (.inr (.inl x3)), .inl x2, .inr (.inr (.inl x1)), .inr (.inr (.inl x0))]) rfl ?_
      by_cases c9 : qO q4.2 x0 3 = true
      case neg => exact absurd ((if_neg c9).symm.trans h) (by simp)
      have h := (if_pos c9).symm.trans h
      obtain ⟨q7, h8, h⟩ := Option.bind_eq_some_iff.mp h
      refine J_callV (md' := md_X3_readPerson) (As := [.inr (.inr (.inl x1)), .inl x2, .inr (.inr (.inl x3))]) (st := []) (cs' := (0, 0)) (st' := [.inl q7.1]) (jat ok_X3_readItem 22 (pc := 37) (i := .invokevirtual 45) (n := 3) rfl rfl) ml_RX3_45 yv_X3_readPerson c9 (c_X3_readPerson l g (d + 0) h8) (jRo_of (by decide)) (Nat.le_of_ble_eq_true rfl) ⟨Nat.le_of_ble_eq_true rfl, Nat.le_of_ble_eq_true rfl⟩ rfl rfl rfl ?_
      have h := Option.some.inj h
      subst h
      exact hR _ _ (jat ok_X3_readItem 23 (pc := 40) (i := .ireturn) (n := 1) rfl rfl)
    · have h := (if_pos c).symm.trans h
      refine J_seg ok_X3_readItem 12 4 (pc' := 27) (ls' := [(0, .inr (.inr (.inl x0))), (1, .inr (.inr (.inl x1))), (2, .inl x2), (3, .inr (.inr (.inl x3)))]) (st' := [.inr (.inr (.inl x3)), .inl x2, .inr (.inr (.inl x1)), .inr (.inr (.inl x0))]) rfl ?_
      by_cases c12 : qO q4.2 x0 3 = true
      case neg => exact absurd ((if_neg c12).symm.trans h) (by simp)
      have h := (if_pos c12).symm.trans h
      obtain ⟨q10, h11, h⟩ := Option.bind_eq_some_iff.mp h
      refine J_callV (md' := md_X3_readLove) (As := [.inr (.inr (.inl x1)), .inl x2, .inr (.inr (.inl x3))]) (st := []) (cs' := (0, 0)) (st' := [.inl q10.1]) (jat ok_X3_readItem 16 (pc := 27) (i := .invokevirtual 42) (n := 3) rfl rfl) ml_RX3_42 yv_X3_readLove c12 (c_X3_readLove l g (d + 0) h11) (jRo_of (by decide)) (Nat.le_of_ble_eq_true rfl) ⟨Nat.le_of_ble_eq_true rfl, Nat.le_of_ble_eq_true rfl⟩ rfl rfl rfl ?_
      refine J_seg ok_X3_readItem 17 1 (pc' := 40) (ls' := [(0, .inr (.inr (.inl x0))), (1, .inr (.inr (.inl x1))), (2, .inl x2), (3, .inr (.inr (.inl x3)))]) (st' := [.inl q10.1]) rfl ?_
      have h := Option.some.inj h
      subst h
      exact hR _ _ (jat ok_X3_readItem 23 (pc := 40) (i := .ireturn) (n := 1) rfl rfl)
  · have h := (if_pos c).symm.trans h
    refine J_seg ok_X3_readItem 5 1 (pc' := 12) (ls' := [(0, .inr (.inr (.inl x0))), (1, .inr (.inr (.inl x1))), (2, .inl x2), (3, .inr (.inr (.inl x3)))]) (st' := [.inl (-9)]) rfl ?_
    have h := Option.some.inj h
    subst h
    exact hR _ _ (jat ok_X3_readItem 6 (pc := 12) (i := .ireturn) (n := 1) rfl rfl)
theorem c_X3_readItem (l : Launch) (g : GX) (d : Nat) {x0 : Option Nat} {x1 : Option Nat} {x2 : Int32} {x3 : Option Nat} {ah : AH} {q : Int32 × AH} (h : f_X3_readItem x0 x1 x2 x3 ah = some q) : jM l g (d + 4) md_X3_readItem [.inr (.inr (.inl x0)), .inr (.inr (.inl x1)), .inl x2, .inr (.inr (.inl x3))] ah (some (.inl q.1)) q.2 :=
  jM_of (by decide) (Nat.le_of_ble_eq_true rfl) (k_X3_readItem d ah q h (fun pc ls hd => J_reti hd rfl (jPV_int _) rfl (Nat.le_refl _) rfl rfl))
def f_X3_widthOf (x0 : Int32) (ah : AH) : Option (Int32 × AH) :=
  if x0 = 32 then (some (1, ah)) else (if x0 = 111 then (some (3, ah)) else (some (4, ah)))
set_option maxRecDepth 100000 in
set_option maxHeartbeats 4000000 in
theorem k_X3_widthOf {l : Launch} {g : GX} (d : Nat) {Q : jQ} {x0 : Int32} (ah : AH) (out : Int32 × AH) (h : f_X3_widthOf x0 ah = some out) (hR : jRetI l g md_X3_widthOf (jRm (d + 0) md_X3_widthOf) Q (0, 0) out.1 out.2) : J l g md_X3_widthOf (jRm (d + 0) md_X3_widthOf) Q 0 [(0, .inl x0)] [] ah (0, 0) := by
  unfold f_X3_widthOf at h
  refine J_seg ok_X3_widthOf 0 2 (pc' := 3) (ls' := [(0, .inl x0)]) (st' := [.inl 32, .inl x0]) rfl ?_
  refine J_ne (jat ok_X3_widthOf 2 (pc := 3) (i := .if_icmp .ne 5) (n := 3) rfl rfl) (tgt := 8) (by decide) (fun c => ?_) (fun c => ?_)
  · have h := (if_neg c).symm.trans h
    refine J_seg ok_X3_widthOf 5 2 (pc' := 11) (ls' := [(0, .inl x0)]) (st' := [.inl 111, .inl x0]) rfl ?_
    refine J_ne (jat ok_X3_widthOf 7 (pc := 11) (i := .if_icmp .ne 7) (n := 3) rfl rfl) (tgt := 18) (by decide) (fun c => ?_) (fun c => ?_)
    · have h := (if_neg c).symm.trans h
      refine J_seg ok_X3_widthOf 10 1 (pc' := 19) (ls' := [(0, .inl x0)]) (st' := [.inl 4]) rfl ?_
      have h := Option.some.inj h
      subst h
      exact hR _ _ (jat ok_X3_widthOf 11 (pc := 19) (i := .ireturn) (n := 1) rfl rfl)
    · have h := (if_pos c).symm.trans h
      refine J_seg ok_X3_widthOf 8 2 (pc' := 19) (ls' := [(0, .inl x0)]) (st' := [.inl 3]) rfl ?_
      have h := Option.some.inj h
      subst h
      exact hR _ _ (jat ok_X3_widthOf 11 (pc := 19) (i := .ireturn) (n := 1) rfl rfl)
  · have h := (if_pos c).symm.trans h
    refine J_seg ok_X3_widthOf 3 1 (pc' := 7) (ls' := [(0, .inl x0)]) (st' := [.inl 1]) rfl ?_
    have h := Option.some.inj h
    subst h
    exact hR _ _ (jat ok_X3_widthOf 4 (pc := 7) (i := .ireturn) (n := 1) rfl rfl)
theorem c_X3_widthOf (l : Launch) (g : GX) (d : Nat) {x0 : Int32} {ah : AH} {q : Int32 × AH} (h : f_X3_widthOf x0 ah = some q) : jM l g (d + 0) md_X3_widthOf [.inl x0] ah (some (.inl q.1)) q.2 :=
  jM_of (by decide) (Nat.le_of_ble_eq_true rfl) (k_X3_widthOf d ah q h (fun pc ls hd => J_reti hd rfl (jPV_int _) rfl (Nat.le_refl _) rfl rfl))
def f_X3_read_b9 (k0 : Option Nat) (k1 : Option Nat) (k2 : Option Nat) (s9 : Int32 × Int32) (ah : AH) : Option ((Int32 × AH) ⊕ (((Unit) × AH) ⊕ ((Int32 × Int32) × AH))) :=
  (gI ah k1 2 1).bind fun v4 => if v4 ≤ s9.2 then (some (.inr (.inl ((), ah)))) else (if s9.1 ≤ s9.2 then (if qO ah k0 3 = true then ((f_X3_readItem k0 k1 s9.2 k2 ah).bind fun q6 => if q6.1 = (-9) then (if qO q6.2 k1 2 = true then ((f_X2_get k1 s9.2 q6.2).bind fun q9 => (f_X3_widthOf q9.1 q9.2).bind fun q12 => some (.inr (.inr ((s9.2 + q12.1, s9.2 + 1), q12.2)))) else none) else (some (.inl (q6.1, q6.2)))) else none) else (some (.inr (.inr ((s9.1, s9.2 + 1), ah)))))
set_option maxRecDepth 100000 in
set_option maxHeartbeats 4000000 in
theorem k_X3_read_b9 {l : Launch} {g : GX} (d : Nat) {Q : jQ} {k0 : Option Nat} {k1 : Option Nat} {k2 : Option Nat} (s9 : Int32 × Int32) (ah : AH) (out : (Int32 × AH) ⊕ (((Unit) × AH) ⊕ ((Int32 × Int32) × AH))) (h : f_X3_read_b9 k0 k1 k2 s9 ah = some out) (hR : ∀ q, out = .inl q → jRetI l g md_X3_read (jRm (d + 5) md_X3_read) Q (0, 0) q.1 q.2) (hX : ∀ q, out = .inr (.inl q) → J l g md_X3_read (jRm (d + 5) md_X3_read) Q 66 [(0, .inr (.inr (.inl k0))), (1, .inr (.inr (.inl k1))), (2, .inr (.inr (.inl k2)))] [] q.2 (0, 0)) (hN : ∀ q, out = .inr (.inr q) → J l g md_X3_read (jRm (d + 5) md_X3_read) Q 9 [(0, .inr (.inr (.inl k0))), (1, .inr (.inr (.inl k1))), (2, .inr (.inr (.inl k2))), (3, .inl q.1.1), (4, .inl q.1.2)] [] q.2 (0, 0)) : J l g md_X3_read (jRm (d + 5) md_X3_read) Q 9 [(0, .inr (.inr (.inl k0))), (1, .inr (.inr (.inl k1))), (2, .inr (.inr (.inl k2))), (3, .inl s9.1), (4, .inl s9.2)] [] ah (0, 0) := by
  unfold f_X3_read_b9 at h
  refine J_seg ok_X3_read 6 2 (pc' := 12) (ls' := [(0, .inr (.inr (.inl k0))), (1, .inr (.inr (.inl k1))), (2, .inr (.inr (.inl k2))), (3, .inl s9.1), (4, .inl s9.2)]) (st' := [.inr (.inr (.inl k1)), .inl s9.2]) rfl ?_
  obtain ⟨v4, h5, h⟩ := Option.bind_eq_some_iff.mp h
  refine J_getI (jat ok_X3_read 8 (pc := 12) (i := .getfield 20) (n := 3) rfl rfl) fl_RX3_20 h5 ?_
  refine J_ge (jat ok_X3_read 9 (pc := 15) (i := .if_icmp .ge 51) (n := 3) rfl rfl) (tgt := 66) (by decide) (fun c => ?_) (fun c => ?_)
  · have h := (if_pos c).symm.trans h
    exact J_sub (ls' := [(0, .inr (.inr (.inl k0))), (1, .inr (.inr (.inl k1))), (2, .inr (.inr (.inl k2)))]) [0, 1, 2] rfl (hX ((), ah) (Option.some.inj h).symm)
  · have h := (if_neg c).symm.trans h
    refine J_seg ok_X3_read 10 2 (pc' := 21) (ls' := [(0, .inr (.inr (.inl k0))), (1, .inr (.inr (.inl k1))), (2, .inr (.inr (.inl k2))), (3, .inl s9.1), (4, .inl s9.2)]) (st' := [.inl s9.1, .inl s9.2]) rfl ?_
    refine J_ge (jat ok_X3_read 12 (pc := 21) (i := .if_icmp .ge 6) (n := 3) rfl rfl) (tgt := 27) (by decide) (fun c => ?_) (fun c => ?_)
    · have h := (if_pos c).symm.trans h
      refine J_seg ok_X3_read 14 4 (pc' := 32) (ls' := [(0, .inr (.inr (.inl k0))), (1, .inr (.inr (.inl k1))), (2, .inr (.inr (.inl k2))), (3, .inl s9.1), (4, .inl s9.2)]) (st' := [.inr (.inr (.inl k2)), .inl s9.2, .inr (.inr (.inl k1)), .inr (.inr (.inl k0))]) rfl ?_
      by_cases c8 : qO ah k0 3 = true
      case neg => exact absurd ((if_neg c8).symm.trans h) (by simp)
      have h := (if_pos c8).symm.trans h
      obtain ⟨q6, h7, h⟩ := Option.bind_eq_some_iff.mp h
      refine J_callV (md' := md_X3_readItem) (As := [.inr (.inr (.inl k1)), .inl s9.2, .inr (.inr (.inl k2))]) (st := []) (cs' := (0, 0)) (st' := [.inl q6.1]) (jat ok_X3_read 18 (pc := 32) (i := .invokevirtual 26) (n := 3) rfl rfl) ml_RX3_26 yv_X3_readItem c8 (c_X3_readItem l g (d + 0) h7) (jRo_of (by decide)) (Nat.le_of_ble_eq_true rfl) ⟨Nat.le_of_ble_eq_true rfl, Nat.le_of_ble_eq_true rfl⟩ rfl rfl rfl ?_
      refine J_seg ok_X3_read 19 3 (pc' := 41) (ls' := [(5, .inl q6.1), (0, .inr (.inr (.inl k0))), (1, .inr (.inr (.inl k1))), (2, .inr (.inr (.inl k2))), (3, .inl s9.1), (4, .inl s9.2)]) (st' := [.inl (-9), .inl q6.1]) rfl ?_
      refine J_eq (jat ok_X3_read 22 (pc := 41) (i := .if_icmp .eq 6) (n := 3) rfl rfl) (tgt := 47) (by decide) (fun c => ?_) (fun c => ?_)
      · have h := (if_pos c).symm.trans h
        refine J_seg ok_X3_read 25 3 (pc' := 52) (ls' := [(5, .inl q6.1), (0, .inr (.inr (.inl k0))), (1, .inr (.inr (.inl k1))), (2, .inr (.inr (.inl k2))), (3, .inl s9.1), (4, .inl s9.2)]) (st' := [.inl s9.2, .inr (.inr (.inl k1)), .inl s9.2]) rfl ?_
        by_cases c11 : qO q6.2 k1 2 = true
        case neg => exact absurd ((if_neg c11).symm.trans h) (by simp)
        have h := (if_pos c11).symm.trans h
        obtain ⟨q9, h10, h⟩ := Option.bind_eq_some_iff.mp h
        refine J_callV (md' := md_X2_get) (As := [.inl s9.2]) (st := [.inl s9.2]) (cs' := (0, 0)) (st' := [.inl q9.1, .inl s9.2]) (jat ok_X3_read 28 (pc := 52) (i := .invokevirtual 30) (n := 3) rfl rfl) ml_RX3_30 yv_X2_get c11 (c_X2_get l g (d + 3) h10) (jRo_of (by decide)) (Nat.le_of_ble_eq_true rfl) ⟨Nat.le_of_ble_eq_true rfl, Nat.le_of_ble_eq_true rfl⟩ rfl rfl rfl ?_
        obtain ⟨q12, h13, h⟩ := Option.bind_eq_some_iff.mp h
        refine J_callS (md' := md_X3_widthOf) (As := [.inl q9.1]) (st := [.inl s9.2]) (cs' := (0, 0)) (st' := [.inl q12.1, .inl s9.2]) (jat ok_X3_read 29 (pc := 55) (i := .invokestatic 34) (n := 3) rfl rfl) (Or.inl ml_RX3_34) ys_X3_widthOf (c_X3_widthOf l g (d + 4) h13) (jRo_of (by decide)) (Nat.le_of_ble_eq_true rfl) ⟨Nat.le_of_ble_eq_true rfl, Nat.le_of_ble_eq_true rfl⟩ rfl rfl rfl ?_
        refine J_seg ok_X3_read 30 4 (pc' := 9) (ls' := [(4, .inl (s9.2 + 1)), (3, .inl (s9.2 + q12.1)), (5, .inl q6.1), (0, .inr (.inr (.inl k0))), (1, .inr (.inr (.inl k1))), (2, .inr (.inr (.inl k2)))]) (st' := []) rfl ?_
        exact J_sub (ls' := [(0, .inr (.inr (.inl k0))), (1, .inr (.inr (.inl k1))), (2, .inr (.inr (.inl k2))), (3, .inl (s9.2 + q12.1)), (4, .inl (s9.2 + 1))]) [3, 4, 5, 1, 0] rfl (hN ((s9.2 + q12.1, s9.2 + 1), q12.2) (Option.some.inj h).symm)
      · have h := (if_neg c).symm.trans h
        refine J_seg ok_X3_read 23 1 (pc' := 46) (ls' := [(5, .inl q6.1), (0, .inr (.inr (.inl k0))), (1, .inr (.inr (.inl k1))), (2, .inr (.inr (.inl k2))), (3, .inl s9.1), (4, .inl s9.2)]) (st' := [.inl q6.1]) rfl ?_
        exact hR _ (Option.some.inj h).symm _ _ (jat ok_X3_read 24 (pc := 46) (i := .ireturn) (n := 1) rfl rfl)
    · have h := (if_neg c).symm.trans h
      refine J_seg ok_X3_read 13 1 (pc' := 60) (ls' := [(0, .inr (.inr (.inl k0))), (1, .inr (.inr (.inl k1))), (2, .inr (.inr (.inl k2))), (3, .inl s9.1), (4, .inl s9.2)]) (st' := []) rfl ?_
      refine J_seg ok_X3_read 32 2 (pc' := 9) (ls' := [(4, .inl (s9.2 + 1)), (0, .inr (.inr (.inl k0))), (1, .inr (.inr (.inl k1))), (2, .inr (.inr (.inl k2))), (3, .inl s9.1)]) (st' := []) rfl ?_
      exact J_sub (ls' := [(0, .inr (.inr (.inl k0))), (1, .inr (.inr (.inl k1))), (2, .inr (.inr (.inl k2))), (3, .inl s9.1), (4, .inl (s9.2 + 1))]) [1, 2, 3, 4, 0] rfl (hN ((s9.1, s9.2 + 1), ah) (Option.some.inj h).symm)
def f_X3_read (x0 : Option Nat) (x1 : Option Nat) (x2 : Option Nat) (ah : AH) : Option (Int32 × AH) :=
  if qO ah x2 1 = true then ((f_X1_clear x2 ah).bind fun q1 => (jloop (f_X3_read_b9 x0 x1 x2) jfuel (0, 0) q1.2).bind fun q14 => match q14 with | .inl r => some r | .inr z16 => (gI z16.2 x2 1 5).bind fun v18 => if 2 ≤ v18 then (if qO z16.2 x0 3 = true then ((f_X3_faultOfFoes x0 x2 z16.2).bind fun q20 => some (q20.1, q20.2)) else none) else ((gI z16.2 x1 2 1).bind fun v23 => some (v23, z16.2))) else none
set_option maxRecDepth 100000 in
set_option maxHeartbeats 4000000 in
theorem k_X3_read {l : Launch} {g : GX} (d : Nat) {Q : jQ} {x0 : Option Nat} {x1 : Option Nat} {x2 : Option Nat} (ah : AH) (out : Int32 × AH) (h : f_X3_read x0 x1 x2 ah = some out) (hR : jRetI l g md_X3_read (jRm (d + 5) md_X3_read) Q (0, 0) out.1 out.2) : J l g md_X3_read (jRm (d + 5) md_X3_read) Q 0 [(0, .inr (.inr (.inl x0))), (1, .inr (.inr (.inl x1))), (2, .inr (.inr (.inl x2)))] [] ah (0, 0) := by
  unfold f_X3_read at h
  refine J_seg ok_X3_read 0 1 (pc' := 1) (ls' := [(0, .inr (.inr (.inl x0))), (1, .inr (.inr (.inl x1))), (2, .inr (.inr (.inl x2)))]) (st' := [.inr (.inr (.inl x2))]) rfl ?_
  by_cases c3 : qO ah x2 1 = true
  case neg => exact absurd ((if_neg c3).symm.trans h) (by simp)
  have h := (if_pos c3).symm.trans h
  obtain ⟨q1, h2, h⟩ := Option.bind_eq_some_iff.mp h
  refine J_callV (md' := md_X1_clear) (As := []) (st := []) (cs' := (0, 0)) (st' := []) (jat ok_X3_read 1 (pc := 1) (i := .invokevirtual 15) (n := 3) rfl rfl) ml_RX3_15 yv_X1_clear c3 (c_X1_clear l g (d + 4) h2) (jRo_of (by decide)) (Nat.le_of_ble_eq_true rfl) ⟨Nat.le_of_ble_eq_true rfl, Nat.le_of_ble_eq_true rfl⟩ rfl rfl rfl ?_
  refine J_seg ok_X3_read 2 4 (pc' := 9) (ls' := [(4, .inl 0), (3, .inl 0), (0, .inr (.inr (.inl x0))), (1, .inr (.inr (.inl x1))), (2, .inr (.inr (.inl x2)))]) (st' := []) rfl ?_
  obtain ⟨q14, h15, h⟩ := Option.bind_eq_some_iff.mp h
  refine J_sub (ls' := [(0, .inr (.inr (.inl x0))), (1, .inr (.inr (.inl x1))), (2, .inr (.inr (.inl x2))), (3, .inl 0), (4, .inl 0)]) [2, 3, 4, 1, 0] rfl ?_
  refine J_loop (pE := 66) (lh := fun t17 => [(0, .inr (.inr (.inl x0))), (1, .inr (.inr (.inl x1))), (2, .inr (.inr (.inl x2))), (3, .inl t17.1), (4, .inl t17.2)]) (lx := fun z16 => [(0, .inr (.inr (.inl x0))), (1, .inr (.inr (.inl x1))), (2, .inr (.inr (.inl x2)))]) (P := jRetI l g md_X3_read (jRm (d + 5) md_X3_read) Q (0, 0)) (fun s ah out hb hR hX hN => k_X3_read_b9 d s ah out hb hR hX hN) jfuel (0, 0) _ _ h15 (fun r e => ?_) (fun z16 e => ?_)
  · subst e
    dsimp only at h
    have h := Option.some.inj h
    subst h
    exact hR
  · subst e
    dsimp only at h
    refine J_seg ok_X3_read 34 1 (pc' := 67) (ls' := [(0, .inr (.inr (.inl x0))), (1, .inr (.inr (.inl x1))), (2, .inr (.inr (.inl x2)))]) (st' := [.inr (.inr (.inl x2))]) rfl ?_
    obtain ⟨v18, h19, h⟩ := Option.bind_eq_some_iff.mp h
    refine J_getI (jat ok_X3_read 35 (pc := 67) (i := .getfield 37) (n := 3) rfl rfl) fl_RX3_37 h19 ?_
    refine J_seg ok_X3_read 36 1 (pc' := 71) (ls' := [(0, .inr (.inr (.inl x0))), (1, .inr (.inr (.inl x1))), (2, .inr (.inr (.inl x2)))]) (st' := [.inl 2, .inl v18]) rfl ?_
    refine J_ge (jat ok_X3_read 37 (pc := 71) (i := .if_icmp .ge 10) (n := 3) rfl rfl) (tgt := 81) (by decide) (fun c => ?_) (fun c => ?_)
    · have h := (if_pos c).symm.trans h
      refine J_seg ok_X3_read 41 2 (pc' := 83) (ls' := [(0, .inr (.inr (.inl x0))), (1, .inr (.inr (.inl x1))), (2, .inr (.inr (.inl x2)))]) (st' := [.inr (.inr (.inl x2)), .inr (.inr (.inl x0))]) rfl ?_
      by_cases c22 : qO z16.2 x0 3 = true
      case neg => exact absurd ((if_neg c22).symm.trans h) (by simp)
      have h := (if_pos c22).symm.trans h
      obtain ⟨q20, h21, h⟩ := Option.bind_eq_some_iff.mp h
      refine J_callV (md' := md_X3_faultOfFoes) (As := [.inr (.inr (.inl x2))]) (st := []) (cs' := (0, 0)) (st' := [.inl q20.1]) (jat ok_X3_read 43 (pc := 83) (i := .invokevirtual 38) (n := 3) rfl rfl) ml_RX3_38 yv_X3_faultOfFoes c22 (c_X3_faultOfFoes l g (d + 2) h21) (jRo_of (by decide)) (Nat.le_of_ble_eq_true rfl) ⟨Nat.le_of_ble_eq_true rfl, Nat.le_of_ble_eq_true rfl⟩ rfl rfl rfl ?_
      have h := Option.some.inj h
      subst h
      exact hR _ _ (jat ok_X3_read 44 (pc := 86) (i := .ireturn) (n := 1) rfl rfl)
    · have h := (if_neg c).symm.trans h
      refine J_seg ok_X3_read 38 1 (pc' := 75) (ls' := [(0, .inr (.inr (.inl x0))), (1, .inr (.inr (.inl x1))), (2, .inr (.inr (.inl x2)))]) (st' := [.inr (.inr (.inl x1))]) rfl ?_
      obtain ⟨v23, h24, h⟩ := Option.bind_eq_some_iff.mp h
      refine J_getI (jat ok_X3_read 39 (pc := 75) (i := .getfield 20) (n := 3) rfl rfl) fl_RX3_20 h24 ?_
      refine J_seg ok_X3_read 40 1 (pc' := 86) (ls' := [(0, .inr (.inr (.inl x0))), (1, .inr (.inr (.inl x1))), (2, .inr (.inr (.inl x2)))]) (st' := [.inl v23]) rfl ?_
      have h := Option.some.inj h
      subst h
      exact hR _ _ (jat ok_X3_read 44 (pc := 86) (i := .ireturn) (n := 1) rfl rfl)
theorem c_X3_read (l : Launch) (g : GX) (d : Nat) {x0 : Option Nat} {x1 : Option Nat} {x2 : Option Nat} {ah : AH} {q : Int32 × AH} (h : f_X3_read x0 x1 x2 ah = some q) : jM l g (d + 5) md_X3_read [.inr (.inr (.inl x0)), .inr (.inr (.inl x1)), .inr (.inr (.inl x2))] ah (some (.inl q.1)) q.2 :=
  jM_of (by decide) (Nat.le_of_ble_eq_true rfl) (k_X3_read d ah q h (fun pc ls hd => J_reti hd rfl (jPV_int _) rfl (Nat.le_refl _) rfl rfl))
def f_X4_init (x0 : Nat) (ah : AH) : Option (Unit × AH) :=
  (sF (ah ++ [.inl (List.replicate (Int32.toNatClampNeg 246) 0)]) (some x0) 4 0 (.inr (.inr (.inl (some ah.length))))).bind fun a1 => (sF (a1 ++ [.inl (List.replicate (Int32.toNatClampNeg 246) 0)]) (some x0) 4 1 (.inr (.inr (.inl (some a1.length))))).bind fun a3 => (sF (a3 ++ [.inl (List.replicate (Int32.toNatClampNeg 246) 0)]) (some x0) 4 2 (.inr (.inr (.inl (some a3.length))))).bind fun a5 => some ((), a5)
set_option maxRecDepth 100000 in
set_option maxHeartbeats 4000000 in
theorem k_X4_init {l : Launch} {g : GX} (d : Nat) {Q : jQ} {x0 : Nat} (ah : AH) (out : Unit × AH) (h : f_X4_init x0 ah = some out) (hR : jRetV l g md_X4_init (jRm (d + 1) md_X4_init) Q (3, 738) out.1 out.2) : J l g md_X4_init (jRm (d + 1) md_X4_init) Q 0 [(0, .inr (.inr (.inl (some x0))))] [] ah (0, 0) := by
  unfold f_X4_init at h
  refine J_seg ok_X4_init 0 1 (pc' := 1) (ls' := [(0, .inr (.inr (.inl (some x0))))]) (st' := [.inr (.inr (.inl (some x0)))]) rfl ?_
  refine J_obj (jat ok_X4_init 1 (pc := 1) (i := .invokespecial 3) (n := 3) rfl rfl) mo_RX4_3 oi_i oi_c ⟨by show 1 ≤ d + 1; omega, by show 20 ≤ 64 * (d + 1); omega⟩ (Nat.le_of_ble_eq_true rfl) ?_
  refine J_seg ok_X4_init 2 2 (pc' := 8) (ls' := [(0, .inr (.inr (.inl (some x0))))]) (st' := [.inl 246, .inr (.inr (.inl (some x0)))]) rfl ?_
  refine J_newA (cs' := (1, 246)) (jat ok_X4_init 4 (pc := 8) (i := .newarray .int) (n := 2) rfl rfl) (by decide) (by decide) ac_int (by decide) ⟨Nat.le_of_ble_eq_true rfl, Nat.le_of_ble_eq_true rfl⟩ ?_
  obtain ⟨a1, h2, h⟩ := Option.bind_eq_some_iff.mp h
  refine J_put (jat ok_X4_init 5 (pc := 10) (i := .putfield 9) (n := 3) rfl rfl) fp_RX4_9_i (jPV_arr _ _) h2 ?_
  refine J_seg ok_X4_init 6 2 (pc' := 17) (ls' := [(0, .inr (.inr (.inl (some x0))))]) (st' := [.inl 246, .inr (.inr (.inl (some x0)))]) rfl ?_
  refine J_newA (cs' := (2, 492)) (jat ok_X4_init 8 (pc := 17) (i := .newarray .int) (n := 2) rfl rfl) (by decide) (by decide) ac_int (by decide) ⟨Nat.le_of_ble_eq_true rfl, Nat.le_of_ble_eq_true rfl⟩ ?_
  obtain ⟨a3, h4, h⟩ := Option.bind_eq_some_iff.mp h
  refine J_put (jat ok_X4_init 9 (pc := 19) (i := .putfield 15) (n := 3) rfl rfl) fp_RX4_15_i (jPV_arr _ _) h4 ?_
  refine J_seg ok_X4_init 10 2 (pc' := 26) (ls' := [(0, .inr (.inr (.inl (some x0))))]) (st' := [.inl 246, .inr (.inr (.inl (some x0)))]) rfl ?_
  refine J_newA (cs' := (3, 738)) (jat ok_X4_init 12 (pc := 26) (i := .newarray .int) (n := 2) rfl rfl) (by decide) (by decide) ac_int (by decide) ⟨Nat.le_of_ble_eq_true rfl, Nat.le_of_ble_eq_true rfl⟩ ?_
  obtain ⟨a5, h6, h⟩ := Option.bind_eq_some_iff.mp h
  refine J_put (jat ok_X4_init 13 (pc := 28) (i := .putfield 18) (n := 3) rfl rfl) fp_RX4_18_i (jPV_arr _ _) h6 ?_
  have h := Option.some.inj h
  subst h
  exact hR _ _ (jat ok_X4_init 14 (pc := 31) (i := .return_) (n := 1) rfl rfl)
theorem c_X4_init (l : Launch) (g : GX) (d : Nat) {x0 : Nat} {ah : AH} {q : Unit × AH} (h : f_X4_init x0 ah = some q) : jM l g (d + 1) md_X4_init [.inr (.inr (.inl (some x0)))] ah none q.2 :=
  jM_of (by decide) (Nat.le_of_ble_eq_true rfl) (k_X4_init d ah q h (fun pc ls hd => J_retv hd rfl rfl (Nat.le_refl _) rfl rfl))
