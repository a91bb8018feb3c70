def f_X6_isWeek_b4_j58 (k0 : Option Nat) (k1 : Int32) (x3 : Int32) (ah : AH) : Option ((Unit × AH) ⊕ (((Int32) × AH) ⊕ ((Int32 × Int32) × AH))) :=
  some (.inr (.inr ((1, x3 + 1), ah)))
set_option maxRecDepth 100000 in
set_option maxHeartbeats 4000000 in
theorem k_X6_isWeek_b4_j58 {l : Launch} {g : GX} (d : Nat) {Q : jQ} {k0 : Option Nat} {k1 : Int32} {x3 : Int32} (ah : AH) (out : (Unit × AH) ⊕ (((Int32) × AH) ⊕ ((Int32 × Int32) × AH))) (h : f_X6_isWeek_b4_j58 k0 k1 x3 ah = some out) (hR : ∀ q, out = .inl q → jRetN q.1 q.2) (hX : ∀ q, out = .inr (.inl q) → J l g md_X6_isWeek (jRm (d + 1) md_X6_isWeek) Q 70 [(2, .inl q.1)] [] q.2 (0, 0)) (hN : ∀ q, out = .inr (.inr q) → J l g md_X6_isWeek (jRm (d + 1) md_X6_isWeek) Q 4 [(0, .inr (.inr (.inl k0))), (1, .inl k1), (2, .inl q.1.1), (3, .inl q.1.2)] [] q.2 (0, 0)) : J l g md_X6_isWeek (jRm (d + 1) md_X6_isWeek) Q 58 [(0, .inr (.inr (.inl k0))), (1, .inl k1), (3, .inl x3)] [] ah (0, 0) := by
  unfold f_X6_isWeek_b4_j58 at h
  refine J_seg ok_X6_isWeek 33 2 (pc' := 63) (ls' := [(0, .inr (.inr (.inl k0))), (1, .inl k1), (3, .inl x3)]) (st' := [.inl 1]) rfl ?_
  refine J_seg ok_X6_isWeek 36 3 (pc' := 4) (ls' := [(3, .inl (x3 + 1)), (2, .inl 1), (0, .inr (.inr (.inl k0))), (1, .inl k1)]) (st' := []) rfl ?_
  exact J_sub (ls' := [(0, .inr (.inr (.inl k0))), (1, .inl k1), (2, .inl 1), (3, .inl (x3 + 1))]) [2, 3, 1, 0] rfl (hN ((1, x3 + 1), ah) (Option.some.inj h).symm)
def f_X6_isWeek_b4 (k0 : Option Nat) (k1 : Int32) (s4 : Int32 × Int32) (ah : AH) : Option ((Unit × AH) ⊕ (((Int32) × AH) ⊕ ((Int32 × Int32) × AH))) :=
  (gI ah k0 6 1).bind fun v1 => if v1 ≤ s4.2 then (some (.inr (.inl (s4.1, ah)))) else ((gR ah k0 6 8).bind fun v3 => (gA ah v3 ((40 * k1) + s4.2)).bind fun v5 => if s4.1 = 0 then (some (.inr (.inr ((0, s4.2 + 1), ah)))) else ((f_X6_in (Int32.toInt64 v5) 0 2 ah).bind fun q7 => if q7.1 = 0 then (some (.inr (.inr ((0, s4.2 + 1), q7.2)))) else (if v5 = 2 then (if qO q7.2 k0 6 = true then ((f_X6_victim k0 s4.2 q7.2).bind fun q9 => if q9.1 = (-9) then (some (.inr (.inr ((0, s4.2 + 1), q9.2)))) else (f_X6_isWeek_b4_j58 k0 k1 s4.2 q9.2)) else none) else (f_X6_isWeek_b4_j58 k0 k1 s4.2 q7.2))))
set_option maxRecDepth 100000 in
set_option maxHeartbeats 4000000 in
theorem k_X6_isWeek_b4 {l : Launch} {g : GX} (d : Nat) {Q : jQ} {k0 : Option Nat} {k1 : Int32} (s4 : Int32 × Int32) (ah : AH) (out : (Unit × AH) ⊕ (((Int32) × AH) ⊕ ((Int32 × Int32) × AH))) (h : f_X6_isWeek_b4 k0 k1 s4 ah = some out) (hR : ∀ q, out = .inl q → jRetN q.1 q.2) (hX : ∀ q, out = .inr (.inl q) → J l g md_X6_isWeek (jRm (d + 1) md_X6_isWeek) Q 70 [(2, .inl q.1)] [] q.2 (0, 0)) (hN : ∀ q, out = .inr (.inr q) → J l g md_X6_isWeek (jRm (d + 1) md_X6_isWeek) Q 4 [(0, .inr (.inr (.inl k0))), (1, .inl k1), (2, .inl q.1.1), (3, .inl q.1.2)] [] q.2 (0, 0)) : J l g md_X6_isWeek (jRm (d + 1) md_X6_isWeek) Q 4 [(0, .inr (.inr (.inl k0))), (1, .inl k1), (2, .inl s4.1), (3, .inl s4.2)] [] ah (0, 0) := by
  unfold f_X6_isWeek_b4 at h
  refine J_seg ok_X6_isWeek 4 2 (pc' := 6) (ls' := [(0, .inr (.inr (.inl k0))), (1, .inl k1), (2, .inl s4.1), (3, .inl s4.2)]) (st' := [.inr (.inr (.inl k0)), .inl s4.2]) rfl ?_
  obtain ⟨v1, h2, h⟩ := Option.bind_eq_some_iff.mp h
  refine J_getI (jat ok_X6_isWeek 6 (pc := 6) (i := .getfield 148) (n := 3) rfl rfl) fl_RX6_148 h2 ?_
  refine J_ge (jat ok_X6_isWeek 7 (pc := 9) (i := .if_icmp .ge 61) (n := 3) rfl rfl) (tgt := 70) (by decide) (fun c => ?_) (fun c => ?_)
  · have h := (if_pos c).symm.trans h
    exact J_sub (ls' := [(2, .inl s4.1)]) [2] rfl (hX (s4.1, ah) (Option.some.inj h).symm)
  · have h := (if_neg c).symm.trans h
    refine J_seg ok_X6_isWeek 8 1 (pc' := 13) (ls' := [(0, .inr (.inr (.inl k0))), (1, .inl k1), (2, .inl s4.1), (3, .inl s4.2)]) (st' := [.inr (.inr (.inl k0))]) rfl ?_
    obtain ⟨v3, h4, h⟩ := Option.bind_eq_some_iff.mp h
    refine J_getR (jat ok_X6_isWeek 9 (pc := 13) (i := .getfield 28) (n := 3) rfl rfl) fl_RX6_28 h4 ?_
    refine J_seg ok_X6_isWeek 10 5 (pc' := 22) (ls' := [(0, .inr (.inr (.inl k0))), (1, .inl k1), (2, .inl s4.1), (3, .inl s4.2)]) (st' := [.inl ((40 * k1) + s4.2), .inr (.inr (.inl v3))]) rfl ?_
    obtain ⟨v5, h6, h⟩ := Option.bind_eq_some_iff.mp h
    refine J_iald (jat ok_X6_isWeek 15 (pc := 22) (i := .iaload) (n := 1) rfl rfl) h6 ?_
    refine J_seg ok_X6_isWeek 16 2 (pc' := 26) (ls' := [(4, .inl v5), (0, .inr (.inr (.inl k0))), (1, .inl k1), (2, .inl s4.1), (3, .inl s4.2)]) (st' := [.inl s4.1]) rfl ?_
    refine J_eq0 (jat ok_X6_isWeek 18 (pc := 26) (i := .ifCond .eq 36) (n := 3) rfl rfl) (tgt := 62) (by decide) (fun c => ?_) (fun c => ?_)
    · have h := (if_pos c).symm.trans h
      refine J_seg ok_X6_isWeek 35 4 (pc' := 4) (ls' := [(3, .inl (s4.2 + 1)), (2, .inl 0), (4, .inl v5), (0, .inr (.inr (.inl k0))), (1, .inl k1)]) (st' := []) rfl ?_
      exact J_sub (ls' := [(0, .inr (.inr (.inl k0))), (1, .inl k1), (2, .inl 0), (3, .inl (s4.2 + 1))]) [3, 4, 1, 0] rfl (hN ((0, s4.2 + 1), ah) (Option.some.inj h).symm)
    · have h := (if_neg c).symm.trans h
      refine J_seg ok_X6_isWeek 19 3 (pc' := 33) (ls' := [(4, .inl v5), (0, .inr (.inr (.inl k0))), (1, .inl k1), (2, .inl s4.1), (3, .inl s4.2)]) (st' := [.inr (.inl 0), .inr (.inl (Int32.toInt64 v5))]) rfl ?_
      refine J_ldc2 (jat ok_X6_isWeek 22 (pc := 33) (i := .ldc2_w 198) (n := 3) rfl rfl) lc_RX6_198 ?_
      obtain ⟨q7, h8, h⟩ := Option.bind_eq_some_iff.mp h
      refine J_callS (md' := md_X6_in) (As := [.inr (.inl (Int32.toInt64 v5)), .inr (.inl 0), .inr (.inl 2)]) (st := []) (cs' := (0, 0)) (st' := [.inl q7.1]) (jat ok_X6_isWeek 23 (pc := 36) (i := .invokestatic 71) (n := 3) rfl rfl) (Or.inl ml_RX6_71) ys_X6_in (c_X6_in l g (d + 0) h8) (jRo_of (by decide)) (Nat.le_of_ble_eq_true rfl) ⟨Nat.le_of_ble_eq_true rfl, Nat.le_of_ble_eq_true rfl⟩ rfl rfl rfl ?_
      refine J_eq0 (jat ok_X6_isWeek 24 (pc := 39) (i := .ifCond .eq 23) (n := 3) rfl rfl) (tgt := 62) (by decide) (fun c => ?_) (fun c => ?_)
      · have h := (if_pos c).symm.trans h
        refine J_seg ok_X6_isWeek 35 4 (pc' := 4) (ls' := [(3, .inl (s4.2 + 1)), (2, .inl 0), (4, .inl v5), (0, .inr (.inr (.inl k0))), (1, .inl k1)]) (st' := []) rfl ?_
        exact J_sub (ls' := [(0, .inr (.inr (.inl k0))), (1, .inl k1), (2, .inl 0), (3, .inl (s4.2 + 1))]) [3, 4, 1, 0] rfl (hN ((0, s4.2 + 1), q7.2) (Option.some.inj h).symm)
      · have h := (if_neg c).symm.trans h
        refine J_seg ok_X6_isWeek 25 2 (pc' := 45) (ls' := [(4, .inl v5), (0, .inr (.inr (.inl k0))), (1, .inl k1), (2, .inl s4.1), (3, .inl s4.2)]) (st' := [.inl 2, .inl v5]) rfl ?_
        refine J_ne (jat ok_X6_isWeek 27 (pc := 45) (i := .if_icmp .ne 13) (n := 3) rfl rfl) (tgt := 58) (by decide) (fun c => ?_) (fun c => ?_)
        · have h := (if_neg c).symm.trans h
          refine J_sub (ls' := [(0, .inr (.inr (.inl k0))), (1, .inl k1), (3, .inl s4.2)]) [1, 2, 4] rfl ?_
          exact k_X6_isWeek_b4_j58 d _ _ h hR hX hN
        · have h := (if_pos c).symm.trans h
          refine J_seg ok_X6_isWeek 28 2 (pc' := 50) (ls' := [(4, .inl v5), (0, .inr (.inr (.inl k0))), (1, .inl k1), (2, .inl s4.1), (3, .inl s4.2)]) (st' := [.inl s4.2, .inr (.inr (.inl k0))]) rfl ?_
          by_cases c11 : qO q7.2 k0 6 = true
          case neg => exact absurd ((if_neg c11).symm.trans h) (by simp)
          have h := (if_pos c11).symm.trans h
          obtain ⟨q9, h10, h⟩ := Option.bind_eq_some_iff.mp h
          refine J_callV (md' := md_X6_victim) (As := [.inl s4.2]) (st := []) (cs' := (0, 0)) (st' := [.inl q9.1]) (jat ok_X6_isWeek 30 (pc := 50) (i := .invokevirtual 157) (n := 3) rfl rfl) ml_RX6_157 yv_X6_victim c11 (c_X6_victim l g (d + 0) h10) (jRo_of (by decide)) (Nat.le_of_ble_eq_true rfl) ⟨Nat.le_of_ble_eq_true rfl, Nat.le_of_ble_eq_true rfl⟩ rfl rfl rfl ?_
          refine J_seg ok_X6_isWeek 31 1 (pc' := 55) (ls' := [(4, .inl v5), (0, .inr (.inr (.inl k0))), (1, .inl k1), (2, .inl s4.1), (3, .inl s4.2)]) (st' := [.inl (-9), .inl q9.1]) rfl ?_
          refine J_eq (jat ok_X6_isWeek 32 (pc := 55) (i := .if_icmp .eq 7) (n := 3) rfl rfl) (tgt := 62) (by decide) (fun c => ?_) (fun c => ?_)
          · have h := (if_pos c).symm.trans h
            refine J_seg ok_X6_isWeek 35 4 (pc' := 4) (ls' := [(3, .inl (s4.2 + 1)), (2, .inl 0), (4, .inl v5), (0, .inr (.inr (.inl k0))), (1, .inl k1)]) (st' := []) rfl ?_
            exact J_sub (ls' := [(0, .inr (.inr (.inl k0))), (1, .inl k1), (2, .inl 0), (3, .inl (s4.2 + 1))]) [3, 4, 1, 0] rfl (hN ((0, s4.2 + 1), q9.2) (Option.some.inj h).symm)
          · have h := (if_neg c).symm.trans h
            refine J_sub (ls' := [(0, .inr (.inr (.inl k0))), (1, .inl k1), (3, .inl s4.2)]) [1, 2, 4] rfl ?_
            exact k_X6_isWeek_b4_j58 d _ _ h hR hX hN
def f_X6_isWeek (x0 : Option Nat) (x1 : Int32) (ah : AH) : Option (Int32 × AH) :=
  (jloop (f_X6_isWeek_b4 x0 x1) jfuel (1, 0) ah).bind fun q12 => match q12 with | .inl r => none | .inr z14 => if z14.1 = 0 ∨ z14.1 = 1 then some (z14.1, z14.2) else none
set_option maxRecDepth 100000 in
set_option maxHeartbeats 4000000 in
theorem k_X6_isWeek {l : Launch} {g : GX} (d : Nat) {Q : jQ} {x0 : Option Nat} {x1 : Int32} (ah : AH) (out : Int32 × AH) (h : f_X6_isWeek x0 x1 ah = some out) (hR : jRetZ l g md_X6_isWeek (jRm (d + 1) md_X6_isWeek) Q (0, 0) out.1 out.2) : J l g md_X6_isWeek (jRm (d + 1) md_X6_isWeek) Q 0 [(0, .inr (.inr (.inl x0))), (1, .inl x1)] [] ah (0, 0) := by
  unfold f_X6_isWeek at h
  refine J_seg ok_X6_isWeek 0 4 (pc' := 4) (ls' := [(3, .inl 0), (2, .inl 1), (0, .inr (.inr (.inl x0))), (1, .inl x1)]) (st' := []) rfl ?_
  obtain ⟨q12, h13, h⟩ := Option.bind_eq_some_iff.mp h
  refine J_sub (ls' := [(0, .inr (.inr (.inl x0))), (1, .inl x1), (2, .inl 1), (3, .inl 0)]) [2, 3, 1, 0] rfl ?_
  refine J_loop (pE := 70) (lh := fun t15 => [(0, .inr (.inr (.inl x0))), (1, .inl x1), (2, .inl t15.1), (3, .inl t15.2)]) (lx := fun z14 => [(2, .inl z14)]) (P := jRetN) (fun s ah out hb hR hX hN => k_X6_isWeek_b4 d s ah out hb hR hX hN) jfuel (1, 0) _ _ h13 (fun r e => ?_) (fun z14 e => ?_)
  · subst e
    dsimp only at h
    cases h
  · subst e
    dsimp only at h
    refine J_seg ok_X6_isWeek 39 1 (pc' := 71) (ls' := [(2, .inl z14.1)]) (st' := [.inl z14.1]) rfl ?_
    by_cases c : z14.1 = 0 ∨ z14.1 = 1
    · have h := (if_pos c).symm.trans h
      have h := Option.some.inj h
      subst h
      exact hR _ _ (jat ok_X6_isWeek 40 (pc := 71) (i := .ireturn) (n := 1) rfl rfl) c
    · have h := (if_neg c).symm.trans h
      cases h
theorem c_X6_isWeek (l : Launch) (g : GX) (d : Nat) {x0 : Option Nat} {x1 : Int32} {ah : AH} {q : Int32 × AH} (h : f_X6_isWeek x0 x1 ah = some q) : jM l g (d + 1) md_X6_isWeek [.inr (.inr (.inl x0)), .inl x1] ah (some (.inl q.1)) q.2 :=
  jM_of (by decide) (Nat.le_of_ble_eq_true rfl) (k_X6_isWeek d ah q h (fun pc ls hd c => J_reti hd rfl (jPV_z c) rfl (Nat.le_refl _) rfl rfl))
def f_X6_week_b83 (k0 : Option Nat) (k1 : Int32) (s83 : Int32) (ah : AH) : Option ((Unit × AH) ⊕ (((Unit) × AH) ⊕ ((Int32) × AH))) :=
  (gI ah k0 6 1).bind fun v22 => if v22 ≤ s83 then (some (.inr (.inl ((), ah)))) else ((gR ah k0 6 23).bind fun v24 => (gR ah k0 6 8).bind fun v26 => (gA ah v26 ((40 * k1) + s83)).bind fun v28 => (sA ah v24 s83 v28).bind fun a30 => some (.inr (.inr (s83 + 1, a30))))
set_option maxRecDepth 100000 in
set_option maxHeartbeats 4000000 in
theorem k_X6_week_b83 {l : Launch} {g : GX} (d : Nat) {Q : jQ} {k0 : Option Nat} {k1 : Int32} (s83 : Int32) (ah : AH) (out : (Unit × AH) ⊕ (((Unit) × AH) ⊕ ((Int32) × AH))) (h : f_X6_week_b83 k0 k1 s83 ah = some out) (hR : ∀ q, out = .inl q → jRetN q.1 q.2) (hX : ∀ q, out = .inr (.inl q) → J l g md_X6_week (jRm (d + 3) md_X6_week) Q 114 [(0, .inr (.inr (.inl k0)))] [] q.2 (0, 0)) (hN : ∀ q, out = .inr (.inr q) → J l g md_X6_week (jRm (d + 3) md_X6_week) Q 83 [(0, .inr (.inr (.inl k0))), (1, .inl k1), (2, .inl q.1)] [] q.2 (0, 0)) : J l g md_X6_week (jRm (d + 3) md_X6_week) Q 83 [(0, .inr (.inr (.inl k0))), (1, .inl k1), (2, .inl s83)] [] ah (0, 0) := by
  unfold f_X6_week_b83 at h
  refine J_seg ok_X6_week 48 2 (pc' := 85) (ls' := [(0, .inr (.inr (.inl k0))), (1, .inl k1), (2, .inl s83)]) (st' := [.inr (.inr (.inl k0)), .inl s83]) rfl ?_
  obtain ⟨v22, h23, h⟩ := Option.bind_eq_some_iff.mp h
  refine J_getI (jat ok_X6_week 50 (pc := 85) (i := .getfield 148) (n := 3) rfl rfl) fl_RX6_148 h23 ?_
  refine J_ge (jat ok_X6_week 51 (pc := 88) (i := .if_icmp .ge 26) (n := 3) rfl rfl) (tgt := 114) (by decide) (fun c => ?_) (fun c => ?_)
  · have h := (if_pos c).symm.trans h
    exact J_sub (ls' := [(0, .inr (.inr (.inl k0)))]) [0] rfl (hX ((), ah) (Option.some.inj h).symm)
  · have h := (if_neg c).symm.trans h
    refine J_seg ok_X6_week 52 1 (pc' := 92) (ls' := [(0, .inr (.inr (.inl k0))), (1, .inl k1), (2, .inl s83)]) (st' := [.inr (.inr (.inl k0))]) rfl ?_
    obtain ⟨v24, h25, h⟩ := Option.bind_eq_some_iff.mp h
    refine J_getR (jat ok_X6_week 53 (pc := 92) (i := .getfield 50) (n := 3) rfl rfl) fl_RX6_50 h25 ?_
    refine J_seg ok_X6_week 54 2 (pc' := 97) (ls' := [(0, .inr (.inr (.inl k0))), (1, .inl k1), (2, .inl s83)]) (st' := [.inr (.inr (.inl k0)), .inl s83, .inr (.inr (.inl v24))]) rfl ?_
    obtain ⟨v26, h27, h⟩ := Option.bind_eq_some_iff.mp h
    refine J_getR (jat ok_X6_week 56 (pc := 97) (i := .getfield 28) (n := 3) rfl rfl) fl_RX6_28 h27 ?_
    refine J_seg ok_X6_week 57 5 (pc' := 106) (ls' := [(0, .inr (.inr (.inl k0))), (1, .inl k1), (2, .inl s83)]) (st' := [.inl ((40 * k1) + s83), .inr (.inr (.inl v26)), .inl s83, .inr (.inr (.inl v24))]) rfl ?_
    obtain ⟨v28, h29, h⟩ := Option.bind_eq_some_iff.mp h
    refine J_iald (jat ok_X6_week 62 (pc := 106) (i := .iaload) (n := 1) rfl rfl) h29 ?_
    obtain ⟨a30, h31, h⟩ := Option.bind_eq_some_iff.mp h
    refine J_iast (jat ok_X6_week 63 (pc := 107) (i := .iastore) (n := 1) rfl rfl) h31 ?_
    refine J_seg ok_X6_week 64 2 (pc' := 83) (ls' := [(2, .inl (s83 + 1)), (0, .inr (.inr (.inl k0))), (1, .inl k1)]) (st' := []) rfl ?_
    exact J_sub (ls' := [(0, .inr (.inr (.inl k0))), (1, .inl k1), (2, .inl (s83 + 1))]) [1, 2, 0] rfl (hN (s83 + 1, a30) (Option.some.inj h).symm)
def f_X6_week (x0 : Option Nat) (x1 : Int32) (ah : AH) : Option (Int32 × AH) :=
  (f_X6_isRow x1 ah).bind fun q1 => if q1.1 = 0 then (some ((-1), q1.2)) else ((gI q1.2 x0 6 1).bind fun v3 => if v3 = 0 then (some ((-4), q1.2)) else ((gR q1.2 x0 6 7).bind fun v5 => (gA q1.2 v5 x1).bind fun v7 => if 0 ≤ v7 then ((gR q1.2 x0 6 7).bind fun v9 => (gA q1.2 v9 x1).bind fun v11 => (gI q1.2 x0 6 1).bind fun v13 => if v11 = v13 then (if qO q1.2 x0 6 = true then ((f_X6_isWeek x0 x1 q1.2).bind fun q15 => if q15.1 = 0 then (if qO q15.2 x0 6 = true then ((f_X6_find x0 3 q15.2).bind fun q39 => some (q39.1, q39.2)) else none) else ((gR q15.2 x0 6 0).bind fun v18 => (gA q15.2 v18 0).bind fun v20 => if v20 = 40 then (some ((-2), q15.2)) else ((jloop (f_X6_week_b83 x0 x1) jfuel 0 q15.2).bind fun q32 => match q32 with | .inl r => none | .inr z34 => if qO z34.2 x0 6 = true then ((f_X6_pass x0 z34.2).bind fun q36 => some (q36.1, q36.2)) else none))) else none) else (if qO q1.2 x0 6 = true then ((f_X6_find x0 5 q1.2).bind fun q42 => some (q42.1, q42.2)) else none)) else (if qO q1.2 x0 6 = true then ((f_X6_find x0 1 q1.2).bind fun q45 => some (q45.1, q45.2)) else none)))
set_option maxRecDepth 100000 in
set_option maxHeartbeats 4000000 in
theorem k_X6_week {l : Launch} {g : GX} (d : Nat) {Q : jQ} {x0 : Option Nat} {x1 : Int32} (ah : AH) (out : Int32 × AH) (h : f_X6_week x0 x1 ah = some out) (hR : jRetI l g md_X6_week (jRm (d + 3) md_X6_week) Q (0, 0) out.1 out.2) : J l g md_X6_week (jRm (d + 3) md_X6_week) Q 0 [(0, .inr (.inr (.inl x0))), (1, .inl x1)] [] ah (0, 0) := by
  unfold f_X6_week at h
  refine J_seg ok_X6_week 0 1 (pc' := 1) (ls' := [(0, .inr (.inr (.inl x0))), (1, .inl x1)]) (st' := [.inl x1]) rfl ?_
  obtain ⟨q1, h2, h⟩ := Option.bind_eq_some_iff.mp h
  refine J_callS (md' := md_X6_isRow) (As := [.inl x1]) (st := []) (cs' := (0, 0)) (st' := [.inl q1.1]) (jat ok_X6_week 1 (pc := 1) (i := .invokestatic 77) (n := 3) rfl rfl) (Or.inl ml_RX6_77) ys_X6_isRow (c_X6_isRow l g (d + 1) h2) (jRo_of (by decide)) (Nat.le_of_ble_eq_true rfl) ⟨Nat.le_of_ble_eq_true rfl, Nat.le_of_ble_eq_true rfl⟩ rfl rfl rfl ?_
  refine J_ne0 (jat ok_X6_week 2 (pc := 4) (i := .ifCond .ne 5) (n := 3) rfl rfl) (tgt := 9) (by decide) (fun c => ?_) (fun c => ?_)
  · have h := (if_neg c).symm.trans h
    refine J_seg ok_X6_week 5 1 (pc' := 10) (ls' := [(0, .inr (.inr (.inl x0))), (1, .inl x1)]) (st' := [.inr (.inr (.inl x0))]) rfl ?_
    obtain ⟨v3, h4, h⟩ := Option.bind_eq_some_iff.mp h
    refine J_getI (jat ok_X6_week 6 (pc := 10) (i := .getfield 148) (n := 3) rfl rfl) fl_RX6_148 h4 ?_
    refine J_ne0 (jat ok_X6_week 7 (pc := 13) (i := .ifCond .ne 6) (n := 3) rfl rfl) (tgt := 19) (by decide) (fun c => ?_) (fun c => ?_)
    · have h := (if_neg c).symm.trans h
      refine J_seg ok_X6_week 10 1 (pc' := 20) (ls' := [(0, .inr (.inr (.inl x0))), (1, .inl x1)]) (st' := [.inr (.inr (.inl x0))]) rfl ?_
      obtain ⟨v5, h6, h⟩ := Option.bind_eq_some_iff.mp h
      refine J_getR (jat ok_X6_week 11 (pc := 20) (i := .getfield 25) (n := 3) rfl rfl) fl_RX6_25 h6 ?_
      refine J_seg ok_X6_week 12 1 (pc' := 24) (ls' := [(0, .inr (.inr (.inl x0))), (1, .inl x1)]) (st' := [.inl x1, .inr (.inr (.inl v5))]) rfl ?_
      obtain ⟨v7, h8, h⟩ := Option.bind_eq_some_iff.mp h
      refine J_iald (jat ok_X6_week 13 (pc := 24) (i := .iaload) (n := 1) rfl rfl) h8 ?_
      refine J_ge0 (jat ok_X6_week 14 (pc := 25) (i := .ifCond .ge 9) (n := 3) rfl rfl) (tgt := 34) (by decide) (fun c => ?_) (fun c => ?_)
      · have h := (if_pos c).symm.trans h
        refine J_seg ok_X6_week 19 1 (pc' := 35) (ls' := [(0, .inr (.inr (.inl x0))), (1, .inl x1)]) (st' := [.inr (.inr (.inl x0))]) rfl ?_
        obtain ⟨v9, h10, h⟩ := Option.bind_eq_some_iff.mp h
        refine J_getR (jat ok_X6_week 20 (pc := 35) (i := .getfield 25) (n := 3) rfl rfl) fl_RX6_25 h10 ?_
        refine J_seg ok_X6_week 21 1 (pc' := 39) (ls' := [(0, .inr (.inr (.inl x0))), (1, .inl x1)]) (st' := [.inl x1, .inr (.inr (.inl v9))]) rfl ?_
        obtain ⟨v11, h12, h⟩ := Option.bind_eq_some_iff.mp h
        refine J_iald (jat ok_X6_week 22 (pc := 39) (i := .iaload) (n := 1) rfl rfl) h12 ?_
        refine J_seg ok_X6_week 23 1 (pc' := 41) (ls' := [(0, .inr (.inr (.inl x0))), (1, .inl x1)]) (st' := [.inr (.inr (.inl x0)), .inl v11]) rfl ?_
        obtain ⟨v13, h14, h⟩ := Option.bind_eq_some_iff.mp h
        refine J_getI (jat ok_X6_week 24 (pc := 41) (i := .getfield 148) (n := 3) rfl rfl) fl_RX6_148 h14 ?_
        refine J_eq (jat ok_X6_week 25 (pc := 44) (i := .if_icmp .eq 9) (n := 3) rfl rfl) (tgt := 53) (by decide) (fun c => ?_) (fun c => ?_)
        · have h := (if_pos c).symm.trans h
          refine J_seg ok_X6_week 30 2 (pc' := 55) (ls' := [(0, .inr (.inr (.inl x0))), (1, .inl x1)]) (st' := [.inl x1, .inr (.inr (.inl x0))]) rfl ?_
          by_cases c17 : qO q1.2 x0 6 = true
          case neg => exact absurd ((if_neg c17).symm.trans h) (by simp)
          have h := (if_pos c17).symm.trans h
          obtain ⟨q15, h16, h⟩ := Option.bind_eq_some_iff.mp h
          refine J_callV (md' := md_X6_isWeek) (As := [.inl x1]) (st := []) (cs' := (0, 0)) (st' := [.inl q15.1]) (jat ok_X6_week 32 (pc := 55) (i := .invokevirtual 200) (n := 3) rfl rfl) ml_RX6_200 yv_X6_isWeek c17 (c_X6_isWeek l g (d + 1) h16) (jRo_of (by decide)) (Nat.le_of_ble_eq_true rfl) ⟨Nat.le_of_ble_eq_true rfl, Nat.le_of_ble_eq_true rfl⟩ rfl rfl rfl ?_
          refine J_ne0 (jat ok_X6_week 33 (pc := 58) (i := .ifCond .ne 9) (n := 3) rfl rfl) (tgt := 67) (by decide) (fun c => ?_) (fun c => ?_)
          · have h := (if_neg c).symm.trans h
            refine J_seg ok_X6_week 38 1 (pc' := 68) (ls' := [(0, .inr (.inr (.inl x0))), (1, .inl x1)]) (st' := [.inr (.inr (.inl x0))]) rfl ?_
            obtain ⟨v18, h19, h⟩ := Option.bind_eq_some_iff.mp h
            refine J_getR (jat ok_X6_week 39 (pc := 68) (i := .getfield 7) (n := 3) rfl rfl) fl_RX6_7 h19 ?_
            refine J_seg ok_X6_week 40 1 (pc' := 72) (ls' := [(0, .inr (.inr (.inl x0))), (1, .inl x1)]) (st' := [.inl 0, .inr (.inr (.inl v18))]) rfl ?_
            obtain ⟨v20, h21, h⟩ := Option.bind_eq_some_iff.mp h
            refine J_iald (jat ok_X6_week 41 (pc := 72) (i := .iaload) (n := 1) rfl rfl) h21 ?_
            refine J_seg ok_X6_week 42 1 (pc' := 75) (ls' := [(0, .inr (.inr (.inl x0))), (1, .inl x1)]) (st' := [.inl 40, .inl v20]) rfl ?_
            refine J_ne (jat ok_X6_week 43 (pc := 75) (i := .if_icmp .ne 6) (n := 3) rfl rfl) (tgt := 81) (by decide) (fun c => ?_) (fun c => ?_)
            · have h := (if_neg c).symm.trans h
              refine J_seg ok_X6_week 46 2 (pc' := 83) (ls' := [(2, .inl 0), (0, .inr (.inr (.inl x0))), (1, .inl x1)]) (st' := []) rfl ?_
              obtain ⟨q32, h33, h⟩ := Option.bind_eq_some_iff.mp h
              refine J_sub (ls' := [(0, .inr (.inr (.inl x0))), (1, .inl x1), (2, .inl 0)]) [1, 2, 0] rfl ?_
              refine J_loop (pE := 114) (lh := fun t35 => [(0, .inr (.inr (.inl x0))), (1, .inl x1), (2, .inl t35)]) (lx := fun z34 => [(0, .inr (.inr (.inl x0)))]) (P := jRetN) (fun s ah out hb hR hX hN => k_X6_week_b83 d s ah out hb hR hX hN) jfuel 0 _ _ h33 (fun r e => ?_) (fun z34 e => ?_)
              · subst e
                dsimp only at h
                cases h
              · subst e
                dsimp only at h
                refine J_seg ok_X6_week 66 1 (pc' := 115) (ls' := [(0, .inr (.inr (.inl x0)))]) (st' := [.inr (.inr (.inl x0))]) rfl ?_
                by_cases c38 : qO z34.2 x0 6 = true
                case neg => exact absurd ((if_neg c38).symm.trans h) (by simp)
                have h := (if_pos c38).symm.trans h
                obtain ⟨q36, h37, h⟩ := Option.bind_eq_some_iff.mp h
                refine J_callV (md' := md_X6_pass) (As := []) (st := []) (cs' := (0, 0)) (st' := [.inl q36.1]) (jat ok_X6_week 67 (pc := 115) (i := .invokevirtual 203) (n := 3) rfl rfl) ml_RX6_203 yv_X6_pass c38 (c_X6_pass l g (d + 0) h37) (jRo_of (by decide)) (Nat.le_of_ble_eq_true rfl) ⟨Nat.le_of_ble_eq_true rfl, Nat.le_of_ble_eq_true rfl⟩ rfl rfl rfl ?_
                have h := Option.some.inj h
                subst h
                exact hR _ _ (jat ok_X6_week 68 (pc := 118) (i := .ireturn) (n := 1) rfl rfl)
            · have h := (if_pos c).symm.trans h
              refine J_seg ok_X6_week 44 1 (pc' := 80) (ls' := [(0, .inr (.inr (.inl x0))), (1, .inl x1)]) (st' := [.inl (-2)]) rfl ?_
              have h := Option.some.inj h
              subst h
              exact hR _ _ (jat ok_X6_week 45 (pc := 80) (i := .ireturn) (n := 1) rfl rfl)
          · have h := (if_pos c).symm.trans h
            refine J_seg ok_X6_week 34 2 (pc' := 63) (ls' := [(0, .inr (.inr (.inl x0))), (1, .inl x1)]) (st' := [.inl 3, .inr (.inr (.inl x0))]) rfl ?_
            by_cases c41 : qO q15.2 x0 6 = true
            case neg => exact absurd ((if_neg c41).symm.trans h) (by simp)
            have h := (if_pos c41).symm.trans h
            obtain ⟨q39, h40, h⟩ := Option.bind_eq_some_iff.mp h
            refine J_callV (md' := md_X6_find) (As := [.inl 3]) (st := []) (cs' := (0, 0)) (st' := [.inl q39.1]) (jat ok_X6_week 36 (pc := 63) (i := .invokevirtual 81) (n := 3) rfl rfl) ml_RX6_81 yv_X6_find c41 (c_X6_find l g (d + 2) h40) (jRo_of (by decide)) (Nat.le_of_ble_eq_true rfl) ⟨Nat.le_of_ble_eq_true rfl, Nat.le_of_ble_eq_true rfl⟩ rfl rfl rfl ?_
            have h := Option.some.inj h
            subst h
            exact hR _ _ (jat ok_X6_week 37 (pc := 66) (i := .ireturn) (n := 1) rfl rfl)
        · have h := (if_neg c).symm.trans h
          refine J_seg ok_X6_week 26 2 (pc' := 49) (ls' := [(0, .inr (.inr (.inl x0))), (1, .inl x1)]) (st' := [.inl 5, .inr (.inr (.inl x0))]) rfl ?_
          by_cases c44 : qO q1.2 x0 6 = true
          case neg => exact absurd ((if_neg c44).symm.trans h) (by simp)
          have h := (if_pos c44).symm.trans h
          obtain ⟨q42, h43, h⟩ := Option.bind_eq_some_iff.mp h
          refine J_callV (md' := md_X6_find) (As := [.inl 5]) (st := []) (cs' := (0, 0)) (st' := [.inl q42.1]) (jat ok_X6_week 28 (pc := 49) (i := .invokevirtual 81) (n := 3) rfl rfl) ml_RX6_81 yv_X6_find c44 (c_X6_find l g (d + 2) h43) (jRo_of (by decide)) (Nat.le_of_ble_eq_true rfl) ⟨Nat.le_of_ble_eq_true rfl, Nat.le_of_ble_eq_true rfl⟩ rfl rfl rfl ?_
          have h := Option.some.inj h
          subst h
          exact hR _ _ (jat ok_X6_week 29 (pc := 52) (i := .ireturn) (n := 1) rfl rfl)
      · have h := (if_neg c).symm.trans h
        refine J_seg ok_X6_week 15 2 (pc' := 30) (ls' := [(0, .inr (.inr (.inl x0))), (1, .inl x1)]) (st' := [.inl 1, .inr (.inr (.inl x0))]) rfl ?_
        by_cases c47 : qO q1.2 x0 6 = true
        case neg => exact absurd ((if_neg c47).symm.trans h) (by simp)
        have h := (if_pos c47).symm.trans h
        obtain ⟨q45, h46, h⟩ := Option.bind_eq_some_iff.mp h
        refine J_callV (md' := md_X6_find) (As := [.inl 1]) (st := []) (cs' := (0, 0)) (st' := [.inl q45.1]) (jat ok_X6_week 17 (pc := 30) (i := .invokevirtual 81) (n := 3) rfl rfl) ml_RX6_81 yv_X6_find c47 (c_X6_find l g (d + 2) h46) (jRo_of (by decide)) (Nat.le_of_ble_eq_true rfl) ⟨Nat.le_of_ble_eq_true rfl, Nat.le_of_ble_eq_true rfl⟩ rfl rfl rfl ?_
        have h := Option.some.inj h
        subst h
        exact hR _ _ (jat ok_X6_week 18 (pc := 33) (i := .ireturn) (n := 1) rfl rfl)
    · have h := (if_pos c).symm.trans h
      refine J_seg ok_X6_week 8 1 (pc' := 18) (ls' := [(0, .inr (.inr (.inl x0))), (1, .inl x1)]) (st' := [.inl (-4)]) rfl ?_
      have h := Option.some.inj h
      subst h
      exact hR _ _ (jat ok_X6_week 9 (pc := 18) (i := .ireturn) (n := 1) rfl rfl)
  · have h := (if_pos c).symm.trans h
    refine J_seg ok_X6_week 3 1 (pc' := 8) (ls' := [(0, .inr (.inr (.inl x0))), (1, .inl x1)]) (st' := [.inl (-1)]) rfl ?_
    have h := Option.some.inj h
    subst h
    exact hR _ _ (jat ok_X6_week 4 (pc := 8) (i := .ireturn) (n := 1) rfl rfl)
theorem c_X6_week (l : Launch) (g : GX) (d : Nat) {x0 : Option Nat} {x1 : Int32} {ah : AH} {q : Int32 × AH} (h : f_X6_week x0 x1 ah = some q) : jM l g (d + 3) md_X6_week [.inr (.inr (.inl x0)), .inl x1] ah (some (.inl q.1)) q.2 :=
  jM_of (by decide) (Nat.le_of_ble_eq_true rfl) (k_X6_week d ah q h (fun pc ls hd => J_reti hd rfl (jPV_int _) rfl (Nat.le_refl _) rfl rfl))
def f_X6_change (x0 : Option Nat) (x1 : Int32) (x2 : Int32) (ah : AH) : Option (Unit × AH) :=
  if qO ah x0 6 = true then ((f_X6_victim x0 x1 ah).bind fun q1 => (gR q1.2 x0 6 0).bind fun v4 => if qO q1.2 x0 6 = true then ((f_X6_victim x0 x2 q1.2).bind fun q6 => (sA q6.2 v4 (1 + x1) q6.1).bind fun a9 => (gR a9 x0 6 0).bind fun v11 => (sA a9 v11 (1 + x2) q1.1).bind fun a13 => some ((), a13)) else none) else none
set_option maxRecDepth 100000 in
set_option maxHeartbeats 4000000 in
theorem k_X6_change {l : Launch} {g : GX} (d : Nat) {Q : jQ} {x0 : Option Nat} {x1 : Int32} {x2 : Int32} (ah : AH) (out : Unit × AH) (h : f_X6_change x0 x1 x2 ah = some out) (hR : jRetV l g md_X6_change (jRm (d + 1) md_X6_change) Q (0, 0) out.1 out.2) : J l g md_X6_change (jRm (d + 1) md_X6_change) Q 0 [(0, .inr (.inr (.inl x0))), (1, .inl x1), (2, .inl x2)] [] ah (0, 0) := by
  unfold f_X6_change at h
  refine J_seg ok_X6_change 0 2 (pc' := 2) (ls' := [(0, .inr (.inr (.inl x0))), (1, .inl x1), (2, .inl x2)]) (st' := [.inl x1, .inr (.inr (.inl x0))]) rfl ?_
  by_cases c3 : qO ah x0 6 = true
  case neg => exact absurd ((if_neg c3).symm.trans h) (by simp)
  have h := (if_pos c3).symm.trans h
  obtain ⟨q1, h2, h⟩ := Option.bind_eq_some_iff.mp h
  refine J_callV (md' := md_X6_victim) (As := [.inl x1]) (st := []) (cs' := (0, 0)) (st' := [.inl q1.1]) (jat ok_X6_change 2 (pc := 2) (i := .invokevirtual 157) (n := 3) rfl rfl) ml_RX6_157 yv_X6_victim c3 (c_X6_victim l g (d + 0) h2) (jRo_of (by decide)) (Nat.le_of_ble_eq_true rfl) ⟨Nat.le_of_ble_eq_true rfl, Nat.le_of_ble_eq_true rfl⟩ rfl rfl rfl ?_
  refine J_seg ok_X6_change 3 2 (pc' := 7) (ls' := [(3, .inl q1.1), (0, .inr (.inr (.inl x0))), (1, .inl x1), (2, .inl x2)]) (st' := [.inr (.inr (.inl x0))]) rfl ?_
  obtain ⟨v4, h5, h⟩ := Option.bind_eq_some_iff.mp h
  refine J_getR (jat ok_X6_change 5 (pc := 7) (i := .getfield 7) (n := 3) rfl rfl) fl_RX6_7 h5 ?_
  refine J_seg ok_X6_change 6 5 (pc' := 15) (ls' := [(3, .inl q1.1), (0, .inr (.inr (.inl x0))), (1, .inl x1), (2, .inl x2)]) (st' := [.inl x2, .inr (.inr (.inl x0)), .inl (1 + x1), .inr (.inr (.inl v4))]) rfl ?_
  by_cases c8 : qO q1.2 x0 6 = true
  case neg => exact absurd ((if_neg c8).symm.trans h) (by simp)
  have h := (if_pos c8).symm.trans h
  obtain ⟨q6, h7, h⟩ := Option.bind_eq_some_iff.mp h
  refine J_callV (md' := md_X6_victim) (As := [.inl x2]) (st := [.inl (1 + x1), .inr (.inr (.inl v4))]) (cs' := (0, 0)) (st' := [.inl q6.1, .inl (1 + x1), .inr (.inr (.inl v4))]) (jat ok_X6_change 11 (pc := 15) (i := .invokevirtual 157) (n := 3) rfl rfl) ml_RX6_157 yv_X6_victim c8 (c_X6_victim l g (d + 0) h7) (jRo_of (by decide)) (Nat.le_of_ble_eq_true rfl) ⟨Nat.le_of_ble_eq_true rfl, Nat.le_of_ble_eq_true rfl⟩ rfl rfl rfl ?_
  obtain ⟨a9, h10, h⟩ := Option.bind_eq_some_iff.mp h
  refine J_iast (jat ok_X6_change 12 (pc := 18) (i := .iastore) (n := 1) rfl rfl) h10 ?_
  refine J_seg ok_X6_change 13 1 (pc' := 20) (ls' := [(3, .inl q1.1), (0, .inr (.inr (.inl x0))), (1, .inl x1), (2, .inl x2)]) (st' := [.inr (.inr (.inl x0))]) rfl ?_
  obtain ⟨v11, h12, h⟩ := Option.bind_eq_some_iff.mp h
  refine J_getR (jat ok_X6_change 14 (pc := 20) (i := .getfield 7) (n := 3) rfl rfl) fl_RX6_7 h12 ?_
  refine J_seg ok_X6_change 15 4 (pc' := 27) (ls' := [(3, .inl q1.1), (0, .inr (.inr (.inl x0))), (1, .inl x1), (2, .inl x2)]) (st' := [.inl q1.1, .inl (1 + x2), .inr (.inr (.inl v11))]) rfl ?_
  obtain ⟨a13, h14, h⟩ := Option.bind_eq_some_iff.mp h
  refine J_iast (jat ok_X6_change 19 (pc := 27) (i := .iastore) (n := 1) rfl rfl) h14 ?_
  have h := Option.some.inj h
  subst h
  exact hR _ _ (jat ok_X6_change 20 (pc := 28) (i := .return_) (n := 1) rfl rfl)
theorem c_X6_change (l : Launch) (g : GX) (d : Nat) {x0 : Option Nat} {x1 : Int32} {x2 : Int32} {ah : AH} {q : Unit × AH} (h : f_X6_change x0 x1 x2 ah = some q) : jM l g (d + 1) md_X6_change [.inr (.inr (.inl x0)), .inl x1, .inl x2] ah none q.2 :=
  jM_of (by decide) (Nat.le_of_ble_eq_true rfl) (k_X6_change d ah q h (fun pc ls hd => J_retv hd rfl rfl (Nat.le_refl _) rfl rfl))
def f_X6_exchange (x0 : Option Nat) (x1 : Int32) (x2 : Int32) (ah : AH) : Option (Int32 × AH) :=
  if qO ah x0 6 = true then ((f_X6_areTwo x0 x1 x2 ah).bind fun q1 => if q1.1 = 0 then (some ((-1), q1.2)) else (if qO q1.2 x0 6 = true then ((f_X6_victim x0 x1 q1.2).bind fun q4 => if q4.1 = x2 then (some ((-4), q4.2)) else (if qO q4.2 x0 6 = true then ((f_X6_victim x0 x2 q4.2).bind fun q7 => if q7.1 = x1 then (some ((-4), q7.2)) else ((gR q7.2 x0 6 0).bind fun v10 => (gA q7.2 v10 0).bind fun v12 => if v12 = 40 then (some ((-2), q7.2)) else (if qO q7.2 x0 6 = true then ((f_X6_keepPast x0 q7.2).bind fun q14 => if qO q14.2 x0 6 = true then ((f_X6_change x0 x1 x2 q14.2).bind fun q17 => some (1, q17.2)) else none) else none))) else none)) else none)) else none
set_option maxRecDepth 100000 in
set_option maxHeartbeats 4000000 in
theorem k_X6_exchange {l : Launch} {g : GX} (d : Nat) {Q : jQ} {x0 : Option Nat} {x1 : Int32} {x2 : Int32} (ah : AH) (out : Int32 × AH) (h : f_X6_exchange x0 x1 x2 ah = some out) (hR : jRetI l g md_X6_exchange (jRm (d + 3) md_X6_exchange) Q (0, 0) out.1 out.2) : J l g md_X6_exchange (jRm (d + 3) md_X6_exchange) Q 0 [(0, .inr (.inr (.inl x0))), (1, .inl x1), (2, .inl x2)] [] ah (0, 0) := by
  unfold f_X6_exchange at h
  refine J_seg ok_X6_exchange 0 3 (pc' := 3) (ls' := [(0, .inr (.inr (.inl x0))), (1, .inl x1), (2, .inl x2)]) (st' := [.inl x2, .inl x1, .inr (.inr (.inl x0))]) rfl ?_
  by_cases c3 : qO ah x0 6 = true
  case neg => exact absurd ((if_neg c3).symm.trans h) (by simp)
  have h := (if_pos c3).symm.trans h
  obtain ⟨q1, h2, h⟩ := Option.bind_eq_some_iff.mp h
  refine J_callV (md' := md_X6_areTwo) (As := [.inl x1, .inl x2]) (st := []) (cs' := (0, 0)) (st' := [.inl q1.1]) (jat ok_X6_exchange 3 (pc := 3) (i := .invokevirtual 192) (n := 3) rfl rfl) ml_RX6_192 yv_X6_areTwo c3 (c_X6_areTwo l g (d + 0) h2) (jRo_of (by decide)) (Nat.le_of_ble_eq_true rfl) ⟨Nat.le_of_ble_eq_true rfl, Nat.le_of_ble_eq_true rfl⟩ rfl rfl rfl ?_
  refine J_ne0 (jat ok_X6_exchange 4 (pc := 6) (i := .ifCond .ne 5) (n := 3) rfl rfl) (tgt := 11) (by decide) (fun c => ?_) (fun c => ?_)
  · have h := (if_neg c).symm.trans h
    refine J_seg ok_X6_exchange 7 2 (pc' := 13) (ls' := [(0, .inr (.inr (.inl x0))), (1, .inl x1), (2, .inl x2)]) (st' := [.inl x1, .inr (.inr (.inl x0))]) rfl ?_
    by_cases c6 : qO q1.2 x0 6 = true
    case neg => exact absurd ((if_neg c6).symm.trans h) (by simp)
    have h := (if_pos c6).symm.trans h
    obtain ⟨q4, h5, h⟩ := Option.bind_eq_some_iff.mp h
    refine J_callV (md' := md_X6_victim) (As := [.inl x1]) (st := []) (cs' := (0, 0)) (st' := [.inl q4.1]) (jat ok_X6_exchange 9 (pc := 13) (i := .invokevirtual 157) (n := 3) rfl rfl) ml_RX6_157 yv_X6_victim c6 (c_X6_victim l g (d + 2) h5) (jRo_of (by decide)) (Nat.le_of_ble_eq_true rfl) ⟨Nat.le_of_ble_eq_true rfl, Nat.le_of_ble_eq_true rfl⟩ rfl rfl rfl ?_
    refine J_seg ok_X6_exchange 10 1 (pc' := 17) (ls' := [(0, .inr (.inr (.inl x0))), (1, .inl x1), (2, .inl x2)]) (st' := [.inl x2, .inl q4.1]) rfl ?_
    refine J_eq (jat ok_X6_exchange 11 (pc := 17) (i := .if_icmp .eq 12) (n := 3) rfl rfl) (tgt := 29) (by decide) (fun c => ?_) (fun c => ?_)
    · have h := (if_pos c).symm.trans h
      refine J_seg ok_X6_exchange 17 1 (pc' := 31) (ls' := [(0, .inr (.inr (.inl x0))), (1, .inl x1), (2, .inl x2)]) (st' := [.inl (-4)]) rfl ?_
      have h := Option.some.inj h
      subst h
      exact hR _ _ (jat ok_X6_exchange 18 (pc := 31) (i := .ireturn) (n := 1) rfl rfl)
    · have h := (if_neg c).symm.trans h
      refine J_seg ok_X6_exchange 12 2 (pc' := 22) (ls' := [(0, .inr (.inr (.inl x0))), (1, .inl x1), (2, .inl x2)]) (st' := [.inl x2, .inr (.inr (.inl x0))]) rfl ?_
      by_cases c9 : qO q4.2 x0 6 = true
      case neg => exact absurd ((if_neg c9).symm.trans h) (by simp)
      have h := (if_pos c9).symm.trans h
      obtain ⟨q7, h8, h⟩ := Option.bind_eq_some_iff.mp h
      refine J_callV (md' := md_X6_victim) (As := [.inl x2]) (st := []) (cs' := (0, 0)) (st' := [.inl q7.1]) (jat ok_X6_exchange 14 (pc := 22) (i := .invokevirtual 157) (n := 3) rfl rfl) ml_RX6_157 yv_X6_victim c9 (c_X6_victim l g (d + 2) h8) (jRo_of (by decide)) (Nat.le_of_ble_eq_true rfl) ⟨Nat.le_of_ble_eq_true rfl, Nat.le_of_ble_eq_true rfl⟩ rfl rfl rfl ?_
      refine J_seg ok_X6_exchange 15 1 (pc' := 26) (ls' := [(0, .inr (.inr (.inl x0))), (1, .inl x1), (2, .inl x2)]) (st' := [.inl x1, .inl q7.1]) rfl ?_
      refine J_ne (jat ok_X6_exchange 16 (pc := 26) (i := .if_icmp .ne 6) (n := 3) rfl rfl) (tgt := 32) (by decide) (fun c => ?_) (fun c => ?_)
      · have h := (if_neg c).symm.trans h
        refine J_seg ok_X6_exchange 19 1 (pc' := 33) (ls' := [(0, .inr (.inr (.inl x0))), (1, .inl x1), (2, .inl x2)]) (st' := [.inr (.inr (.inl x0))]) rfl ?_
        obtain ⟨v10, h11, h⟩ := Option.bind_eq_some_iff.mp h
        refine J_getR (jat ok_X6_exchange 20 (pc := 33) (i := .getfield 7) (n := 3) rfl rfl) fl_RX6_7 h11 ?_
        refine J_seg ok_X6_exchange 21 1 (pc' := 37) (ls' := [(0, .inr (.inr (.inl x0))), (1, .inl x1), (2, .inl x2)]) (st' := [.inl 0, .inr (.inr (.inl v10))]) rfl ?_
        obtain ⟨v12, h13, h⟩ := Option.bind_eq_some_iff.mp h
        refine J_iald (jat ok_X6_exchange 22 (pc := 37) (i := .iaload) (n := 1) rfl rfl) h13 ?_
        refine J_seg ok_X6_exchange 23 1 (pc' := 40) (ls' := [(0, .inr (.inr (.inl x0))), (1, .inl x1), (2, .inl x2)]) (st' := [.inl 40, .inl v12]) rfl ?_
        refine J_ne (jat ok_X6_exchange 24 (pc := 40) (i := .if_icmp .ne 6) (n := 3) rfl rfl) (tgt := 46) (by decide) (fun c => ?_) (fun c => ?_)
        · have h := (if_neg c).symm.trans h
          refine J_seg ok_X6_exchange 27 1 (pc' := 47) (ls' := [(0, .inr (.inr (.inl x0))), (1, .inl x1), (2, .inl x2)]) (st' := [.inr (.inr (.inl x0))]) rfl ?_
          by_cases c16 : qO q7.2 x0 6 = true
          case neg => exact absurd ((if_neg c16).symm.trans h) (by simp)
          have h := (if_pos c16).symm.trans h
          obtain ⟨q14, h15, h⟩ := Option.bind_eq_some_iff.mp h
          refine J_callV (md' := md_X6_keepPast) (As := []) (st := []) (cs' := (0, 0)) (st' := []) (jat ok_X6_exchange 28 (pc := 47) (i := .invokevirtual 195) (n := 3) rfl rfl) ml_RX6_195 yv_X6_keepPast c16 (c_X6_keepPast l g (d + 2) h15) (jRo_of (by decide)) (Nat.le_of_ble_eq_true rfl) ⟨Nat.le_of_ble_eq_true rfl, Nat.le_of_ble_eq_true rfl⟩ rfl rfl rfl ?_
          refine J_seg ok_X6_exchange 29 3 (pc' := 53) (ls' := [(0, .inr (.inr (.inl x0))), (1, .inl x1), (2, .inl x2)]) (st' := [.inl x2, .inl x1, .inr (.inr (.inl x0))]) rfl ?_
          by_cases c19 : qO q14.2 x0 6 = true
          case neg => exact absurd ((if_neg c19).symm.trans h) (by simp)
          have h := (if_pos c19).symm.trans h
          obtain ⟨q17, h18, h⟩ := Option.bind_eq_some_iff.mp h
          refine J_callV (md' := md_X6_change) (As := [.inl x1, .inl x2]) (st := []) (cs' := (0, 0)) (st' := []) (jat ok_X6_exchange 32 (pc := 53) (i := .invokevirtual 206) (n := 3) rfl rfl) ml_RX6_206 yv_X6_change c19 (c_X6_change l g (d + 1) h18) (jRo_of (by decide)) (Nat.le_of_ble_eq_true rfl) ⟨Nat.le_of_ble_eq_true rfl, Nat.le_of_ble_eq_true rfl⟩ rfl rfl rfl ?_
          refine J_seg ok_X6_exchange 33 1 (pc' := 57) (ls' := [(0, .inr (.inr (.inl x0))), (1, .inl x1), (2, .inl x2)]) (st' := [.inl 1]) rfl ?_
          have h := Option.some.inj h
          subst h
          exact hR _ _ (jat ok_X6_exchange 34 (pc := 57) (i := .ireturn) (n := 1) rfl rfl)
        · have h := (if_pos c).symm.trans h
          refine J_seg ok_X6_exchange 25 1 (pc' := 45) (ls' := [(0, .inr (.inr (.inl x0))), (1, .inl x1), (2, .inl x2)]) (st' := [.inl (-2)]) rfl ?_
          have h := Option.some.inj h
          subst h
          exact hR _ _ (jat ok_X6_exchange 26 (pc := 45) (i := .ireturn) (n := 1) rfl rfl)
      · have h := (if_pos c).symm.trans h
        refine J_seg ok_X6_exchange 17 1 (pc' := 31) (ls' := [(0, .inr (.inr (.inl x0))), (1, .inl x1), (2, .inl x2)]) (st' := [.inl (-4)]) rfl ?_
        have h := Option.some.inj h
        subst h
        exact hR _ _ (jat ok_X6_exchange 18 (pc := 31) (i := .ireturn) (n := 1) rfl rfl)
  · have h := (if_pos c).symm.trans h
    refine J_seg ok_X6_exchange 5 1 (pc' := 10) (ls' := [(0, .inr (.inr (.inl x0))), (1, .inl x1), (2, .inl x2)]) (st' := [.inl (-1)]) rfl ?_
    have h := Option.some.inj h
    subst h
    exact hR _ _ (jat ok_X6_exchange 6 (pc := 10) (i := .ireturn) (n := 1) rfl rfl)
theorem c_X6_exchange (l : Launch) (g : GX) (d : Nat) {x0 : Option Nat} {x1 : Int32} {x2 : Int32} {ah : AH} {q : Int32 × AH} (h : f_X6_exchange x0 x1 x2 ah = some q) : jM l g (d + 3) md_X6_exchange [.inr (.inr (.inl x0)), .inl x1, .inl x2] ah (some (.inl q.1)) q.2 :=
  jM_of (by decide) (Nat.le_of_ble_eq_true rfl) (k_X6_exchange d ah q h (fun pc ls hd => J_reti hd rfl (jPV_int _) rfl (Nat.le_refl _) rfl rfl))
def f_X6_undo_b29 (k0 : Option Nat) (k1 : Int32) (k2 : Int32) (s29 : Int32) (ah : AH) : Option ((Unit × AH) ⊕ (((Unit) × AH) ⊕ ((Int32) × AH))) :=
  if 19 ≤ s29 then (some (.inr (.inl ((), ah)))) else (if k2 ≤ 0 then (some (.inr (.inl ((), ah)))) else ((gR ah k0 6 0).bind fun v11 => (gR ah k0 6 0).bind fun v13 => (gA ah v13 ((20 + (19 * k1)) + s29)).bind fun v15 => (sA ah v11 (1 + s29) v15).bind fun a17 => some (.inr (.inr (s29 + 1, a17)))))
set_option maxRecDepth 100000 in
set_option maxHeartbeats 4000000 in
theorem k_X6_undo_b29 {l : Launch} {g : GX} (d : Nat) {Q : jQ} {k0 : Option Nat} {k1 : Int32} {k2 : Int32} (s29 : Int32) (ah : AH) (out : (Unit × AH) ⊕ (((Unit) × AH) ⊕ ((Int32) × AH))) (h : f_X6_undo_b29 k0 k1 k2 s29 ah = some out) (hR : ∀ q, out = .inl q → jRetN q.1 q.2) (hX : ∀ q, out = .inr (.inl q) → J l g md_X6_undo (jRm (d + 1) md_X6_undo) Q 67 [(0, .inr (.inr (.inl k0))), (1, .inl k1), (2, .inl k2)] [] q.2 (0, 0)) (hN : ∀ q, out = .inr (.inr q) → J l g md_X6_undo (jRm (d + 1) md_X6_undo) Q 29 [(0, .inr (.inr (.inl k0))), (1, .inl k1), (2, .inl k2), (3, .inl q.1)] [] q.2 (0, 0)) : J l g md_X6_undo (jRm (d + 1) md_X6_undo) Q 29 [(0, .inr (.inr (.inl k0))), (1, .inl k1), (2, .inl k2), (3, .inl s29)] [] ah (0, 0) := by
  unfold f_X6_undo_b29 at h
  refine J_seg ok_X6_undo 21 2 (pc' := 32) (ls' := [(0, .inr (.inr (.inl k0))), (1, .inl k1), (2, .inl k2), (3, .inl s29)]) (st' := [.inl 19, .inl s29]) rfl ?_
  refine J_ge (jat ok_X6_undo 23 (pc := 32) (i := .if_icmp .ge 35) (n := 3) rfl rfl) (tgt := 67) (by decide) (fun c => ?_) (fun c => ?_)
  · have h := (if_pos c).symm.trans h
    exact J_sub (ls' := [(0, .inr (.inr (.inl k0))), (1, .inl k1), (2, .inl k2)]) [0, 1, 2] rfl (hX ((), ah) (Option.some.inj h).symm)
  · have h := (if_neg c).symm.trans h
    refine J_seg ok_X6_undo 24 1 (pc' := 36) (ls' := [(0, .inr (.inr (.inl k0))), (1, .inl k1), (2, .inl k2), (3, .inl s29)]) (st' := [.inl k2]) rfl ?_
    refine J_le0 (jat ok_X6_undo 25 (pc := 36) (i := .ifCond .le 31) (n := 3) rfl rfl) (tgt := 67) (by decide) (fun c => ?_) (fun c => ?_)
    · have h := (if_pos c).symm.trans h
      exact J_sub (ls' := [(0, .inr (.inr (.inl k0))), (1, .inl k1), (2, .inl k2)]) [0, 1, 2] rfl (hX ((), ah) (Option.some.inj h).symm)
    · have h := (if_neg c).symm.trans h
      refine J_seg ok_X6_undo 26 1 (pc' := 40) (ls' := [(0, .inr (.inr (.inl k0))), (1, .inl k1), (2, .inl k2), (3, .inl s29)]) (st' := [.inr (.inr (.inl k0))]) rfl ?_
      obtain ⟨v11, h12, h⟩ := Option.bind_eq_some_iff.mp h
      refine J_getR (jat ok_X6_undo 27 (pc := 40) (i := .getfield 7) (n := 3) rfl rfl) fl_RX6_7 h12 ?_
      refine J_seg ok_X6_undo 28 4 (pc' := 47) (ls' := [(0, .inr (.inr (.inl k0))), (1, .inl k1), (2, .inl k2), (3, .inl s29)]) (st' := [.inr (.inr (.inl k0)), .inl (1 + s29), .inr (.inr (.inl v11))]) rfl ?_
      obtain ⟨v13, h14, h⟩ := Option.bind_eq_some_iff.mp h
      refine J_getR (jat ok_X6_undo 32 (pc := 47) (i := .getfield 7) (n := 3) rfl rfl) fl_RX6_7 h14 ?_
      refine J_seg ok_X6_undo 33 7 (pc' := 59) (ls' := [(0, .inr (.inr (.inl k0))), (1, .inl k1), (2, .inl k2), (3, .inl s29)]) (st' := [.inl ((20 + (19 * k1)) + s29), .inr (.inr (.inl v13)), .inl (1 + s29), .inr (.inr (.inl v11))]) rfl ?_
      obtain ⟨v15, h16, h⟩ := Option.bind_eq_some_iff.mp h
      refine J_iald (jat ok_X6_undo 40 (pc := 59) (i := .iaload) (n := 1) rfl rfl) h16 ?_
      obtain ⟨a17, h18, h⟩ := Option.bind_eq_some_iff.mp h
      refine J_iast (jat ok_X6_undo 41 (pc := 60) (i := .iastore) (n := 1) rfl rfl) h18 ?_
      refine J_seg ok_X6_undo 42 2 (pc' := 29) (ls' := [(3, .inl (s29 + 1)), (0, .inr (.inr (.inl k0))), (1, .inl k1), (2, .inl k2)]) (st' := []) rfl ?_
      exact J_sub (ls' := [(0, .inr (.inr (.inl k0))), (1, .inl k1), (2, .inl k2), (3, .inl (s29 + 1))]) [1, 2, 3, 0] rfl (hN (s29 + 1, a17) (Option.some.inj h).symm)
def f_X6_undo_j67 (x0 : Option Nat) (x1 : Int32) (x2 : Int32) (ah : AH) : Option (Int32 × AH) :=
  (gR ah x0 6 0).bind fun v23 => (sA ah v23 0 x1).bind fun a25 => some (x2, a25)
set_option maxRecDepth 100000 in
set_option maxHeartbeats 4000000 in
theorem k_X6_undo_j67 {l : Launch} {g : GX} (d : Nat) {Q : jQ} {x0 : Option Nat} {x1 : Int32} {x2 : Int32} (ah : AH) (out : Int32 × AH) (h : f_X6_undo_j67 x0 x1 x2 ah = some out) (hR : jRetI l g md_X6_undo (jRm (d + 1) md_X6_undo) Q (0, 0) out.1 out.2) : J l g md_X6_undo (jRm (d + 1) md_X6_undo) Q 67 [(0, .inr (.inr (.inl x0))), (1, .inl x1), (2, .inl x2)] [] ah (0, 0) := by
  unfold f_X6_undo_j67 at h
  refine J_seg ok_X6_undo 44 1 (pc' := 68) (ls' := [(0, .inr (.inr (.inl x0))), (1, .inl x1), (2, .inl x2)]) (st' := [.inr (.inr (.inl x0))]) rfl ?_
  obtain ⟨v23, h24, h⟩ := Option.bind_eq_some_iff.mp h
  refine J_getR (jat ok_X6_undo 45 (pc := 68) (i := .getfield 7) (n := 3) rfl rfl) fl_RX6_7 h24 ?_
  refine J_seg ok_X6_undo 46 2 (pc' := 73) (ls' := [(0, .inr (.inr (.inl x0))), (1, .inl x1), (2, .inl x2)]) (st' := [.inl x1, .inl 0, .inr (.inr (.inl v23))]) rfl ?_
  obtain ⟨a25, h26, h⟩ := Option.bind_eq_some_iff.mp h
  refine J_iast (jat ok_X6_undo 48 (pc := 73) (i := .iastore) (n := 1) rfl rfl) h26 ?_
  refine J_seg ok_X6_undo 49 1 (pc' := 75) (ls' := [(0, .inr (.inr (.inl x0))), (1, .inl x1), (2, .inl x2)]) (st' := [.inl x2]) rfl ?_
  have h := Option.some.inj h
  subst h
  exact hR _ _ (jat ok_X6_undo 50 (pc := 75) (i := .ireturn) (n := 1) rfl rfl)
def f_X6_undo (x0 : Option Nat) (x1 : Int32) (ah : AH) : Option (Int32 × AH) :=
  (gR ah x0 6 0).bind fun v1 => (gA ah v1 0).bind fun v3 => (f_X6_in (Int32.toInt64 x1) 0 (Int32.toInt64 v3) ah).bind fun q5 => if q5.1 = 0 then (some ((-1), q5.2)) else ((gR q5.2 x0 6 0).bind fun v7 => (gA q5.2 v7 0).bind fun v9 => (jloop (f_X6_undo_b29 x0 x1 (v9 - x1)) jfuel 0 q5.2).bind fun q19 => match q19 with | .inl r => none | .inr z21 => f_X6_undo_j67 x0 x1 (v9 - x1) z21.2)
set_option maxRecDepth 100000 in
set_option maxHeartbeats 4000000 in
theorem k_X6_undo {l : Launch} {g : GX} (d : Nat) {Q : jQ} {x0 : Option Nat} {x1 : Int32} (ah : AH) (out : Int32 × AH) (h : f_X6_undo x0 x1 ah = some out) (hR : jRetI l g md_X6_undo (jRm (d + 1) md_X6_undo) Q (0, 0) out.1 out.2) : J l g md_X6_undo (jRm (d + 1) md_X6_undo) Q 0 [(0, .inr (.inr (.inl x0))), (1, .inl x1)] [] ah (0, 0) := by
  unfold f_X6_undo at h
  refine J_seg ok_X6_undo 0 4 (pc' := 4) (ls' := [(0, .inr (.inr (.inl x0))), (1, .inl x1)]) (st' := [.inr (.inr (.inl x0)), .inr (.inl 0), .inr (.inl (Int32.toInt64 x1))]) rfl ?_
  obtain ⟨v1, h2, h⟩ := Option.bind_eq_some_iff.mp h
  refine J_getR (jat ok_X6_undo 4 (pc := 4) (i := .getfield 7) (n := 3) rfl rfl) fl_RX6_7 h2 ?_
  refine J_seg ok_X6_undo 5 1 (pc' := 8) (ls' := [(0, .inr (.inr (.inl x0))), (1, .inl x1)]) (st' := [.inl 0, .inr (.inr (.inl v1)), .inr (.inl 0), .inr (.inl (Int32.toInt64 x1))]) rfl ?_
  obtain ⟨v3, h4, h⟩ := Option.bind_eq_some_iff.mp h
  refine J_iald (jat ok_X6_undo 6 (pc := 8) (i := .iaload) (n := 1) rfl rfl) h4 ?_
  refine J_seg ok_X6_undo 7 1 (pc' := 10) (ls' := [(0, .inr (.inr (.inl x0))), (1, .inl x1)]) (st' := [.inr (.inl (Int32.toInt64 v3)), .inr (.inl 0), .inr (.inl (Int32.toInt64 x1))]) rfl ?_
  obtain ⟨q5, h6, h⟩ := Option.bind_eq_some_iff.mp h
  refine J_callS (md' := md_X6_in) (As := [.inr (.inl (Int32.toInt64 x1)), .inr (.inl 0), .inr (.inl (Int32.toInt64 v3))]) (st := []) (cs' := (0, 0)) (st' := [.inl q5.1]) (jat ok_X6_undo 8 (pc := 10) (i := .invokestatic 71) (n := 3) rfl rfl) (Or.inl ml_RX6_71) ys_X6_in (c_X6_in l g (d + 0) h6) (jRo_of (by decide)) (Nat.le_of_ble_eq_true rfl) ⟨Nat.le_of_ble_eq_true rfl, Nat.le_of_ble_eq_true rfl⟩ rfl rfl rfl ?_
  refine J_ne0 (jat ok_X6_undo 9 (pc := 13) (i := .ifCond .ne 5) (n := 3) rfl rfl) (tgt := 18) (by decide) (fun c => ?_) (fun c => ?_)
  · have h := (if_neg c).symm.trans h
    refine J_seg ok_X6_undo 12 1 (pc' := 19) (ls' := [(0, .inr (.inr (.inl x0))), (1, .inl x1)]) (st' := [.inr (.inr (.inl x0))]) rfl ?_
    obtain ⟨v7, h8, h⟩ := Option.bind_eq_some_iff.mp h
    refine J_getR (jat ok_X6_undo 13 (pc := 19) (i := .getfield 7) (n := 3) rfl rfl) fl_RX6_7 h8 ?_
    refine J_seg ok_X6_undo 14 1 (pc' := 23) (ls' := [(0, .inr (.inr (.inl x0))), (1, .inl x1)]) (st' := [.inl 0, .inr (.inr (.inl v7))]) rfl ?_
    obtain ⟨v9, h10, h⟩ := Option.bind_eq_some_iff.mp h
    refine J_iald (jat ok_X6_undo 15 (pc := 23) (i := .iaload) (n := 1) rfl rfl) h10 ?_
    refine J_seg ok_X6_undo 16 5 (pc' := 29) (ls' := [(3, .inl 0), (2, .inl (v9 - x1)), (0, .inr (.inr (.inl x0))), (1, .inl x1)]) (st' := []) rfl ?_
    obtain ⟨q19, h20, h⟩ := Option.bind_eq_some_iff.mp h
    refine J_sub (ls' := [(0, .inr (.inr (.inl x0))), (1, .inl x1), (2, .inl (v9 - x1)), (3, .inl 0)]) [2, 3, 1, 0] rfl ?_
    refine J_loop (pE := 67) (lh := fun t22 => [(0, .inr (.inr (.inl x0))), (1, .inl x1), (2, .inl (v9 - x1)), (3, .inl t22)]) (lx := fun z21 => [(0, .inr (.inr (.inl x0))), (1, .inl x1), (2, .inl (v9 - x1))]) (P := jRetN) (fun s ah out hb hR hX hN => k_X6_undo_b29 d s ah out hb hR hX hN) jfuel 0 _ _ h20 (fun r e => ?_) (fun z21 e => ?_)
    · subst e
      dsimp only at h
      cases h
    · subst e
      dsimp only at h
      refine J_sub (ls' := [(0, .inr (.inr (.inl x0))), (1, .inl x1), (2, .inl (v9 - x1))]) [0, 1, 2] rfl ?_
      exact k_X6_undo_j67 d _ _ h hR
  · have h := (if_pos c).symm.trans h
    refine J_seg ok_X6_undo 10 1 (pc' := 17) (ls' := [(0, .inr (.inr (.inl x0))), (1, .inl x1)]) (st' := [.inl (-1)]) rfl ?_
    have h := Option.some.inj h
    subst h
    exact hR _ _ (jat ok_X6_undo 11 (pc := 17) (i := .ireturn) (n := 1) rfl rfl)
theorem c_X6_undo (l : Launch) (g : GX) (d : Nat) {x0 : Option Nat} {x1 : Int32} {ah : AH} {q : Int32 × AH} (h : f_X6_undo x0 x1 ah = some q) : jM l g (d + 1) md_X6_undo [.inr (.inr (.inl x0)), .inl x1] ah (some (.inl q.1)) q.2 :=
  jM_of (by decide) (Nat.le_of_ble_eq_true rfl) (k_X6_undo d ah q h (fun pc ls hd => J_reti hd rfl (jPV_int _) rfl (Nat.le_refl _) rfl rfl))
def f_X6_copyTown_b2 (k0 : Option Nat) (k1 : Int32) (k2 : Int32) (s2 : Int32) (ah : AH) : Option ((Unit × AH) ⊕ (((Unit) × AH) ⊕ ((Int32) × AH))) :=
  if 780 ≤ s2 then (some (.inr (.inl ((), ah)))) else ((gR ah k0 6 0).bind fun v1 => (gR ah k0 6 0).bind fun v3 => (gA ah v3 (k1 + s2)).bind fun v5 => (sA ah v1 (k2 + s2) v5).bind fun a7 => some (.inr (.inr (s2 + 1, a7))))
set_option maxRecDepth 100000 in
set_option maxHeartbeats 4000000 in
theorem k_X6_copyTown_b2 {l : Launch} {g : GX} (d : Nat) {Q : jQ} {k0 : Option Nat} {k1 : Int32} {k2 : Int32} (s2 : Int32) (ah : AH) (out : (Unit × AH) ⊕ (((Unit) × AH) ⊕ ((Int32) × AH))) (h : f_X6_copyTown_b2 k0 k1 k2 s2 ah = some out) (hR : ∀ q, out = .inl q → jRetN q.1 q.2) (hX : ∀ q, out = .inr (.inl q) → J l g md_X6_copyTown (jRm (d + 0) md_X6_copyTown) Q 31 [] [] q.2 (0, 0)) (hN : ∀ q, out = .inr (.inr q) → J l g md_X6_copyTown (jRm (d + 0) md_X6_copyTown) Q 2 [(0, .inr (.inr (.inl k0))), (1, .inl k1), (2, .inl k2), (3, .inl q.1)] [] q.2 (0, 0)) : J l g md_X6_copyTown (jRm (d + 0) md_X6_copyTown) Q 2 [(0, .inr (.inr (.inl k0))), (1, .inl k1), (2, .inl k2), (3, .inl s2)] [] ah (0, 0) := by
  unfold f_X6_copyTown_b2 at h
  refine J_seg ok_X6_copyTown 2 2 (pc' := 6) (ls' := [(0, .inr (.inr (.inl k0))), (1, .inl k1), (2, .inl k2), (3, .inl s2)]) (st' := [.inl 780, .inl s2]) rfl ?_
  refine J_ge (jat ok_X6_copyTown 4 (pc := 6) (i := .if_icmp .ge 25) (n := 3) rfl rfl) (tgt := 31) (by decide) (fun c => ?_) (fun c => ?_)
  · have h := (if_pos c).symm.trans h
    exact J_sub (ls' := []) [] rfl (hX ((), ah) (Option.some.inj h).symm)
  · have h := (if_neg c).symm.trans h
    refine J_seg ok_X6_copyTown 5 1 (pc' := 10) (ls' := [(0, .inr (.inr (.inl k0))), (1, .inl k1), (2, .inl k2), (3, .inl s2)]) (st' := [.inr (.inr (.inl k0))]) rfl ?_
    obtain ⟨v1, h2, h⟩ := Option.bind_eq_some_iff.mp h
    refine J_getR (jat ok_X6_copyTown 6 (pc := 10) (i := .getfield 7) (n := 3) rfl rfl) fl_RX6_7 h2 ?_
    refine J_seg ok_X6_copyTown 7 4 (pc' := 17) (ls' := [(0, .inr (.inr (.inl k0))), (1, .inl k1), (2, .inl k2), (3, .inl s2)]) (st' := [.inr (.inr (.inl k0)), .inl (k2 + s2), .inr (.inr (.inl v1))]) rfl ?_
    obtain ⟨v3, h4, h⟩ := Option.bind_eq_some_iff.mp h
    refine J_getR (jat ok_X6_copyTown 11 (pc := 17) (i := .getfield 7) (n := 3) rfl rfl) fl_RX6_7 h4 ?_
    refine J_seg ok_X6_copyTown 12 3 (pc' := 23) (ls' := [(0, .inr (.inr (.inl k0))), (1, .inl k1), (2, .inl k2), (3, .inl s2)]) (st' := [.inl (k1 + s2), .inr (.inr (.inl v3)), .inl (k2 + s2), .inr (.inr (.inl v1))]) rfl ?_
    obtain ⟨v5, h6, h⟩ := Option.bind_eq_some_iff.mp h
    refine J_iald (jat ok_X6_copyTown 15 (pc := 23) (i := .iaload) (n := 1) rfl rfl) h6 ?_
    obtain ⟨a7, h8, h⟩ := Option.bind_eq_some_iff.mp h
    refine J_iast (jat ok_X6_copyTown 16 (pc := 24) (i := .iastore) (n := 1) rfl rfl) h8 ?_
    refine J_seg ok_X6_copyTown 17 2 (pc' := 2) (ls' := [(3, .inl (s2 + 1)), (0, .inr (.inr (.inl k0))), (1, .inl k1), (2, .inl k2)]) (st' := []) rfl ?_
    exact J_sub (ls' := [(0, .inr (.inr (.inl k0))), (1, .inl k1), (2, .inl k2), (3, .inl (s2 + 1))]) [1, 2, 3, 0] rfl (hN (s2 + 1, a7) (Option.some.inj h).symm)
def f_X6_copyTown (x0 : Option Nat) (x1 : Int32) (x2 : Int32) (ah : AH) : Option (Unit × AH) :=
  (jloop (f_X6_copyTown_b2 x0 x1 x2) jfuel 0 ah).bind fun q9 => match q9 with | .inl r => none | .inr z11 => some ((), z11.2)
set_option maxRecDepth 100000 in
set_option maxHeartbeats 4000000 in
theorem k_X6_copyTown {l : Launch} {g : GX} (d : Nat) {Q : jQ} {x0 : Option Nat} {x1 : Int32} {x2 : Int32} (ah : AH) (out : Unit × AH) (h : f_X6_copyTown x0 x1 x2 ah = some out) (hR : jRetV l g md_X6_copyTown (jRm (d + 0) md_X6_copyTown) Q (0, 0) out.1 out.2) : J l g md_X6_copyTown (jRm (d + 0) md_X6_copyTown) Q 0 [(0, .inr (.inr (.inl x0))), (1, .inl x1), (2, .inl x2)] [] ah (0, 0) := by
  unfold f_X6_copyTown at h
  refine J_seg ok_X6_copyTown 0 2 (pc' := 2) (ls' := [(3, .inl 0), (0, .inr (.inr (.inl x0))), (1, .inl x1), (2, .inl x2)]) (st' := []) rfl ?_
  obtain ⟨q9, h10, h⟩ := Option.bind_eq_some_iff.mp h
  refine J_sub (ls' := [(0, .inr (.inr (.inl x0))), (1, .inl x1), (2, .inl x2), (3, .inl 0)]) [1, 2, 3, 0] rfl ?_
  refine J_loop (pE := 31) (lh := fun t12 => [(0, .inr (.inr (.inl x0))), (1, .inl x1), (2, .inl x2), (3, .inl t12)]) (lx := fun z11 => []) (P := jRetN) (fun s ah out hb hR hX hN => k_X6_copyTown_b2 d s ah out hb hR hX hN) jfuel 0 _ _ h10 (fun r e => ?_) (fun z11 e => ?_)
  · subst e
    dsimp only at h
    cases h
  · subst e
    dsimp only at h
    have h := Option.some.inj h
    subst h
    exact hR _ _ (jat ok_X6_copyTown 19 (pc := 31) (i := .return_) (n := 1) rfl rfl)
theorem c_X6_copyTown (l : Launch) (g : GX) (d : Nat) {x0 : Option Nat} {x1 : Int32} {x2 : Int32} {ah : AH} {q : Unit × AH} (h : f_X6_copyTown x0 x1 x2 ah = some q) : jM l g (d + 0) md_X6_copyTown [.inr (.inr (.inl x0)), .inl x1, .inl x2] ah none q.2 :=
  jM_of (by decide) (Nat.le_of_ble_eq_true rfl) (k_X6_copyTown d ah q h (fun pc ls hd => J_retv hd rfl rfl (Nat.le_refl _) rfl rfl))
def f_X6_keep (x0 : Option Nat) (x1 : Int32) (ah : AH) : Option (Int32 × AH) :=
  (f_X6_in (Int32.toInt64 x1) 0 2 ah).bind fun q1 => if q1.1 = 0 then (some ((-1), q1.2)) else ((gI q1.2 x0 6 1).bind fun v3 => if v3 = 0 then (some ((-4), q1.2)) else (if qO q1.2 x0 6 = true then ((f_X6_copyTown x0 0 (780 * (1 + x1)) q1.2).bind fun q5 => (gR q5.2 x0 6 0).bind fun v8 => (gA q5.2 v8 0).bind fun v10 => some (v10, q5.2)) else none))
set_option maxRecDepth 100000 in
set_option maxHeartbeats 4000000 in
theorem k_X6_keep {l : Launch} {g : GX} (d : Nat) {Q : jQ} {x0 : Option Nat} {x1 : Int32} (ah : AH) (out : Int32 × AH) (h : f_X6_keep x0 x1 ah = some out) (hR : jRetI l g md_X6_keep (jRm (d + 1) md_X6_keep) Q (0, 0) out.1 out.2) : J l g md_X6_keep (jRm (d + 1) md_X6_keep) Q 0 [(0, .inr (.inr (.inl x0))), (1, .inl x1)] [] ah (0, 0) := by
  unfold f_X6_keep at h
  refine J_seg ok_X6_keep 0 3 (pc' := 3) (ls' := [(0, .inr (.inr (.inl x0))), (1, .inl x1)]) (st' := [.inr (.inl 0), .inr (.inl (Int32.toInt64 x1))]) rfl ?_
  refine J_ldc2 (jat ok_X6_keep 3 (pc := 3) (i := .ldc2_w 198) (n := 3) rfl rfl) lc_RX6_198 ?_
  obtain ⟨q1, h2, h⟩ := Option.bind_eq_some_iff.mp h
  refine J_callS (md' := md_X6_in) (As := [.inr (.inl (Int32.toInt64 x1)), .inr (.inl 0), .inr (.inl 2)]) (st := []) (cs' := (0, 0)) (st' := [.inl q1.1]) (jat ok_X6_keep 4 (pc := 6) (i := .invokestatic 71) (n := 3) rfl rfl) (Or.inl ml_RX6_71) ys_X6_in (c_X6_in l g (d + 0) h2) (jRo_of (by decide)) (Nat.le_of_ble_eq_true rfl) ⟨Nat.le_of_ble_eq_true rfl, Nat.le_of_ble_eq_true rfl⟩ rfl rfl rfl ?_
  refine J_ne0 (jat ok_X6_keep 5 (pc := 9) (i := .ifCond .ne 5) (n := 3) rfl rfl) (tgt := 14) (by decide) (fun c => ?_) (fun c => ?_)
  · have h := (if_neg c).symm.trans h
    refine J_seg ok_X6_keep 8 1 (pc' := 15) (ls' := [(0, .inr (.inr (.inl x0))), (1, .inl x1)]) (st' := [.inr (.inr (.inl x0))]) rfl ?_
    obtain ⟨v3, h4, h⟩ := Option.bind_eq_some_iff.mp h
    refine J_getI (jat ok_X6_keep 9 (pc := 15) (i := .getfield 148) (n := 3) rfl rfl) fl_RX6_148 h4 ?_
    refine J_ne0 (jat ok_X6_keep 10 (pc := 18) (i := .ifCond .ne 6) (n := 3) rfl rfl) (tgt := 24) (by decide) (fun c => ?_) (fun c => ?_)
    · have h := (if_neg c).symm.trans h
      refine J_seg ok_X6_keep 13 7 (pc' := 33) (ls' := [(0, .inr (.inr (.inl x0))), (1, .inl x1)]) (st' := [.inl (780 * (1 + x1)), .inl 0, .inr (.inr (.inl x0))]) rfl ?_
      by_cases c7 : qO q1.2 x0 6 = true
      case neg => exact absurd ((if_neg c7).symm.trans h) (by simp)
      have h := (if_pos c7).symm.trans h
      obtain ⟨q5, h6, h⟩ := Option.bind_eq_some_iff.mp h
      refine J_callV (md' := md_X6_copyTown) (As := [.inl 0, .inl (780 * (1 + x1))]) (st := []) (cs' := (0, 0)) (st' := []) (jat ok_X6_keep 20 (pc := 33) (i := .invokevirtual 209) (n := 3) rfl rfl) ml_RX6_209 yv_X6_copyTown c7 (c_X6_copyTown l g (d + 0) h6) (jRo_of (by decide)) (Nat.le_of_ble_eq_true rfl) ⟨Nat.le_of_ble_eq_true rfl, Nat.le_of_ble_eq_true rfl⟩ rfl rfl rfl ?_
      refine J_seg ok_X6_keep 21 1 (pc' := 37) (ls' := [(0, .inr (.inr (.inl x0))), (1, .inl x1)]) (st' := [.inr (.inr (.inl x0))]) rfl ?_
      obtain ⟨v8, h9, h⟩ := Option.bind_eq_some_iff.mp h
      refine J_getR (jat ok_X6_keep 22 (pc := 37) (i := .getfield 7) (n := 3) rfl rfl) fl_RX6_7 h9 ?_
      refine J_seg ok_X6_keep 23 1 (pc' := 41) (ls' := [(0, .inr (.inr (.inl x0))), (1, .inl x1)]) (st' := [.inl 0, .inr (.inr (.inl v8))]) rfl ?_
      obtain ⟨v10, h11, h⟩ := Option.bind_eq_some_iff.mp h
      refine J_iald (jat ok_X6_keep 24 (pc := 41) (i := .iaload) (n := 1) rfl rfl) h11 ?_
      have h := Option.some.inj h
      subst h
      exact hR _ _ (jat ok_X6_keep 25 (pc := 42) (i := .ireturn) (n := 1) rfl rfl)
    · have h := (if_pos c).symm.trans h
      refine J_seg ok_X6_keep 11 1 (pc' := 23) (ls' := [(0, .inr (.inr (.inl x0))), (1, .inl x1)]) (st' := [.inl (-4)]) rfl ?_
      have h := Option.some.inj h
      subst h
      exact hR _ _ (jat ok_X6_keep 12 (pc := 23) (i := .ireturn) (n := 1) rfl rfl)
  · have h := (if_pos c).symm.trans h
    refine J_seg ok_X6_keep 6 1 (pc' := 13) (ls' := [(0, .inr (.inr (.inl x0))), (1, .inl x1)]) (st' := [.inl (-1)]) rfl ?_
    have h := Option.some.inj h
    subst h
    exact hR _ _ (jat ok_X6_keep 7 (pc := 13) (i := .ireturn) (n := 1) rfl rfl)
theorem c_X6_keep (l : Launch) (g : GX) (d : Nat) {x0 : Option Nat} {x1 : Int32} {ah : AH} {q : Int32 × AH} (h : f_X6_keep x0 x1 ah = some q) : jM l g (d + 1) md_X6_keep [.inr (.inr (.inl x0)), .inl x1] ah (some (.inl q.1)) q.2 :=
  jM_of (by decide) (Nat.le_of_ble_eq_true rfl) (k_X6_keep d ah q h (fun pc ls hd => J_reti hd rfl (jPV_int _) rfl (Nat.le_refl _) rfl rfl))
def f_X6_on (x0 : Option Nat) (x1 : Int32) (ah : AH) : Option (Int32 × AH) :=
  (f_X6_in (Int32.toInt64 x1) 0 2 ah).bind fun q1 => if q1.1 = 0 then (some ((-1), q1.2)) else ((gR q1.2 x0 6 0).bind fun v3 => (gA q1.2 v3 ((780 * (1 + x1)) + 0)).bind fun v5 => if 0 ≤ v5 then (if qO q1.2 x0 6 = true then ((f_X6_copyTown x0 (780 * (1 + x1)) 0 q1.2).bind fun q7 => (gR q7.2 x0 6 0).bind fun v10 => (gA q7.2 v10 0).bind fun v12 => some (v12, q7.2)) else none) else (if qO q1.2 x0 6 = true then ((f_X6_find x0 1 q1.2).bind fun q14 => some (q14.1, q14.2)) else none))
set_option maxRecDepth 100000 in
set_option maxHeartbeats 4000000 in
theorem k_X6_on {l : Launch} {g : GX} (d : Nat) {Q : jQ} {x0 : Option Nat} {x1 : Int32} (ah : AH) (out : Int32 × AH) (h : f_X6_on x0 x1 ah = some out) (hR : jRetI l g md_X6_on (jRm (d + 1) md_X6_on) Q (0, 0) out.1 out.2) : J l g md_X6_on (jRm (d + 1) md_X6_on) Q 0 [(0, .inr (.inr (.inl x0))), (1, .inl x1)] [] ah (0, 0) := by
  unfold f_X6_on at h
  refine J_seg ok_X6_on 0 3 (pc' := 3) (ls' := [(0, .inr (.inr (.inl x0))), (1, .inl x1)]) (st' := [.inr (.inl 0), .inr (.inl (Int32.toInt64 x1))]) rfl ?_
  refine J_ldc2 (jat ok_X6_on 3 (pc := 3) (i := .ldc2_w 198) (n := 3) rfl rfl) lc_RX6_198 ?_
  obtain ⟨q1, h2, h⟩ := Option.bind_eq_some_iff.mp h
  refine J_callS (md' := md_X6_in) (As := [.inr (.inl (Int32.toInt64 x1)), .inr (.inl 0), .inr (.inl 2)]) (st := []) (cs' := (0, 0)) (st' := [.inl q1.1]) (jat ok_X6_on 4 (pc := 6) (i := .invokestatic 71) (n := 3) rfl rfl) (Or.inl ml_RX6_71) ys_X6_in (c_X6_in l g (d + 0) h2) (jRo_of (by decide)) (Nat.le_of_ble_eq_true rfl) ⟨Nat.le_of_ble_eq_true rfl, Nat.le_of_ble_eq_true rfl⟩ rfl rfl rfl ?_
  refine J_ne0 (jat ok_X6_on 5 (pc := 9) (i := .ifCond .ne 5) (n := 3) rfl rfl) (tgt := 14) (by decide) (fun c => ?_) (fun c => ?_)
  · have h := (if_neg c).symm.trans h
    refine J_seg ok_X6_on 8 1 (pc' := 15) (ls' := [(0, .inr (.inr (.inl x0))), (1, .inl x1)]) (st' := [.inr (.inr (.inl x0))]) rfl ?_
    obtain ⟨v3, h4, h⟩ := Option.bind_eq_some_iff.mp h
    refine J_getR (jat ok_X6_on 9 (pc := 15) (i := .getfield 7) (n := 3) rfl rfl) fl_RX6_7 h4 ?_
    refine J_seg ok_X6_on 10 7 (pc' := 27) (ls' := [(0, .inr (.inr (.inl x0))), (1, .inl x1)]) (st' := [.inl ((780 * (1 + x1)) + 0), .inr (.inr (.inl v3))]) rfl ?_
    obtain ⟨v5, h6, h⟩ := Option.bind_eq_some_iff.mp h
    refine J_iald (jat ok_X6_on 17 (pc := 27) (i := .iaload) (n := 1) rfl rfl) h6 ?_
    refine J_ge0 (jat ok_X6_on 18 (pc := 28) (i := .ifCond .ge 9) (n := 3) rfl rfl) (tgt := 37) (by decide) (fun c => ?_) (fun c => ?_)
    · have h := (if_pos c).symm.trans h
      refine J_seg ok_X6_on 23 7 (pc' := 46) (ls' := [(0, .inr (.inr (.inl x0))), (1, .inl x1)]) (st' := [.inl 0, .inl (780 * (1 + x1)), .inr (.inr (.inl x0))]) rfl ?_
      by_cases c9 : qO q1.2 x0 6 = true
      case neg => exact absurd ((if_neg c9).symm.trans h) (by simp)
      have h := (if_pos c9).symm.trans h
      obtain ⟨q7, h8, h⟩ := Option.bind_eq_some_iff.mp h
      refine J_callV (md' := md_X6_copyTown) (As := [.inl (780 * (1 + x1)), .inl 0]) (st := []) (cs' := (0, 0)) (st' := []) (jat ok_X6_on 30 (pc := 46) (i := .invokevirtual 209) (n := 3) rfl rfl) ml_RX6_209 yv_X6_copyTown c9 (c_X6_copyTown l g (d + 0) h8) (jRo_of (by decide)) (Nat.le_of_ble_eq_true rfl) ⟨Nat.le_of_ble_eq_true rfl, Nat.le_of_ble_eq_true rfl⟩ rfl rfl rfl ?_
      refine J_seg ok_X6_on 31 1 (pc' := 50) (ls' := [(0, .inr (.inr (.inl x0))), (1, .inl x1)]) (st' := [.inr (.inr (.inl x0))]) rfl ?_
      obtain ⟨v10, h11, h⟩ := Option.bind_eq_some_iff.mp h
      refine J_getR (jat ok_X6_on 32 (pc := 50) (i := .getfield 7) (n := 3) rfl rfl) fl_RX6_7 h11 ?_
      refine J_seg ok_X6_on 33 1 (pc' := 54) (ls' := [(0, .inr (.inr (.inl x0))), (1, .inl x1)]) (st' := [.inl 0, .inr (.inr (.inl v10))]) rfl ?_
      obtain ⟨v12, h13, h⟩ := Option.bind_eq_some_iff.mp h
      refine J_iald (jat ok_X6_on 34 (pc := 54) (i := .iaload) (n := 1) rfl rfl) h13 ?_
      have h := Option.some.inj h
      subst h
      exact hR _ _ (jat ok_X6_on 35 (pc := 55) (i := .ireturn) (n := 1) rfl rfl)
    · have h := (if_neg c).symm.trans h
      refine J_seg ok_X6_on 19 2 (pc' := 33) (ls' := [(0, .inr (.inr (.inl x0))), (1, .inl x1)]) (st' := [.inl 1, .inr (.inr (.inl x0))]) rfl ?_
      by_cases c16 : qO q1.2 x0 6 = true
      case neg => exact absurd ((if_neg c16).symm.trans h) (by simp)
      have h := (if_pos c16).symm.trans h
      obtain ⟨q14, h15, h⟩ := Option.bind_eq_some_iff.mp h
      refine J_callV (md' := md_X6_find) (As := [.inl 1]) (st := []) (cs' := (0, 0)) (st' := [.inl q14.1]) (jat ok_X6_on 21 (pc := 33) (i := .invokevirtual 81) (n := 3) rfl rfl) ml_RX6_81 yv_X6_find c16 (c_X6_find l g (d + 0) h15) (jRo_of (by decide)) (Nat.le_of_ble_eq_true rfl) ⟨Nat.le_of_ble_eq_true rfl, Nat.le_of_ble_eq_true rfl⟩ rfl rfl rfl ?_
      have h := Option.some.inj h
      subst h
      exact hR _ _ (jat ok_X6_on 22 (pc := 36) (i := .ireturn) (n := 1) rfl rfl)
  · have h := (if_pos c).symm.trans h
    refine J_seg ok_X6_on 6 1 (pc' := 13) (ls' := [(0, .inr (.inr (.inl x0))), (1, .inl x1)]) (st' := [.inl (-1)]) rfl ?_
    have h := Option.some.inj h
    subst h
    exact hR _ _ (jat ok_X6_on 7 (pc := 13) (i := .ireturn) (n := 1) rfl rfl)
theorem c_X6_on (l : Launch) (g : GX) (d : Nat) {x0 : Option Nat} {x1 : Int32} {ah : AH} {q : Int32 × AH} (h : f_X6_on x0 x1 ah = some q) : jM l g (d + 1) md_X6_on [.inr (.inr (.inl x0)), .inl x1] ah (some (.inl q.1)) q.2 :=
  jM_of (by decide) (Nat.le_of_ble_eq_true rfl) (k_X6_on d ah q h (fun pc ls hd => J_reti hd rfl (jPV_int _) rfl (Nat.le_refl _) rfl rfl))
def f_X6_ringOf_b4 (k0 : Option Nat) (k1 : Int32) (s4 : Int32 × Int32) (ah : AH) : Option ((Unit × AH) ⊕ (((Int32 × Int32) × AH) ⊕ ((Int32 × Int32) × AH))) :=
  if s4.2 = (-9) then (some (.inr (.inl ((s4.1, s4.2), ah)))) else ((f_X6_has s4.1 s4.2 ah).bind fun q1 => if q1.1 = 0 then (if qO q1.2 k0 6 = true then ((f_X6_victim k0 s4.2 q1.2).bind fun q3 => some (.inr (.inr ((s4.1 ||| (1 <<< (s4.2 &&& 31)), q3.1), q3.2)))) else none) else (some (.inr (.inl ((s4.1, s4.2), q1.2)))))
set_option maxRecDepth 100000 in
set_option maxHeartbeats 4000000 in
theorem k_X6_ringOf_b4 {l : Launch} {g : GX} (d : Nat) {Q : jQ} {k0 : Option Nat} {k1 : Int32} (s4 : Int32 × Int32) (ah : AH) (out : (Unit × AH) ⊕ (((Int32 × Int32) × AH) ⊕ ((Int32 × Int32) × AH))) (h : f_X6_ringOf_b4 k0 k1 s4 ah = some out) (hR : ∀ q, out = .inl q → jRetN q.1 q.2) (hX : ∀ q, out = .inr (.inl q) → J l g md_X6_ringOf (jRm (d + 1) md_X6_ringOf) Q 33 [(1, .inl k1), (2, .inl q.1.1), (3, .inl q.1.2)] [] q.2 (0, 0)) (hN : ∀ q, out = .inr (.inr q) → J l g md_X6_ringOf (jRm (d + 1) md_X6_ringOf) Q 4 [(0, .inr (.inr (.inl k0))), (1, .inl k1), (2, .inl q.1.1), (3, .inl q.1.2)] [] q.2 (0, 0)) : J l g md_X6_ringOf (jRm (d + 1) md_X6_ringOf) Q 4 [(0, .inr (.inr (.inl k0))), (1, .inl k1), (2, .inl s4.1), (3, .inl s4.2)] [] ah (0, 0) := by
  unfold f_X6_ringOf_b4 at h
  refine J_seg ok_X6_ringOf 4 2 (pc' := 7) (ls' := [(0, .inr (.inr (.inl k0))), (1, .inl k1), (2, .inl s4.1), (3, .inl s4.2)]) (st' := [.inl (-9), .inl s4.2]) rfl ?_
  refine J_eq (jat ok_X6_ringOf 6 (pc := 7) (i := .if_icmp .eq 26) (n := 3) rfl rfl) (tgt := 33) (by decide) (fun c => ?_) (fun c => ?_)
  · have h := (if_pos c).symm.trans h
    exact J_sub (ls' := [(1, .inl k1), (2, .inl s4.1), (3, .inl s4.2)]) [1, 2, 3] rfl (hX ((s4.1, s4.2), ah) (Option.some.inj h).symm)
  · have h := (if_neg c).symm.trans h
    refine J_seg ok_X6_ringOf 7 2 (pc' := 12) (ls' := [(0, .inr (.inr (.inl k0))), (1, .inl k1), (2, .inl s4.1), (3, .inl s4.2)]) (st' := [.inl s4.2, .inl s4.1]) rfl ?_
    obtain ⟨q1, h2, h⟩ := Option.bind_eq_some_iff.mp h
    refine J_callS (md' := md_X6_has) (As := [.inl s4.1, .inl s4.2]) (st := []) (cs' := (0, 0)) (st' := [.inl q1.1]) (jat ok_X6_ringOf 9 (pc := 12) (i := .invokestatic 128) (n := 3) rfl rfl) (Or.inl ml_RX6_128) ys_X6_has (c_X6_has l g (d + 0) h2) (jRo_of (by decide)) (Nat.le_of_ble_eq_true rfl) ⟨Nat.le_of_ble_eq_true rfl, Nat.le_of_ble_eq_true rfl⟩ rfl rfl rfl ?_
    refine J_ne0 (jat ok_X6_ringOf 10 (pc := 15) (i := .ifCond .ne 18) (n := 3) rfl rfl) (tgt := 33) (by decide) (fun c => ?_) (fun c => ?_)
    · have h := (if_neg c).symm.trans h
      exact J_sub (ls' := [(1, .inl k1), (2, .inl s4.1), (3, .inl s4.2)]) [1, 2, 3] rfl (hX ((s4.1, s4.2), q1.2) (Option.some.inj h).symm)
    · have h := (if_pos c).symm.trans h
      refine J_seg ok_X6_ringOf 11 8 (pc' := 26) (ls' := [(2, .inl (s4.1 ||| (1 <<< (s4.2 &&& 31)))), (0, .inr (.inr (.inl k0))), (1, .inl k1), (3, .inl s4.2)]) (st' := [.inl s4.2, .inr (.inr (.inl k0))]) rfl ?_
      by_cases c5 : qO q1.2 k0 6 = true
      case neg => exact absurd ((if_neg c5).symm.trans h) (by simp)
      have h := (if_pos c5).symm.trans h
      obtain ⟨q3, h4, h⟩ := Option.bind_eq_some_iff.mp h
      refine J_callV (md' := md_X6_victim) (As := [.inl s4.2]) (st := []) (cs' := (0, 0)) (st' := [.inl q3.1]) (jat ok_X6_ringOf 19 (pc := 26) (i := .invokevirtual 157) (n := 3) rfl rfl) ml_RX6_157 yv_X6_victim c5 (c_X6_victim l g (d + 0) h4) (jRo_of (by decide)) (Nat.le_of_ble_eq_true rfl) ⟨Nat.le_of_ble_eq_true rfl, Nat.le_of_ble_eq_true rfl⟩ rfl rfl rfl ?_
      refine J_seg ok_X6_ringOf 20 2 (pc' := 4) (ls' := [(3, .inl q3.1), (2, .inl (s4.1 ||| (1 <<< (s4.2 &&& 31)))), (0, .inr (.inr (.inl k0))), (1, .inl k1)]) (st' := []) rfl ?_
      exact J_sub (ls' := [(0, .inr (.inr (.inl k0))), (1, .inl k1), (2, .inl (s4.1 ||| (1 <<< (s4.2 &&& 31)))), (3, .inl q3.1)]) [2, 3, 1, 0] rfl (hN ((s4.1 ||| (1 <<< (s4.2 &&& 31)), q3.1), q3.2) (Option.some.inj h).symm)
def f_X6_ringOf_j33 (x1 : Int32) (x2 : Int32) (x3 : Int32) (ah : AH) : Option (Int32 × AH) :=
  if x3 = x1 then (some (x2, ah)) else (some (0, ah))
set_option maxRecDepth 100000 in
set_option maxHeartbeats 4000000 in
theorem k_X6_ringOf_j33 {l : Launch} {g : GX} (d : Nat) {Q : jQ} {x1 : Int32} {x2 : Int32} {x3 : Int32} (ah : AH) (out : Int32 × AH) (h : f_X6_ringOf_j33 x1 x2 x3 ah = some out) (hR : jRetI l g md_X6_ringOf (jRm (d + 1) md_X6_ringOf) Q (0, 0) out.1 out.2) : J l g md_X6_ringOf (jRm (d + 1) md_X6_ringOf) Q 33 [(1, .inl x1), (2, .inl x2), (3, .inl x3)] [] ah (0, 0) := by
  unfold f_X6_ringOf_j33 at h
  refine J_seg ok_X6_ringOf 22 2 (pc' := 35) (ls' := [(1, .inl x1), (2, .inl x2), (3, .inl x3)]) (st' := [.inl x1, .inl x3]) rfl ?_
  refine J_ne (jat ok_X6_ringOf 24 (pc := 35) (i := .if_icmp .ne 7) (n := 3) rfl rfl) (tgt := 42) (by decide) (fun c => ?_) (fun c => ?_)
  · have h := (if_neg c).symm.trans h
    refine J_seg ok_X6_ringOf 27 1 (pc' := 43) (ls' := [(1, .inl x1), (2, .inl x2), (3, .inl x3)]) (st' := [.inl 0]) rfl ?_
    have h := Option.some.inj h
    subst h
    exact hR _ _ (jat ok_X6_ringOf 28 (pc := 43) (i := .ireturn) (n := 1) rfl rfl)
  · have h := (if_pos c).symm.trans h
    refine J_seg ok_X6_ringOf 25 2 (pc' := 43) (ls' := [(1, .inl x1), (2, .inl x2), (3, .inl x3)]) (st' := [.inl x2]) rfl ?_
    have h := Option.some.inj h
    subst h
    exact hR _ _ (jat ok_X6_ringOf 28 (pc := 43) (i := .ireturn) (n := 1) rfl rfl)
def f_X6_ringOf (x0 : Option Nat) (x1 : Int32) (ah : AH) : Option (Int32 × AH) :=
  (jloop (f_X6_ringOf_b4 x0 x1) jfuel (0, x1) ah).bind fun q6 => match q6 with | .inl r => none | .inr z8 => f_X6_ringOf_j33 x1 z8.1.1 z8.1.2 z8.2
set_option maxRecDepth 100000 in
set_option maxHeartbeats 4000000 in
theorem k_X6_ringOf {l : Launch} {g : GX} (d : Nat) {Q : jQ} {x0 : Option Nat} {x1 : Int32} (ah : AH) (out : Int32 × AH) (h : f_X6_ringOf x0 x1 ah = some out) (hR : jRetI l g md_X6_ringOf (jRm (d + 1) md_X6_ringOf) Q (0, 0) out.1 out.2) : J l g md_X6_ringOf (jRm (d + 1) md_X6_ringOf) Q 0 [(0, .inr (.inr (.inl x0))), (1, .inl x1)] [] ah (0, 0) := by
  unfold f_X6_ringOf at h
  refine J_seg ok_X6_ringOf 0 4 (pc' := 4) (ls' := [(3, .inl x1), (2, .inl 0), (0, .inr (.inr (.inl x0))), (1, .inl x1)]) (st' := []) rfl ?_
  obtain ⟨q6, h7, h⟩ := Option.bind_eq_some_iff.mp h
  refine J_sub (ls' := [(0, .inr (.inr (.inl x0))), (1, .inl x1), (2, .inl 0), (3, .inl x1)]) [2, 3, 1, 0] rfl ?_
  refine J_loop (pE := 33) (lh := fun t9 => [(0, .inr (.inr (.inl x0))), (1, .inl x1), (2, .inl t9.1), (3, .inl t9.2)]) (lx := fun z8 => [(1, .inl x1), (2, .inl z8.1), (3, .inl z8.2)]) (P := jRetN) (fun s ah out hb hR hX hN => k_X6_ringOf_b4 d s ah out hb hR hX hN) jfuel (0, x1) _ _ h7 (fun r e => ?_) (fun z8 e => ?_)
  · subst e
    dsimp only at h
    cases h
  · subst e
    dsimp only at h
    refine J_sub (ls' := [(1, .inl x1), (2, .inl z8.1.1), (3, .inl z8.1.2)]) [0, 1, 2] rfl ?_
    exact k_X6_ringOf_j33 d _ _ h hR
theorem c_X6_ringOf (l : Launch) (g : GX) (d : Nat) {x0 : Option Nat} {x1 : Int32} {ah : AH} {q : Int32 × AH} (h : f_X6_ringOf x0 x1 ah = some q) : jM l g (d + 1) md_X6_ringOf [.inr (.inr (.inl x0)), .inl x1] ah (some (.inl q.1)) q.2 :=
  jM_of (by decide) (Nat.le_of_ble_eq_true rfl) (k_X6_ringOf d ah q h (fun pc ls hd => J_reti hd rfl (jPV_int _) rfl (Nat.le_refl _) rfl rfl))
def f_X6_rings_b11_j81 (k0 : Option Nat) (x1 : Int32) (x2 : Int32) (x3 : Int32) (y0 : Int32) (y1 : Option Nat) (ah : AH) : Option ((Unit × AH) ⊕ (((Int32) × AH) ⊕ ((Int32 × Int32 × Int32) × AH))) :=
  (sF ah y1 6 11 (.inl y0)).bind fun a18 => some (.inr (.inr ((x1, x2, x3 + 1), a18)))
set_option maxRecDepth 100000 in
set_option maxHeartbeats 4000000 in
theorem k_X6_rings_b11_j81 {l : Launch} {g : GX} (d : Nat) {Q : jQ} {k0 : Option Nat} {x1 : Int32} {x2 : Int32} {x3 : Int32} {y0 : Int32} {y1 : Option Nat} (ah : AH) (out : (Unit × AH) ⊕ (((Int32) × AH) ⊕ ((Int32 × Int32 × Int32) × AH))) (h : f_X6_rings_b11_j81 k0 x1 x2 x3 y0 y1 ah = some out) (hR : ∀ q, out = .inl q → jRetN q.1 q.2) (hX : ∀ q, out = .inr (.inl q) → J l g md_X6_rings (jRm (d + 2) md_X6_rings) Q 90 [(1, .inl q.1)] [] q.2 (0, 0)) (hN : ∀ q, out = .inr (.inr q) → J l g md_X6_rings (jRm (d + 2) md_X6_rings) Q 11 [(0, .inr (.inr (.inl k0))), (1, .inl q.1.1), (2, .inl q.1.2.1), (3, .inl q.1.2.2)] [] q.2 (0, 0)) : J l g md_X6_rings (jRm (d + 2) md_X6_rings) Q 81 [(0, .inr (.inr (.inl k0))), (1, .inl x1), (2, .inl x2), (3, .inl x3)] [.inl y0, .inr (.inr (.inl y1))] ah (0, 0) := by
  unfold f_X6_rings_b11_j81 at h
  obtain ⟨a18, h19, h⟩ := Option.bind_eq_some_iff.mp h
  refine J_put (jat ok_X6_rings 46 (pc := 81) (i := .putfield 66) (n := 3) rfl rfl) (fp_RX6_66 _) (jPV_int _) h19 ?_
  refine J_seg ok_X6_rings 47 2 (pc' := 11) (ls' := [(3, .inl (x3 + 1)), (0, .inr (.inr (.inl k0))), (1, .inl x1), (2, .inl x2)]) (st' := []) rfl ?_
  exact J_sub (ls' := [(0, .inr (.inr (.inl k0))), (1, .inl x1), (2, .inl x2), (3, .inl (x3 + 1))]) [1, 2, 3, 0] rfl (hN ((x1, x2, x3 + 1), a18) (Option.some.inj h).symm)
def f_X6_rings_b11_j54 (k0 : Option Nat) (x2 : Int32) (x3 : Int32) (x4 : Int32) (y0 : Int32) (y1 : Int32) (ah : AH) : Option ((Unit × AH) ⊕ (((Int32) × AH) ⊕ ((Int32 × Int32 × Int32) × AH))) :=
  (f_X6_bits x4 ah).bind fun q10 => (gI q10.2 k0 6 11).bind fun v12 => (f_X6_bits v12 q10.2).bind fun q14 => if q10.1 ≤ q14.1 then ((gI q14.2 k0 6 11).bind fun v16 => f_X6_rings_b11_j81 k0 (y1 + y0) x2 x3 v16 k0 q14.2) else (f_X6_rings_b11_j81 k0 (y1 + y0) x2 x3 x4 k0 q14.2)
set_option maxRecDepth 100000 in
set_option maxHeartbeats 4000000 in
theorem k_X6_rings_b11_j54 {l : Launch} {g : GX} (d : Nat) {Q : jQ} {k0 : Option Nat} {x2 : Int32} {x3 : Int32} {x4 : Int32} {y0 : Int32} {y1 : Int32} (ah : AH) (out : (Unit × AH) ⊕ (((Int32) × AH) ⊕ ((Int32 × Int32 × Int32) × AH))) (h : f_X6_rings_b11_j54 k0 x2 x3 x4 y0 y1 ah = some out) (hR : ∀ q, out = .inl q → jRetN q.1 q.2) (hX : ∀ q, out = .inr (.inl q) → J l g md_X6_rings (jRm (d + 2) md_X6_rings) Q 90 [(1, .inl q.1)] [] q.2 (0, 0)) (hN : ∀ q, out = .inr (.inr q) → J l g md_X6_rings (jRm (d + 2) md_X6_rings) Q 11 [(0, .inr (.inr (.inl k0))), (1, .inl q.1.1), (2, .inl q.1.2.1), (3, .inl q.1.2.2)] [] q.2 (0, 0)) : J l g md_X6_rings (jRm (d + 2) md_X6_rings) Q 54 [(0, .inr (.inr (.inl k0))), (2, .inl x2), (3, .inl x3), (4, .inl x4)] [.inl y0, .inl y1] ah (0, 0) := by
  unfold f_X6_rings_b11_j54 at h
  refine J_seg ok_X6_rings 33 4 (pc' := 59) (ls' := [(1, .inl (y1 + y0)), (0, .inr (.inr (.inl k0))), (2, .inl x2), (3, .inl x3), (4, .inl x4)]) (st' := [.inl x4, .inr (.inr (.inl k0))]) rfl ?_
  obtain ⟨q10, h11, h⟩ := Option.bind_eq_some_iff.mp h
  refine J_callS (md' := md_X6_bits) (As := [.inl x4]) (st := [.inr (.inr (.inl k0))]) (cs' := (0, 0)) (st' := [.inl q10.1, .inr (.inr (.inl k0))]) (jat ok_X6_rings 37 (pc := 59) (i := .invokestatic 183) (n := 3) rfl rfl) (Or.inl ml_RX6_183) ys_X6_bits (c_X6_bits l g (d + 1) h11) (jRo_of (by decide)) (Nat.le_of_ble_eq_true rfl) ⟨Nat.le_of_ble_eq_true rfl, Nat.le_of_ble_eq_true rfl⟩ rfl rfl rfl ?_
  refine J_seg ok_X6_rings 38 1 (pc' := 63) (ls' := [(1, .inl (y1 + y0)), (0, .inr (.inr (.inl k0))), (2, .inl x2), (3, .inl x3), (4, .inl x4)]) (st' := [.inr (.inr (.inl k0)), .inl q10.1, .inr (.inr (.inl k0))]) rfl ?_
  obtain ⟨v12, h13, h⟩ := Option.bind_eq_some_iff.mp h
  refine J_getI (jat ok_X6_rings 39 (pc := 63) (i := .getfield 66) (n := 3) rfl rfl) fl_RX6_66 h13 ?_
  obtain ⟨q14, h15, h⟩ := Option.bind_eq_some_iff.mp h
  refine J_callS (md' := md_X6_bits) (As := [.inl v12]) (st := [.inl q10.1, .inr (.inr (.inl k0))]) (cs' := (0, 0)) (st' := [.inl q14.1, .inl q10.1, .inr (.inr (.inl k0))]) (jat ok_X6_rings 40 (pc := 66) (i := .invokestatic 183) (n := 3) rfl rfl) (Or.inl ml_RX6_183) ys_X6_bits (c_X6_bits l g (d + 1) h15) (jRo_of (by decide)) (Nat.le_of_ble_eq_true rfl) ⟨Nat.le_of_ble_eq_true rfl, Nat.le_of_ble_eq_true rfl⟩ rfl rfl rfl ?_
  refine J_le (jat ok_X6_rings 41 (pc := 69) (i := .if_icmp .le 8) (n := 3) rfl rfl) (tgt := 77) (by decide) (fun c => ?_) (fun c => ?_)
  · have h := (if_pos c).symm.trans h
    refine J_seg ok_X6_rings 44 1 (pc' := 78) (ls' := [(1, .inl (y1 + y0)), (0, .inr (.inr (.inl k0))), (2, .inl x2), (3, .inl x3), (4, .inl x4)]) (st' := [.inr (.inr (.inl k0)), .inr (.inr (.inl k0))]) rfl ?_
    obtain ⟨v16, h17, h⟩ := Option.bind_eq_some_iff.mp h
    refine J_getI (jat ok_X6_rings 45 (pc := 78) (i := .getfield 66) (n := 3) rfl rfl) fl_RX6_66 h17 ?_
    refine J_sub (ls' := [(0, .inr (.inr (.inl k0))), (1, .inl (y1 + y0)), (2, .inl x2), (3, .inl x3)]) [1, 0, 2, 3] rfl ?_
    exact k_X6_rings_b11_j81 d _ _ h hR hX hN
  · have h := (if_neg c).symm.trans h
    refine J_seg ok_X6_rings 42 2 (pc' := 81) (ls' := [(1, .inl (y1 + y0)), (0, .inr (.inr (.inl k0))), (2, .inl x2), (3, .inl x3), (4, .inl x4)]) (st' := [.inl x4, .inr (.inr (.inl k0))]) rfl ?_
    refine J_sub (ls' := [(0, .inr (.inr (.inl k0))), (1, .inl (y1 + y0)), (2, .inl x2), (3, .inl x3)]) [1, 0, 2, 3] rfl ?_
    exact k_X6_rings_b11_j81 d _ _ h hR hX hN
def f_X6_rings_b11_j36 (k0 : Option Nat) (x1 : Int32) (x2 : Int32) (x3 : Int32) (y0 : Int32) (ah : AH) : Option ((Unit × AH) ⊕ (((Int32) × AH) ⊕ ((Int32 × Int32 × Int32) × AH))) :=
  if y0 = 0 then (f_X6_rings_b11_j54 k0 (x2 ||| y0) x3 y0 0 x1 ah) else (f_X6_rings_b11_j54 k0 (x2 ||| y0) x3 y0 1 x1 ah)
set_option maxRecDepth 100000 in
set_option maxHeartbeats 4000000 in
theorem k_X6_rings_b11_j36 {l : Launch} {g : GX} (d : Nat) {Q : jQ} {k0 : Option Nat} {x1 : Int32} {x2 : Int32} {x3 : Int32} {y0 : Int32} (ah : AH) (out : (Unit × AH) ⊕ (((Int32) × AH) ⊕ ((Int32 × Int32 × Int32) × AH))) (h : f_X6_rings_b11_j36 k0 x1 x2 x3 y0 ah = some out) (hR : ∀ q, out = .inl q → jRetN q.1 q.2) (hX : ∀ q, out = .inr (.inl q) → J l g md_X6_rings (jRm (d + 2) md_X6_rings) Q 90 [(1, .inl q.1)] [] q.2 (0, 0)) (hN : ∀ q, out = .inr (.inr q) → J l g md_X6_rings (jRm (d + 2) md_X6_rings) Q 11 [(0, .inr (.inr (.inl k0))), (1, .inl q.1.1), (2, .inl q.1.2.1), (3, .inl q.1.2.2)] [] q.2 (0, 0)) : J l g md_X6_rings (jRm (d + 2) md_X6_rings) Q 36 [(0, .inr (.inr (.inl k0))), (1, .inl x1), (2, .inl x2), (3, .inl x3)] [.inl y0] ah (0, 0) := by
  unfold f_X6_rings_b11_j36 at h
  refine J_seg ok_X6_rings 22 7 (pc' := 46) (ls' := [(2, .inl (x2 ||| y0)), (4, .inl y0), (0, .inr (.inr (.inl k0))), (1, .inl x1), (3, .inl x3)]) (st' := [.inl y0, .inl x1]) rfl ?_
  refine J_eq0 (jat ok_X6_rings 29 (pc := 46) (i := .ifCond .eq 7) (n := 3) rfl rfl) (tgt := 53) (by decide) (fun c => ?_) (fun c => ?_)
  · have h := (if_pos c).symm.trans h
    refine J_seg ok_X6_rings 32 1 (pc' := 54) (ls' := [(2, .inl (x2 ||| y0)), (4, .inl y0), (0, .inr (.inr (.inl k0))), (1, .inl x1), (3, .inl x3)]) (st' := [.inl 0, .inl x1]) rfl ?_
    refine J_sub (ls' := [(0, .inr (.inr (.inl k0))), (2, .inl (x2 ||| y0)), (3, .inl x3), (4, .inl y0)]) [2, 0, 4, 1] rfl ?_
    exact k_X6_rings_b11_j54 d _ _ h hR hX hN
  · have h := (if_neg c).symm.trans h
    refine J_seg ok_X6_rings 30 2 (pc' := 54) (ls' := [(2, .inl (x2 ||| y0)), (4, .inl y0), (0, .inr (.inr (.inl k0))), (1, .inl x1), (3, .inl x3)]) (st' := [.inl 1, .inl x1]) rfl ?_
    refine J_sub (ls' := [(0, .inr (.inr (.inl k0))), (2, .inl (x2 ||| y0)), (3, .inl x3), (4, .inl y0)]) [2, 0, 4, 1] rfl ?_
    exact k_X6_rings_b11_j54 d _ _ h hR hX hN
def f_X6_rings_b11 (k0 : Option Nat) (s11 : Int32 × Int32 × Int32) (ah : AH) : Option ((Unit × AH) ⊕ (((Int32) × AH) ⊕ ((Int32 × Int32 × Int32) × AH))) :=
  (gI ah k0 6 1).bind fun v3 => if v3 ≤ s11.2.2 then (some (.inr (.inl (s11.1, ah)))) else ((f_X6_has s11.2.1 s11.2.2 ah).bind fun q5 => if q5.1 = 0 then (if qO q5.2 k0 6 = true then ((f_X6_ringOf k0 s11.2.2 q5.2).bind fun q7 => f_X6_rings_b11_j36 k0 s11.1 s11.2.1 s11.2.2 q7.1 q7.2) else none) else (f_X6_rings_b11_j36 k0 s11.1 s11.2.1 s11.2.2 0 q5.2))
set_option maxRecDepth 100000 in
set_option maxHeartbeats 4000000 in
theorem k_X6_rings_b11 {l : Launch} {g : GX} (d : Nat) {Q : jQ} {k0 : Option Nat} (s11 : Int32 × Int32 × Int32) (ah : AH) (out : (Unit × AH) ⊕ (((Int32) × AH) ⊕ ((Int32 × Int32 × Int32) × AH))) (h : f_X6_rings_b11 k0 s11 ah = some out) (hR : ∀ q, out = .inl q → jRetN q.1 q.2) (hX : ∀ q, out = .inr (.inl q) → J l g md_X6_rings (jRm (d + 2) md_X6_rings) Q 90 [(1, .inl q.1)] [] q.2 (0, 0)) (hN : ∀ q, out = .inr (.inr q) → J l g md_X6_rings (jRm (d + 2) md_X6_rings) Q 11 [(0, .inr (.inr (.inl k0))), (1, .inl q.1.1), (2, .inl q.1.2.1), (3, .inl q.1.2.2)] [] q.2 (0, 0)) : J l g md_X6_rings (jRm (d + 2) md_X6_rings) Q 11 [(0, .inr (.inr (.inl k0))), (1, .inl s11.1), (2, .inl s11.2.1), (3, .inl s11.2.2)] [] ah (0, 0) := by
  unfold f_X6_rings_b11 at h
  refine J_seg ok_X6_rings 9 2 (pc' := 13) (ls' := [(0, .inr (.inr (.inl k0))), (1, .inl s11.1), (2, .inl s11.2.1), (3, .inl s11.2.2)]) (st' := [.inr (.inr (.inl k0)), .inl s11.2.2]) rfl ?_
  obtain ⟨v3, h4, h⟩ := Option.bind_eq_some_iff.mp h
  refine J_getI (jat ok_X6_rings 11 (pc := 13) (i := .getfield 148) (n := 3) rfl rfl) fl_RX6_148 h4 ?_
  refine J_ge (jat ok_X6_rings 12 (pc := 16) (i := .if_icmp .ge 74) (n := 3) rfl rfl) (tgt := 90) (by decide) (fun c => ?_) (fun c => ?_)
  · have h := (if_pos c).symm.trans h
    exact J_sub (ls' := [(1, .inl s11.1)]) [1] rfl (hX (s11.1, ah) (Option.some.inj h).symm)
  · have h := (if_neg c).symm.trans h
    refine J_seg ok_X6_rings 13 2 (pc' := 21) (ls' := [(0, .inr (.inr (.inl k0))), (1, .inl s11.1), (2, .inl s11.2.1), (3, .inl s11.2.2)]) (st' := [.inl s11.2.2, .inl s11.2.1]) rfl ?_
    obtain ⟨q5, h6, h⟩ := Option.bind_eq_some_iff.mp h
    refine J_callS (md' := md_X6_has) (As := [.inl s11.2.1, .inl s11.2.2]) (st := []) (cs' := (0, 0)) (st' := [.inl q5.1]) (jat ok_X6_rings 15 (pc := 21) (i := .invokestatic 128) (n := 3) rfl rfl) (Or.inl ml_RX6_128) ys_X6_has (c_X6_has l g (d + 1) h6) (jRo_of (by decide)) (Nat.le_of_ble_eq_true rfl) ⟨Nat.le_of_ble_eq_true rfl, Nat.le_of_ble_eq_true rfl⟩ rfl rfl rfl ?_
    refine J_eq0 (jat ok_X6_rings 16 (pc := 24) (i := .ifCond .eq 7) (n := 3) rfl rfl) (tgt := 31) (by decide) (fun c => ?_) (fun c => ?_)
    · have h := (if_pos c).symm.trans h
      refine J_seg ok_X6_rings 19 2 (pc' := 33) (ls' := [(0, .inr (.inr (.inl k0))), (1, .inl s11.1), (2, .inl s11.2.1), (3, .inl s11.2.2)]) (st' := [.inl s11.2.2, .inr (.inr (.inl k0))]) rfl ?_
      by_cases c9 : qO q5.2 k0 6 = true
      case neg => exact absurd ((if_neg c9).symm.trans h) (by simp)
      have h := (if_pos c9).symm.trans h
      obtain ⟨q7, h8, h⟩ := Option.bind_eq_some_iff.mp h
      refine J_callV (md' := md_X6_ringOf) (As := [.inl s11.2.2]) (st := []) (cs' := (0, 0)) (st' := [.inl q7.1]) (jat ok_X6_rings 21 (pc := 33) (i := .invokevirtual 212) (n := 3) rfl rfl) ml_RX6_212 yv_X6_ringOf c9 (c_X6_ringOf l g (d + 0) h8) (jRo_of (by decide)) (Nat.le_of_ble_eq_true rfl) ⟨Nat.le_of_ble_eq_true rfl, Nat.le_of_ble_eq_true rfl⟩ rfl rfl rfl ?_
      refine J_sub (ls' := [(0, .inr (.inr (.inl k0))), (1, .inl s11.1), (2, .inl s11.2.1), (3, .inl s11.2.2)]) [0, 1, 2, 3] rfl ?_
      exact k_X6_rings_b11_j36 d _ _ h hR hX hN
    · have h := (if_neg c).symm.trans h
      refine J_seg ok_X6_rings 17 2 (pc' := 36) (ls' := [(0, .inr (.inr (.inl k0))), (1, .inl s11.1), (2, .inl s11.2.1), (3, .inl s11.2.2)]) (st' := [.inl 0]) rfl ?_
      refine J_sub (ls' := [(0, .inr (.inr (.inl k0))), (1, .inl s11.1), (2, .inl s11.2.1), (3, .inl s11.2.2)]) [0, 1, 2, 3] rfl ?_
      exact k_X6_rings_b11_j36 d _ _ h hR hX hN
def f_X6_rings (x0 : Option Nat) (ah : AH) : Option (Int32 × AH) :=
  (sF ah x0 6 11 (.inl 0)).bind fun a1 => (jloop (f_X6_rings_b11 x0) jfuel (0, 0, 0) a1).bind fun q20 => match q20 with | .inl r => none | .inr z22 => some (z22.1, z22.2)
set_option maxRecDepth 100000 in
set_option maxHeartbeats 4000000 in
theorem k_X6_rings {l : Launch} {g : GX} (d : Nat) {Q : jQ} {x0 : Option Nat} (ah : AH) (out : Int32 × AH) (h : f_X6_rings x0 ah = some out) (hR : jRetI l g md_X6_rings (jRm (d + 2) md_X6_rings) Q (0, 0) out.1 out.2) : J l g md_X6_rings (jRm (d + 2) md_X6_rings) Q 0 [(0, .inr (.inr (.inl x0)))] [] ah (0, 0) := by
  unfold f_X6_rings at h
  refine J_seg ok_X6_rings 0 4 (pc' := 4) (ls' := [(1, .inl 0), (0, .inr (.inr (.inl x0)))]) (st' := [.inl 0, .inr (.inr (.inl x0))]) rfl ?_
  obtain ⟨a1, h2, h⟩ := Option.bind_eq_some_iff.mp h
  refine J_put (jat ok_X6_rings 4 (pc := 4) (i := .putfield 66) (n := 3) rfl rfl) (fp_RX6_66 _) (jPV_int _) h2 ?_
  refine J_seg ok_X6_rings 5 4 (pc' := 11) (ls' := [(3, .inl 0), (2, .inl 0), (1, .inl 0), (0, .inr (.inr (.inl x0)))]) (st' := []) rfl ?_
  obtain ⟨q20, h21, h⟩ := Option.bind_eq_some_iff.mp h
  refine J_sub (ls' := [(0, .inr (.inr (.inl x0))), (1, .inl 0), (2, .inl 0), (3, .inl 0)]) [3, 2, 1, 0] rfl ?_
  refine J_loop (pE := 90) (lh := fun t23 => [(0, .inr (.inr (.inl x0))), (1, .inl t23.1), (2, .inl t23.2.1), (3, .inl t23.2.2)]) (lx := fun z22 => [(1, .inl z22)]) (P := jRetN) (fun s ah out hb hR hX hN => k_X6_rings_b11 d s ah out hb hR hX hN) jfuel (0, 0, 0) _ _ h21 (fun r e => ?_) (fun z22 e => ?_)
  · subst e
    dsimp only at h
    cases h
  · subst e
    dsimp only at h
    refine J_seg ok_X6_rings 49 1 (pc' := 91) (ls' := [(1, .inl z22.1)]) (st' := [.inl z22.1]) rfl ?_
    have h := Option.some.inj h
    subst h
    exact hR _ _ (jat ok_X6_rings 50 (pc := 91) (i := .ireturn) (n := 1) rfl rfl)
theorem c_X6_rings (l : Launch) (g : GX) (d : Nat) {x0 : Option Nat} {ah : AH} {q : Int32 × AH} (h : f_X6_rings x0 ah = some q) : jM l g (d + 2) md_X6_rings [.inr (.inr (.inl x0))] ah (some (.inl q.1)) q.2 :=
  jM_of (by decide) (Nat.le_of_ble_eq_true rfl) (k_X6_rings d ah q h (fun pc ls hd => J_reti hd rfl (jPV_int _) rfl (Nat.le_refl _) rfl rfl))
def f_X6_allies_b14_j75 (k0 : Option Nat) (k1 : Int32) (x2 : Int32) (y0 : Int32) (ah : AH) : Option ((Unit × AH) ⊕ (((Int32) × AH) ⊕ ((Int32 × Int32) × AH))) :=
  if y0 = (-9) then (some (.inr (.inr ((x2 ||| 0, y0), ah)))) else (some (.inr (.inr ((x2 ||| (1 <<< (y0 &&& 31)), y0), ah))))
set_option maxRecDepth 100000 in
set_option maxHeartbeats 4000000 in
theorem k_X6_allies_b14_j75 {l : Launch} {g : GX} (d : Nat) {Q : jQ} {k0 : Option Nat} {k1 : Int32} {x2 : Int32} {y0 : Int32} (ah : AH) (out : (Unit × AH) ⊕ (((Int32) × AH) ⊕ ((Int32 × Int32) × AH))) (h : f_X6_allies_b14_j75 k0 k1 x2 y0 ah = some out) (hR : ∀ q, out = .inl q → jRetN q.1 q.2) (hX : ∀ q, out = .inr (.inl q) → J l g md_X6_allies (jRm (d + 2) md_X6_allies) Q 95 [(2, .inl q.1)] [] q.2 (0, 0)) (hN : ∀ q, out = .inr (.inr q) → J l g md_X6_allies (jRm (d + 2) md_X6_allies) Q 14 [(0, .inr (.inr (.inl k0))), (1, .inl k1), (2, .inl q.1.1), (3, .inl q.1.2)] [] q.2 (0, 0)) : J l g md_X6_allies (jRm (d + 2) md_X6_allies) Q 75 [(0, .inr (.inr (.inl k0))), (1, .inl k1), (2, .inl x2)] [.inl y0] ah (0, 0) := by
  unfold f_X6_allies_b14_j75 at h
  refine J_seg ok_X6_allies 39 4 (pc' := 80) (ls' := [(3, .inl y0), (0, .inr (.inr (.inl k0))), (1, .inl k1), (2, .inl x2)]) (st' := [.inl (-9), .inl y0, .inl x2]) rfl ?_
  refine J_ne (jat ok_X6_allies 43 (pc := 80) (i := .if_icmp .ne 7) (n := 3) rfl rfl) (tgt := 87) (by decide) (fun c => ?_) (fun c => ?_)
  · have h := (if_neg c).symm.trans h
    refine J_seg ok_X6_allies 46 6 (pc' := 14) (ls' := [(2, .inl (x2 ||| (1 <<< (y0 &&& 31)))), (3, .inl y0), (0, .inr (.inr (.inl k0))), (1, .inl k1)]) (st' := []) rfl ?_
    exact J_sub (ls' := [(0, .inr (.inr (.inl k0))), (1, .inl k1), (2, .inl (x2 ||| (1 <<< (y0 &&& 31)))), (3, .inl y0)]) [2, 3, 0, 1] rfl (hN ((x2 ||| (1 <<< (y0 &&& 31)), y0), ah) (Option.some.inj h).symm)
  · have h := (if_pos c).symm.trans h
    refine J_seg ok_X6_allies 44 2 (pc' := 90) (ls' := [(3, .inl y0), (0, .inr (.inr (.inl k0))), (1, .inl k1), (2, .inl x2)]) (st' := [.inl 0, .inl x2]) rfl ?_
    refine J_seg ok_X6_allies 49 3 (pc' := 14) (ls' := [(2, .inl (x2 ||| 0)), (3, .inl y0), (0, .inr (.inr (.inl k0))), (1, .inl k1)]) (st' := []) rfl ?_
    exact J_sub (ls' := [(0, .inr (.inr (.inl k0))), (1, .inl k1), (2, .inl (x2 ||| 0)), (3, .inl y0)]) [2, 3, 0, 1] rfl (hN ((x2 ||| 0, y0), ah) (Option.some.inj h).symm)
def f_X6_allies_b14_j68 (k0 : Option Nat) (k1 : Int32) (x2 : Int32) (ah : AH) : Option ((Unit × AH) ⊕ (((Int32) × AH) ⊕ ((Int32 × Int32) × AH))) :=
  f_X6_allies_b14_j75 k0 k1 x2 (-9) ah
set_option maxRecDepth 100000 in
set_option maxHeartbeats 4000000 in
theorem k_X6_allies_b14_j68 {l : Launch} {g : GX} (d : Nat) {Q : jQ} {k0 : Option Nat} {k1 : Int32} {x2 : Int32} (ah : AH) (out : (Unit × AH) ⊕ (((Int32) × AH) ⊕ ((Int32 × Int32) × AH))) (h : f_X6_allies_b14_j68 k0 k1 x2 ah = some out) (hR : ∀ q, out = .inl q → jRetN q.1 q.2) (hX : ∀ q, out = .inr (.inl q) → J l g md_X6_allies (jRm (d + 2) md_X6_allies) Q 95 [(2, .inl q.1)] [] q.2 (0, 0)) (hN : ∀ q, out = .inr (.inr q) → J l g md_X6_allies (jRm (d + 2) md_X6_allies) Q 14 [(0, .inr (.inr (.inl k0))), (1, .inl k1), (2, .inl q.1.1), (3, .inl q.1.2)] [] q.2 (0, 0)) : J l g md_X6_allies (jRm (d + 2) md_X6_allies) Q 68 [(0, .inr (.inr (.inl k0))), (1, .inl k1), (2, .inl x2)] [] ah (0, 0) := by
  unfold f_X6_allies_b14_j68 at h
  refine J_seg ok_X6_allies 36 2 (pc' := 75) (ls' := [(0, .inr (.inr (.inl k0))), (1, .inl k1), (2, .inl x2)]) (st' := [.inl (-9)]) rfl ?_
  refine J_sub (ls' := [(0, .inr (.inr (.inl k0))), (1, .inl k1), (2, .inl x2)]) [0, 1, 2] rfl ?_
  exact k_X6_allies_b14_j75 d _ _ h hR hX hN
def f_X6_allies_b14_j44 (k0 : Option Nat) (k1 : Int32) (x2 : Int32) (y0 : Int32) (ah : AH) : Option ((Unit × AH) ⊕ (((Int32) × AH) ⊕ ((Int32 × Int32) × AH))) :=
  if y0 = (-9) then (f_X6_allies_b14_j68 k0 k1 x2 ah) else (if y0 = k1 then (f_X6_allies_b14_j68 k0 k1 x2 ah) else ((f_X6_has x2 y0 ah).bind fun q13 => if q13.1 = 0 then (f_X6_allies_b14_j75 k0 k1 x2 y0 q13.2) else (f_X6_allies_b14_j68 k0 k1 x2 q13.2)))
set_option maxRecDepth 100000 in
set_option maxHeartbeats 4000000 in
theorem k_X6_allies_b14_j44 {l : Launch} {g : GX} (d : Nat) {Q : jQ} {k0 : Option Nat} {k1 : Int32} {x2 : Int32} {y0 : Int32} (ah : AH) (out : (Unit × AH) ⊕ (((Int32) × AH) ⊕ ((Int32 × Int32) × AH))) (h : f_X6_allies_b14_j44 k0 k1 x2 y0 ah = some out) (hR : ∀ q, out = .inl q → jRetN q.1 q.2) (hX : ∀ q, out = .inr (.inl q) → J l g md_X6_allies (jRm (d + 2) md_X6_allies) Q 95 [(2, .inl q.1)] [] q.2 (0, 0)) (hN : ∀ q, out = .inr (.inr q) → J l g md_X6_allies (jRm (d + 2) md_X6_allies) Q 14 [(0, .inr (.inr (.inl k0))), (1, .inl k1), (2, .inl q.1.1), (3, .inl q.1.2)] [] q.2 (0, 0)) : J l g md_X6_allies (jRm (d + 2) md_X6_allies) Q 44 [(0, .inr (.inr (.inl k0))), (1, .inl k1), (2, .inl x2)] [.inl y0] ah (0, 0) := by
  unfold f_X6_allies_b14_j44 at h
  refine J_seg ok_X6_allies 25 3 (pc' := 50) (ls' := [(4, .inl y0), (0, .inr (.inr (.inl k0))), (1, .inl k1), (2, .inl x2)]) (st' := [.inl (-9), .inl y0]) rfl ?_
  refine J_eq (jat ok_X6_allies 28 (pc := 50) (i := .if_icmp .eq 18) (n := 3) rfl rfl) (tgt := 68) (by decide) (fun c => ?_) (fun c => ?_)
  · have h := (if_pos c).symm.trans h
    refine J_sub (ls' := [(0, .inr (.inr (.inl k0))), (1, .inl k1), (2, .inl x2)]) [1, 2, 3] rfl ?_
    exact k_X6_allies_b14_j68 d _ _ h hR hX hN
  · have h := (if_neg c).symm.trans h
    refine J_seg ok_X6_allies 29 2 (pc' := 56) (ls' := [(4, .inl y0), (0, .inr (.inr (.inl k0))), (1, .inl k1), (2, .inl x2)]) (st' := [.inl k1, .inl y0]) rfl ?_
    refine J_eq (jat ok_X6_allies 31 (pc := 56) (i := .if_icmp .eq 12) (n := 3) rfl rfl) (tgt := 68) (by decide) (fun c => ?_) (fun c => ?_)
    · have h := (if_pos c).symm.trans h
      refine J_sub (ls' := [(0, .inr (.inr (.inl k0))), (1, .inl k1), (2, .inl x2)]) [1, 2, 3] rfl ?_
      exact k_X6_allies_b14_j68 d _ _ h hR hX hN
    · have h := (if_neg c).symm.trans h
      refine J_seg ok_X6_allies 32 2 (pc' := 62) (ls' := [(4, .inl y0), (0, .inr (.inr (.inl k0))), (1, .inl k1), (2, .inl x2)]) (st' := [.inl y0, .inl x2]) rfl ?_
      obtain ⟨q13, h14, h⟩ := Option.bind_eq_some_iff.mp h
      refine J_callS (md' := md_X6_has) (As := [.inl x2, .inl y0]) (st := []) (cs' := (0, 0)) (st' := [.inl q13.1]) (jat ok_X6_allies 34 (pc := 62) (i := .invokestatic 128) (n := 3) rfl rfl) (Or.inl ml_RX6_128) ys_X6_has (c_X6_has l g (d + 1) h14) (jRo_of (by decide)) (Nat.le_of_ble_eq_true rfl) ⟨Nat.le_of_ble_eq_true rfl, Nat.le_of_ble_eq_true rfl⟩ rfl rfl rfl ?_
      refine J_eq0 (jat ok_X6_allies 35 (pc := 65) (i := .ifCond .eq 8) (n := 3) rfl rfl) (tgt := 73) (by decide) (fun c => ?_) (fun c => ?_)
      · have h := (if_pos c).symm.trans h
        refine J_seg ok_X6_allies 38 1 (pc' := 75) (ls' := [(4, .inl y0), (0, .inr (.inr (.inl k0))), (1, .inl k1), (2, .inl x2)]) (st' := [.inl y0]) rfl ?_
        refine J_sub (ls' := [(0, .inr (.inr (.inl k0))), (1, .inl k1), (2, .inl x2)]) [1, 2, 3] rfl ?_
        exact k_X6_allies_b14_j75 d _ _ h hR hX hN
      · have h := (if_neg c).symm.trans h
        refine J_sub (ls' := [(0, .inr (.inr (.inl k0))), (1, .inl k1), (2, .inl x2)]) [1, 2, 3] rfl ?_
        exact k_X6_allies_b14_j68 d _ _ h hR hX hN
def f_X6_allies_b14 (k0 : Option Nat) (k1 : Int32) (s14 : Int32 × Int32) (ah : AH) : Option ((Unit × AH) ⊕ (((Int32) × AH) ⊕ ((Int32 × Int32) × AH))) :=
  if s14.2 = (-9) then (some (.inr (.inl (s14.1, ah)))) else (if qO ah k0 6 = true then ((f_X6_foe k0 s14.2 ah).bind fun q4 => if q4.1 = (-9) then (f_X6_allies_b14_j44 k0 k1 s14.1 (-9) q4.2) else (if qO q4.2 k0 6 = true then ((f_X6_foe k0 s14.2 q4.2).bind fun q7 => if qO q7.2 k0 6 = true then ((f_X6_foe k0 q7.1 q7.2).bind fun q10 => f_X6_allies_b14_j44 k0 k1 s14.1 q10.1 q10.2) else none) else none)) else none)
set_option maxRecDepth 100000 in
set_option maxHeartbeats 4000000 in
theorem k_X6_allies_b14 {l : Launch} {g : GX} (d : Nat) {Q : jQ} {k0 : Option Nat} {k1 : Int32} (s14 : Int32 × Int32) (ah : AH) (out : (Unit × AH) ⊕ (((Int32) × AH) ⊕ ((Int32 × Int32) × AH))) (h : f_X6_allies_b14 k0 k1 s14 ah = some out) (hR : ∀ q, out = .inl q → jRetN q.1 q.2) (hX : ∀ q, out = .inr (.inl q) → J l g md_X6_allies (jRm (d + 2) md_X6_allies) Q 95 [(2, .inl q.1)] [] q.2 (0, 0)) (hN : ∀ q, out = .inr (.inr q) → J l g md_X6_allies (jRm (d + 2) md_X6_allies) Q 14 [(0, .inr (.inr (.inl k0))), (1, .inl k1), (2, .inl q.1.1), (3, .inl q.1.2)] [] q.2 (0, 0)) : J l g md_X6_allies (jRm (d + 2) md_X6_allies) Q 14 [(0, .inr (.inr (.inl k0))), (1, .inl k1), (2, .inl s14.1), (3, .inl s14.2)] [] ah (0, 0) := by
  unfold f_X6_allies_b14 at h
  refine J_seg ok_X6_allies 10 2 (pc' := 17) (ls' := [(0, .inr (.inr (.inl k0))), (1, .inl k1), (2, .inl s14.1), (3, .inl s14.2)]) (st' := [.inl (-9), .inl s14.2]) rfl ?_
  refine J_eq (jat ok_X6_allies 12 (pc := 17) (i := .if_icmp .eq 78) (n := 3) rfl rfl) (tgt := 95) (by decide) (fun c => ?_) (fun c => ?_)
  · have h := (if_pos c).symm.trans h
    exact J_sub (ls' := [(2, .inl s14.1)]) [2] rfl (hX (s14.1, ah) (Option.some.inj h).symm)
  · have h := (if_neg c).symm.trans h
    refine J_seg ok_X6_allies 13 2 (pc' := 22) (ls' := [(0, .inr (.inr (.inl k0))), (1, .inl k1), (2, .inl s14.1), (3, .inl s14.2)]) (st' := [.inl s14.2, .inr (.inr (.inl k0))]) rfl ?_
    by_cases c6 : qO ah k0 6 = true
    case neg => exact absurd ((if_neg c6).symm.trans h) (by simp)
    have h := (if_pos c6).symm.trans h
    obtain ⟨q4, h5, h⟩ := Option.bind_eq_some_iff.mp h
    refine J_callV (md' := md_X6_foe) (As := [.inl s14.2]) (st := []) (cs' := (0, 0)) (st' := [.inl q4.1]) (jat ok_X6_allies 15 (pc := 22) (i := .invokevirtual 163) (n := 3) rfl rfl) ml_RX6_163 yv_X6_foe c6 (c_X6_foe l g (d + 0) h5) (jRo_of (by decide)) (Nat.le_of_ble_eq_true rfl) ⟨Nat.le_of_ble_eq_true rfl, Nat.le_of_ble_eq_true rfl⟩ rfl rfl rfl ?_
    refine J_seg ok_X6_allies 16 1 (pc' := 27) (ls' := [(0, .inr (.inr (.inl k0))), (1, .inl k1), (2, .inl s14.1), (3, .inl s14.2)]) (st' := [.inl (-9), .inl q4.1]) rfl ?_
    refine J_ne (jat ok_X6_allies 17 (pc := 27) (i := .if_icmp .ne 8) (n := 3) rfl rfl) (tgt := 35) (by decide) (fun c => ?_) (fun c => ?_)
    · have h := (if_neg c).symm.trans h
      refine J_seg ok_X6_allies 20 3 (pc' := 38) (ls' := [(0, .inr (.inr (.inl k0))), (1, .inl k1), (2, .inl s14.1), (3, .inl s14.2)]) (st' := [.inl s14.2, .inr (.inr (.inl k0)), .inr (.inr (.inl k0))]) rfl ?_
      by_cases c9 : qO q4.2 k0 6 = true
      case neg => exact absurd ((if_neg c9).symm.trans h) (by simp)
      have h := (if_pos c9).symm.trans h
      obtain ⟨q7, h8, h⟩ := Option.bind_eq_some_iff.mp h
      refine J_callV (md' := md_X6_foe) (As := [.inl s14.2]) (st := [.inr (.inr (.inl k0))]) (cs' := (0, 0)) (st' := [.inl q7.1, .inr (.inr (.inl k0))]) (jat ok_X6_allies 23 (pc := 38) (i := .invokevirtual 163) (n := 3) rfl rfl) ml_RX6_163 yv_X6_foe c9 (c_X6_foe l g (d + 0) h8) (jRo_of (by decide)) (Nat.le_of_ble_eq_true rfl) ⟨Nat.le_of_ble_eq_true rfl, Nat.le_of_ble_eq_true rfl⟩ rfl rfl rfl ?_
      by_cases c12 : qO q7.2 k0 6 = true
      case neg => exact absurd ((if_neg c12).symm.trans h) (by simp)
      have h := (if_pos c12).symm.trans h
      obtain ⟨q10, h11, h⟩ := Option.bind_eq_some_iff.mp h
      refine J_callV (md' := md_X6_foe) (As := [.inl q7.1]) (st := []) (cs' := (0, 0)) (st' := [.inl q10.1]) (jat ok_X6_allies 24 (pc := 41) (i := .invokevirtual 163) (n := 3) rfl rfl) ml_RX6_163 yv_X6_foe c12 (c_X6_foe l g (d + 0) h11) (jRo_of (by decide)) (Nat.le_of_ble_eq_true rfl) ⟨Nat.le_of_ble_eq_true rfl, Nat.le_of_ble_eq_true rfl⟩ rfl rfl rfl ?_
      refine J_sub (ls' := [(0, .inr (.inr (.inl k0))), (1, .inl k1), (2, .inl s14.1)]) [0, 1, 2] rfl ?_
      exact k_X6_allies_b14_j44 d _ _ h hR hX hN
    · have h := (if_pos c).symm.trans h
      refine J_seg ok_X6_allies 18 2 (pc' := 44) (ls' := [(0, .inr (.inr (.inl k0))), (1, .inl k1), (2, .inl s14.1), (3, .inl s14.2)]) (st' := [.inl (-9)]) rfl ?_
      refine J_sub (ls' := [(0, .inr (.inr (.inl k0))), (1, .inl k1), (2, .inl s14.1)]) [0, 1, 2] rfl ?_
      exact k_X6_allies_b14_j44 d _ _ h hR hX hN
def f_X6_allies (x0 : Option Nat) (x1 : Int32) (ah : AH) : Option (Int32 × AH) :=
  if qO ah x0 6 = true then ((f_X6_isPerson x0 x1 ah).bind fun q1 => if q1.1 = 0 then (some ((-1), q1.2)) else ((jloop (f_X6_allies_b14 x0 x1) jfuel (0, x1) q1.2).bind fun q15 => match q15 with | .inl r => none | .inr z17 => some (z17.1, z17.2))) else none
set_option maxRecDepth 100000 in
set_option maxHeartbeats 4000000 in
theorem k_X6_allies {l : Launch} {g : GX} (d : Nat) {Q : jQ} {x0 : Option Nat} {x1 : Int32} (ah : AH) (out : Int32 × AH) (h : f_X6_allies x0 x1 ah = some out) (hR : jRetI l g md_X6_allies (jRm (d + 2) md_X6_allies) Q (0, 0) out.1 out.2) : J l g md_X6_allies (jRm (d + 2) md_X6_allies) Q 0 [(0, .inr (.inr (.inl x0))), (1, .inl x1)] [] ah (0, 0) := by
  unfold f_X6_allies at h
  refine J_seg ok_X6_allies 0 2 (pc' := 2) (ls' := [(0, .inr (.inr (.inl x0))), (1, .inl x1)]) (st' := [.inl x1, .inr (.inr (.inl x0))]) rfl ?_
  by_cases c3 : qO ah x0 6 = true
  case neg => exact absurd ((if_neg c3).symm.trans h) (by simp)
  have h := (if_pos c3).symm.trans h
  obtain ⟨q1, h2, h⟩ := Option.bind_eq_some_iff.mp h
  refine J_callV (md' := md_X6_isPerson) (As := [.inl x1]) (st := []) (cs' := (0, 0)) (st' := [.inl q1.1]) (jat ok_X6_allies 2 (pc := 2) (i := .invokevirtual 154) (n := 3) rfl rfl) ml_RX6_154 yv_X6_isPerson c3 (c_X6_isPerson l g (d + 0) h2) (jRo_of (by decide)) (Nat.le_of_ble_eq_true rfl) ⟨Nat.le_of_ble_eq_true rfl, Nat.le_of_ble_eq_true rfl⟩ rfl rfl rfl ?_
  refine J_ne0 (jat ok_X6_allies 3 (pc := 5) (i := .ifCond .ne 5) (n := 3) rfl rfl) (tgt := 10) (by decide) (fun c => ?_) (fun c => ?_)
  · have h := (if_neg c).symm.trans h
    refine J_seg ok_X6_allies 6 4 (pc' := 14) (ls' := [(3, .inl x1), (2, .inl 0), (0, .inr (.inr (.inl x0))), (1, .inl x1)]) (st' := []) rfl ?_
    obtain ⟨q15, h16, h⟩ := Option.bind_eq_some_iff.mp h
    refine J_sub (ls' := [(0, .inr (.inr (.inl x0))), (1, .inl x1), (2, .inl 0), (3, .inl x1)]) [2, 3, 1, 0] rfl ?_
    refine J_loop (pE := 95) (lh := fun t18 => [(0, .inr (.inr (.inl x0))), (1, .inl x1), (2, .inl t18.1), (3, .inl t18.2)]) (lx := fun z17 => [(2, .inl z17)]) (P := jRetN) (fun s ah out hb hR hX hN => k_X6_allies_b14 d s ah out hb hR hX hN) jfuel (0, x1) _ _ h16 (fun r e => ?_) (fun z17 e => ?_)
    · subst e
      dsimp only at h
      cases h
    · subst e
      dsimp only at h
      refine J_seg ok_X6_allies 52 1 (pc' := 96) (ls' := [(2, .inl z17.1)]) (st' := [.inl z17.1]) rfl ?_
      have h := Option.some.inj h
      subst h
      exact hR _ _ (jat ok_X6_allies 53 (pc := 96) (i := .ireturn) (n := 1) rfl rfl)
  · have h := (if_pos c).symm.trans h
    refine J_seg ok_X6_allies 4 1 (pc' := 9) (ls' := [(0, .inr (.inr (.inl x0))), (1, .inl x1)]) (st' := [.inl (-1)]) rfl ?_
    have h := Option.some.inj h
    subst h
    exact hR _ _ (jat ok_X6_allies 5 (pc := 9) (i := .ireturn) (n := 1) rfl rfl)
theorem c_X6_allies (l : Launch) (g : GX) (d : Nat) {x0 : Option Nat} {x1 : Int32} {ah : AH} {q : Int32 × AH} (h : f_X6_allies x0 x1 ah = some q) : jM l g (d + 2) md_X6_allies [.inr (.inr (.inl x0)), .inl x1] ah (some (.inl q.1)) q.2 :=
  jM_of (by decide) (Nat.le_of_ble_eq_true rfl) (k_X6_allies d ah q h (fun pc ls hd => J_reti hd rfl (jPV_int _) rfl (Nat.le_refl _) rfl rfl))
