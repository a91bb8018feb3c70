def f_X6_fault (x0 : Option Nat) (x1 : Int32) (ah : AH) : Option (Int32 × AH) :=
  (f_X6_isText x1 ah).bind fun q1 => if q1.1 = 0 then (some ((-1), q1.2)) else ((gR q1.2 x0 6 9).bind fun v3 => (gA q1.2 v3 x1).bind fun v5 => if 0 ≤ v5 then (if qO q1.2 x0 6 = true then ((f_X6_faultOf x0 x1 q1.2).bind fun q7 => some (q7.1, q7.2)) else none) else (if qO q1.2 x0 6 = true then ((f_X6_find x0 1 q1.2).bind fun q10 => some (q10.1, q10.2)) else none))
set_option maxRecDepth 100000 in
set_option maxHeartbeats 4000000 in
theorem k_X6_fault {l : Launch} {g : GX} (d : Nat) {Q : jQ} {x0 : Option Nat} {x1 : Int32} (ah : AH) (out : Int32 × AH) (h : f_X6_fault x0 x1 ah = some out) (hR : jRetI l g md_X6_fault (jRm (d + 4) md_X6_fault) Q (0, 0) out.1 out.2) : J l g md_X6_fault (jRm (d + 4) md_X6_fault) Q 0 [(0, .inr (.inr (.inl x0))), (1, .inl x1)] [] ah (0, 0) := by
  unfold f_X6_fault at h
  refine J_seg ok_X6_fault 0 1 (pc' := 1) (ls' := [(0, .inr (.inr (.inl x0))), (1, .inl x1)]) (st' := [.inl x1]) rfl ?_
  obtain ⟨q1, h2, h⟩ := Option.bind_eq_some_iff.mp h
  refine J_callS (md' := md_X6_isText) (As := [.inl x1]) (st := []) (cs' := (0, 0)) (st' := [.inl q1.1]) (jat ok_X6_fault 1 (pc := 1) (i := .invokestatic 100) (n := 3) rfl rfl) (Or.inl ml_RX6_100) ys_X6_isText (c_X6_isText l g (d + 2) h2) (jRo_of (by decide)) (Nat.le_of_ble_eq_true rfl) ⟨Nat.le_of_ble_eq_true rfl, Nat.le_of_ble_eq_true rfl⟩ rfl rfl rfl ?_
  refine J_ne0 (jat ok_X6_fault 2 (pc := 4) (i := .ifCond .ne 5) (n := 3) rfl rfl) (tgt := 9) (by decide) (fun c => ?_) (fun c => ?_)
  · have h := (if_neg c).symm.trans h
    refine J_seg ok_X6_fault 5 1 (pc' := 10) (ls' := [(0, .inr (.inr (.inl x0))), (1, .inl x1)]) (st' := [.inr (.inr (.inl x0))]) rfl ?_
    obtain ⟨v3, h4, h⟩ := Option.bind_eq_some_iff.mp h
    refine J_getR (jat ok_X6_fault 6 (pc := 10) (i := .getfield 31) (n := 3) rfl rfl) fl_RX6_31 h4 ?_
    refine J_seg ok_X6_fault 7 1 (pc' := 14) (ls' := [(0, .inr (.inr (.inl x0))), (1, .inl x1)]) (st' := [.inl x1, .inr (.inr (.inl v3))]) rfl ?_
    obtain ⟨v5, h6, h⟩ := Option.bind_eq_some_iff.mp h
    refine J_iald (jat ok_X6_fault 8 (pc := 14) (i := .iaload) (n := 1) rfl rfl) h6 ?_
    refine J_ge0 (jat ok_X6_fault 9 (pc := 15) (i := .ifCond .ge 11) (n := 3) rfl rfl) (tgt := 26) (by decide) (fun c => ?_) (fun c => ?_)
    · have h := (if_pos c).symm.trans h
      refine J_seg ok_X6_fault 14 2 (pc' := 28) (ls' := [(0, .inr (.inr (.inl x0))), (1, .inl x1)]) (st' := [.inl x1, .inr (.inr (.inl x0))]) rfl ?_
      by_cases c9 : qO q1.2 x0 6 = true
      case neg => exact absurd ((if_neg c9).symm.trans h) (by simp)
      have h := (if_pos c9).symm.trans h
      obtain ⟨q7, h8, h⟩ := Option.bind_eq_some_iff.mp h
      refine J_callV (md' := md_X6_faultOf) (As := [.inl x1]) (st := []) (cs' := (0, 0)) (st' := [.inl q7.1]) (jat ok_X6_fault 16 (pc := 28) (i := .invokevirtual 145) (n := 3) rfl rfl) ml_RX6_145 yv_X6_faultOf c9 (c_X6_faultOf l g (d + 0) h8) (jRo_of (by decide)) (Nat.le_of_ble_eq_true rfl) ⟨Nat.le_of_ble_eq_true rfl, Nat.le_of_ble_eq_true rfl⟩ rfl rfl rfl ?_
      have h := Option.some.inj h
      subst h
      exact hR _ _ (jat ok_X6_fault 17 (pc := 31) (i := .ireturn) (n := 1) rfl rfl)
    · have h := (if_neg c).symm.trans h
      refine J_seg ok_X6_fault 10 2 (pc' := 20) (ls' := [(0, .inr (.inr (.inl x0))), (1, .inl x1)]) (st' := [.inl 1, .inr (.inr (.inl x0))]) rfl ?_
      by_cases c12 : qO q1.2 x0 6 = true
      case neg => exact absurd ((if_neg c12).symm.trans h) (by simp)
      have h := (if_pos c12).symm.trans h
      obtain ⟨q10, h11, h⟩ := Option.bind_eq_some_iff.mp h
      refine J_callV (md' := md_X6_find) (As := [.inl 1]) (st := []) (cs' := (0, 0)) (st' := [.inl q10.1]) (jat ok_X6_fault 12 (pc := 20) (i := .invokevirtual 81) (n := 3) rfl rfl) ml_RX6_81 yv_X6_find c12 (c_X6_find l g (d + 3) h11) (jRo_of (by decide)) (Nat.le_of_ble_eq_true rfl) ⟨Nat.le_of_ble_eq_true rfl, Nat.le_of_ble_eq_true rfl⟩ rfl rfl rfl ?_
      refine J_seg ok_X6_fault 13 1 (pc' := 31) (ls' := [(0, .inr (.inr (.inl x0))), (1, .inl x1)]) (st' := [.inl q10.1]) rfl ?_
      have h := Option.some.inj h
      subst h
      exact hR _ _ (jat ok_X6_fault 17 (pc := 31) (i := .ireturn) (n := 1) rfl rfl)
  · have h := (if_pos c).symm.trans h
    refine J_seg ok_X6_fault 3 1 (pc' := 8) (ls' := [(0, .inr (.inr (.inl x0))), (1, .inl x1)]) (st' := [.inl (-1)]) rfl ?_
    have h := Option.some.inj h
    subst h
    exact hR _ _ (jat ok_X6_fault 4 (pc := 8) (i := .ireturn) (n := 1) rfl rfl)
theorem c_X6_fault (l : Launch) (g : GX) (d : Nat) {x0 : Option Nat} {x1 : Int32} {ah : AH} {q : Int32 × AH} (h : f_X6_fault x0 x1 ah = some q) : jM l g (d + 4) md_X6_fault [.inr (.inr (.inl x0)), .inl x1] ah (some (.inl q.1)) q.2 :=
  jM_of (by decide) (Nat.le_of_ble_eq_true rfl) (k_X6_fault d ah q h (fun pc ls hd => J_reti hd rfl (jPV_int _) rfl (Nat.le_refl _) rfl rfl))
def f_X6_town_b55 (k0 : Option Nat) (s55 : Int32) (ah : AH) : Option ((Unit × AH) ⊕ (((Unit) × AH) ⊕ ((Int32) × AH))) :=
  if 780 ≤ s55 then (some (.inr (.inl ((), ah)))) else ((gR ah k0 6 0).bind fun v18 => (sA ah v18 s55 0).bind fun a20 => some (.inr (.inr (s55 + 1, a20))))
set_option maxRecDepth 100000 in
set_option maxHeartbeats 4000000 in
theorem k_X6_town_b55 {l : Launch} {g : GX} (d : Nat) {Q : jQ} {k0 : Option Nat} (s55 : Int32) (ah : AH) (out : (Unit × AH) ⊕ (((Unit) × AH) ⊕ ((Int32) × AH))) (h : f_X6_town_b55 k0 s55 ah = some out) (hR : ∀ q, out = .inl q → jRetN q.1 q.2) (hX : ∀ q, out = .inr (.inl q) → J l g md_X6_town (jRm (d + 4) md_X6_town) Q 75 [(0, .inr (.inr (.inl k0)))] [] q.2 (0, 0)) (hN : ∀ q, out = .inr (.inr q) → J l g md_X6_town (jRm (d + 4) md_X6_town) Q 55 [(0, .inr (.inr (.inl k0))), (2, .inl q.1)] [] q.2 (0, 0)) : J l g md_X6_town (jRm (d + 4) md_X6_town) Q 55 [(0, .inr (.inr (.inl k0))), (2, .inl s55)] [] ah (0, 0) := by
  unfold f_X6_town_b55 at h
  refine J_seg ok_X6_town 31 2 (pc' := 59) (ls' := [(0, .inr (.inr (.inl k0))), (2, .inl s55)]) (st' := [.inl 780, .inl s55]) rfl ?_
  refine J_ge (jat ok_X6_town 33 (pc := 59) (i := .if_icmp .ge 16) (n := 3) rfl rfl) (tgt := 75) (by decide) (fun c => ?_) (fun c => ?_)
  · have h := (if_pos c).symm.trans h
    exact J_sub (ls' := [(0, .inr (.inr (.inl k0)))]) [0] rfl (hX ((), ah) (Option.some.inj h).symm)
  · have h := (if_neg c).symm.trans h
    refine J_seg ok_X6_town 34 1 (pc' := 63) (ls' := [(0, .inr (.inr (.inl k0))), (2, .inl s55)]) (st' := [.inr (.inr (.inl k0))]) rfl ?_
    obtain ⟨v18, h19, h⟩ := Option.bind_eq_some_iff.mp h
    refine J_getR (jat ok_X6_town 35 (pc := 63) (i := .getfield 7) (n := 3) rfl rfl) fl_RX6_7 h19 ?_
    refine J_seg ok_X6_town 36 2 (pc' := 68) (ls' := [(0, .inr (.inr (.inl k0))), (2, .inl s55)]) (st' := [.inl 0, .inl s55, .inr (.inr (.inl v18))]) rfl ?_
    obtain ⟨a20, h21, h⟩ := Option.bind_eq_some_iff.mp h
    refine J_iast (jat ok_X6_town 38 (pc := 68) (i := .iastore) (n := 1) rfl rfl) h21 ?_
    refine J_seg ok_X6_town 39 2 (pc' := 55) (ls' := [(2, .inl (s55 + 1)), (0, .inr (.inr (.inl k0)))]) (st' := []) rfl ?_
    exact J_sub (ls' := [(0, .inr (.inr (.inl k0))), (2, .inl (s55 + 1))]) [1, 0] rfl (hN (s55 + 1, a20) (Option.some.inj h).symm)
def f_X6_town_b77_j205 (k0 : Option Nat) (x2 : Int32) (y0 : Int32) (y1 : Int32) (y2 : Option Nat) (ah : AH) : Option ((Unit × AH) ⊕ (((Unit) × AH) ⊕ ((Int32) × AH))) :=
  (sA ah y2 y1 y0).bind fun a50 => some (.inr (.inr (x2 + 1, a50)))
set_option maxRecDepth 100000 in
set_option maxHeartbeats 4000000 in
theorem k_X6_town_b77_j205 {l : Launch} {g : GX} (d : Nat) {Q : jQ} {k0 : Option Nat} {x2 : Int32} {y0 : Int32} {y1 : Int32} {y2 : Option Nat} (ah : AH) (out : (Unit × AH) ⊕ (((Unit) × AH) ⊕ ((Int32) × AH))) (h : f_X6_town_b77_j205 k0 x2 y0 y1 y2 ah = some out) (hR : ∀ q, out = .inl q → jRetN q.1 q.2) (hX : ∀ q, out = .inr (.inl q) → J l g md_X6_town (jRm (d + 4) md_X6_town) Q 212 [(0, .inr (.inr (.inl k0)))] [] q.2 (0, 0)) (hN : ∀ q, out = .inr (.inr q) → J l g md_X6_town (jRm (d + 4) md_X6_town) Q 77 [(0, .inr (.inr (.inl k0))), (2, .inl q.1)] [] q.2 (0, 0)) : J l g md_X6_town (jRm (d + 4) md_X6_town) Q 205 [(0, .inr (.inr (.inl k0))), (2, .inl x2)] [.inl y0, .inl y1, .inr (.inr (.inl y2))] ah (0, 0) := by
  unfold f_X6_town_b77_j205 at h
  obtain ⟨a50, h51, h⟩ := Option.bind_eq_some_iff.mp h
  refine J_iast (jat ok_X6_town 125 (pc := 205) (i := .iastore) (n := 1) rfl rfl) h51 ?_
  refine J_seg ok_X6_town 126 2 (pc' := 77) (ls' := [(2, .inl (x2 + 1)), (0, .inr (.inr (.inl k0)))]) (st' := []) rfl ?_
  exact J_sub (ls' := [(0, .inr (.inr (.inl k0))), (2, .inl (x2 + 1))]) [1, 0] rfl (hN (x2 + 1, a50) (Option.some.inj h).symm)
def f_X6_town_b77_j178 (k0 : Option Nat) (x2 : Int32) (x3 : Int32) (y0 : Int32) (y1 : Int32) (y2 : Option Nat) (ah : AH) : Option ((Unit × AH) ⊕ (((Unit) × AH) ⊕ ((Int32) × AH))) :=
  (sA ah y2 y1 y0).bind fun a46 => (gR a46 k0 6 0).bind fun v48 => if x3 = 0 then (f_X6_town_b77_j205 k0 x2 (-9) (1 + x2) v48 a46) else ((gR a46 k0 6 19).bind fun v52 => (gA a46 v52 ((5 * x2) + 3)).bind fun v54 => f_X6_town_b77_j205 k0 x2 v54 (1 + x2) v48 a46)
set_option maxRecDepth 100000 in
set_option maxHeartbeats 4000000 in
theorem k_X6_town_b77_j178 {l : Launch} {g : GX} (d : Nat) {Q : jQ} {k0 : Option Nat} {x2 : Int32} {x3 : Int32} {y0 : Int32} {y1 : Int32} {y2 : Option Nat} (ah : AH) (out : (Unit × AH) ⊕ (((Unit) × AH) ⊕ ((Int32) × AH))) (h : f_X6_town_b77_j178 k0 x2 x3 y0 y1 y2 ah = some out) (hR : ∀ q, out = .inl q → jRetN q.1 q.2) (hX : ∀ q, out = .inr (.inl q) → J l g md_X6_town (jRm (d + 4) md_X6_town) Q 212 [(0, .inr (.inr (.inl k0)))] [] q.2 (0, 0)) (hN : ∀ q, out = .inr (.inr q) → J l g md_X6_town (jRm (d + 4) md_X6_town) Q 77 [(0, .inr (.inr (.inl k0))), (2, .inl q.1)] [] q.2 (0, 0)) : J l g md_X6_town (jRm (d + 4) md_X6_town) Q 178 [(0, .inr (.inr (.inl k0))), (2, .inl x2), (3, .inl x3)] [.inl y0, .inl y1, .inr (.inr (.inl y2))] ah (0, 0) := by
  unfold f_X6_town_b77_j178 at h
  obtain ⟨a46, h47, h⟩ := Option.bind_eq_some_iff.mp h
  refine J_iast (jat ok_X6_town 107 (pc := 178) (i := .iastore) (n := 1) rfl rfl) h47 ?_
  refine J_seg ok_X6_town 108 1 (pc' := 180) (ls' := [(0, .inr (.inr (.inl k0))), (2, .inl x2), (3, .inl x3)]) (st' := [.inr (.inr (.inl k0))]) rfl ?_
  obtain ⟨v48, h49, h⟩ := Option.bind_eq_some_iff.mp h
  refine J_getR (jat ok_X6_town 109 (pc := 180) (i := .getfield 7) (n := 3) rfl rfl) fl_RX6_7 h49 ?_
  refine J_seg ok_X6_town 110 4 (pc' := 187) (ls' := [(0, .inr (.inr (.inl k0))), (2, .inl x2), (3, .inl x3)]) (st' := [.inl x3, .inl (1 + x2), .inr (.inr (.inl v48))]) rfl ?_
  refine J_eq0 (jat ok_X6_town 114 (pc := 187) (i := .ifCond .eq 16) (n := 3) rfl rfl) (tgt := 203) (by decide) (fun c => ?_) (fun c => ?_)
  · have h := (if_pos c).symm.trans h
    refine J_seg ok_X6_town 124 1 (pc' := 205) (ls' := [(0, .inr (.inr (.inl k0))), (2, .inl x2), (3, .inl x3)]) (st' := [.inl (-9), .inl (1 + x2), .inr (.inr (.inl v48))]) rfl ?_
    refine J_sub (ls' := [(0, .inr (.inr (.inl k0))), (2, .inl x2)]) [0, 1] rfl ?_
    exact k_X6_town_b77_j205 d _ _ h hR hX hN
  · have h := (if_neg c).symm.trans h
    refine J_seg ok_X6_town 115 1 (pc' := 191) (ls' := [(0, .inr (.inr (.inl k0))), (2, .inl x2), (3, .inl x3)]) (st' := [.inr (.inr (.inl k0)), .inl (1 + x2), .inr (.inr (.inl v48))]) rfl ?_
    obtain ⟨v52, h53, h⟩ := Option.bind_eq_some_iff.mp h
    refine J_getR (jat ok_X6_town 116 (pc := 191) (i := .getfield 44) (n := 3) rfl rfl) fl_RX6_44 h53 ?_
    refine J_seg ok_X6_town 117 5 (pc' := 199) (ls' := [(0, .inr (.inr (.inl k0))), (2, .inl x2), (3, .inl x3)]) (st' := [.inl ((5 * x2) + 3), .inr (.inr (.inl v52)), .inl (1 + x2), .inr (.inr (.inl v48))]) rfl ?_
    obtain ⟨v54, h55, h⟩ := Option.bind_eq_some_iff.mp h
    refine J_iald (jat ok_X6_town 122 (pc := 199) (i := .iaload) (n := 1) rfl rfl) h55 ?_
    refine J_seg ok_X6_town 123 1 (pc' := 205) (ls' := [(0, .inr (.inr (.inl k0))), (2, .inl x2), (3, .inl x3)]) (st' := [.inl v54, .inl (1 + x2), .inr (.inr (.inl v48))]) rfl ?_
    refine J_sub (ls' := [(0, .inr (.inr (.inl k0))), (2, .inl x2)]) [0, 1] rfl ?_
    exact k_X6_town_b77_j205 d _ _ h hR hX hN
def f_X6_town_b77_j154 (k0 : Option Nat) (x2 : Int32) (x3 : Int32) (y0 : Int32) (y1 : Int32) (y2 : Option Nat) (ah : AH) : Option ((Unit × AH) ⊕ (((Unit) × AH) ⊕ ((Int32) × AH))) :=
  (sA ah y2 y1 y0).bind fun a42 => (gR a42 k0 6 4).bind fun v44 => if x3 = 0 then (f_X6_town_b77_j178 k0 x2 x3 0 x2 v44 a42) else ((gR a42 k0 6 19).bind fun v56 => (gA a42 v56 ((5 * x2) + 2)).bind fun v58 => f_X6_town_b77_j178 k0 x2 x3 v58 x2 v44 a42)
set_option maxRecDepth 100000 in
set_option maxHeartbeats 4000000 in
theorem k_X6_town_b77_j154 {l : Launch} {g : GX} (d : Nat) {Q : jQ} {k0 : Option Nat} {x2 : Int32} {x3 : Int32} {y0 : Int32} {y1 : Int32} {y2 : Option Nat} (ah : AH) (out : (Unit × AH) ⊕ (((Unit) × AH) ⊕ ((Int32) × AH))) (h : f_X6_town_b77_j154 k0 x2 x3 y0 y1 y2 ah = some out) (hR : ∀ q, out = .inl q → jRetN q.1 q.2) (hX : ∀ q, out = .inr (.inl q) → J l g md_X6_town (jRm (d + 4) md_X6_town) Q 212 [(0, .inr (.inr (.inl k0)))] [] q.2 (0, 0)) (hN : ∀ q, out = .inr (.inr q) → J l g md_X6_town (jRm (d + 4) md_X6_town) Q 77 [(0, .inr (.inr (.inl k0))), (2, .inl q.1)] [] q.2 (0, 0)) : J l g md_X6_town (jRm (d + 4) md_X6_town) Q 154 [(0, .inr (.inr (.inl k0))), (2, .inl x2), (3, .inl x3)] [.inl y0, .inl y1, .inr (.inr (.inl y2))] ah (0, 0) := by
  unfold f_X6_town_b77_j154 at h
  obtain ⟨a42, h43, h⟩ := Option.bind_eq_some_iff.mp h
  refine J_iast (jat ok_X6_town 91 (pc := 154) (i := .iastore) (n := 1) rfl rfl) h43 ?_
  refine J_seg ok_X6_town 92 1 (pc' := 156) (ls' := [(0, .inr (.inr (.inl k0))), (2, .inl x2), (3, .inl x3)]) (st' := [.inr (.inr (.inl k0))]) rfl ?_
  obtain ⟨v44, h45, h⟩ := Option.bind_eq_some_iff.mp h
  refine J_getR (jat ok_X6_town 93 (pc := 156) (i := .getfield 19) (n := 3) rfl rfl) fl_RX6_19 h45 ?_
  refine J_seg ok_X6_town 94 2 (pc' := 161) (ls' := [(0, .inr (.inr (.inl k0))), (2, .inl x2), (3, .inl x3)]) (st' := [.inl x3, .inl x2, .inr (.inr (.inl v44))]) rfl ?_
  refine J_eq0 (jat ok_X6_town 96 (pc := 161) (i := .ifCond .eq 16) (n := 3) rfl rfl) (tgt := 177) (by decide) (fun c => ?_) (fun c => ?_)
  · have h := (if_pos c).symm.trans h
    refine J_seg ok_X6_town 106 1 (pc' := 178) (ls' := [(0, .inr (.inr (.inl k0))), (2, .inl x2), (3, .inl x3)]) (st' := [.inl 0, .inl x2, .inr (.inr (.inl v44))]) rfl ?_
    refine J_sub (ls' := [(0, .inr (.inr (.inl k0))), (2, .inl x2), (3, .inl x3)]) [0, 1, 2] rfl ?_
    exact k_X6_town_b77_j178 d _ _ h hR hX hN
  · have h := (if_neg c).symm.trans h
    refine J_seg ok_X6_town 97 1 (pc' := 165) (ls' := [(0, .inr (.inr (.inl k0))), (2, .inl x2), (3, .inl x3)]) (st' := [.inr (.inr (.inl k0)), .inl x2, .inr (.inr (.inl v44))]) rfl ?_
    obtain ⟨v56, h57, h⟩ := Option.bind_eq_some_iff.mp h
    refine J_getR (jat ok_X6_town 98 (pc := 165) (i := .getfield 44) (n := 3) rfl rfl) fl_RX6_44 h57 ?_
    refine J_seg ok_X6_town 99 5 (pc' := 173) (ls' := [(0, .inr (.inr (.inl k0))), (2, .inl x2), (3, .inl x3)]) (st' := [.inl ((5 * x2) + 2), .inr (.inr (.inl v56)), .inl x2, .inr (.inr (.inl v44))]) rfl ?_
    obtain ⟨v58, h59, h⟩ := Option.bind_eq_some_iff.mp h
    refine J_iald (jat ok_X6_town 104 (pc := 173) (i := .iaload) (n := 1) rfl rfl) h59 ?_
    refine J_seg ok_X6_town 105 1 (pc' := 178) (ls' := [(0, .inr (.inr (.inl k0))), (2, .inl x2), (3, .inl x3)]) (st' := [.inl v58, .inl x2, .inr (.inr (.inl v44))]) rfl ?_
    refine J_sub (ls' := [(0, .inr (.inr (.inl k0))), (2, .inl x2), (3, .inl x3)]) [0, 1, 2] rfl ?_
    exact k_X6_town_b77_j178 d _ _ h hR hX hN
def f_X6_town_b77_j130 (k0 : Option Nat) (x2 : Int32) (x3 : Int32) (y0 : Int32) (y1 : Int32) (y2 : Option Nat) (ah : AH) : Option ((Unit × AH) ⊕ (((Unit) × AH) ⊕ ((Int32) × AH))) :=
  (sA ah y2 y1 y0).bind fun a38 => (gR a38 k0 6 3).bind fun v40 => if x3 = 0 then (f_X6_town_b77_j154 k0 x2 x3 0 x2 v40 a38) else ((gR a38 k0 6 19).bind fun v60 => (gA a38 v60 ((5 * x2) + 1)).bind fun v62 => f_X6_town_b77_j154 k0 x2 x3 v62 x2 v40 a38)
set_option maxRecDepth 100000 in
set_option maxHeartbeats 4000000 in
theorem k_X6_town_b77_j130 {l : Launch} {g : GX} (d : Nat) {Q : jQ} {k0 : Option Nat} {x2 : Int32} {x3 : Int32} {y0 : Int32} {y1 : Int32} {y2 : Option Nat} (ah : AH) (out : (Unit × AH) ⊕ (((Unit) × AH) ⊕ ((Int32) × AH))) (h : f_X6_town_b77_j130 k0 x2 x3 y0 y1 y2 ah = some out) (hR : ∀ q, out = .inl q → jRetN q.1 q.2) (hX : ∀ q, out = .inr (.inl q) → J l g md_X6_town (jRm (d + 4) md_X6_town) Q 212 [(0, .inr (.inr (.inl k0)))] [] q.2 (0, 0)) (hN : ∀ q, out = .inr (.inr q) → J l g md_X6_town (jRm (d + 4) md_X6_town) Q 77 [(0, .inr (.inr (.inl k0))), (2, .inl q.1)] [] q.2 (0, 0)) : J l g md_X6_town (jRm (d + 4) md_X6_town) Q 130 [(0, .inr (.inr (.inl k0))), (2, .inl x2), (3, .inl x3)] [.inl y0, .inl y1, .inr (.inr (.inl y2))] ah (0, 0) := by
  unfold f_X6_town_b77_j130 at h
  obtain ⟨a38, h39, h⟩ := Option.bind_eq_some_iff.mp h
  refine J_iast (jat ok_X6_town 75 (pc := 130) (i := .iastore) (n := 1) rfl rfl) h39 ?_
  refine J_seg ok_X6_town 76 1 (pc' := 132) (ls' := [(0, .inr (.inr (.inl k0))), (2, .inl x2), (3, .inl x3)]) (st' := [.inr (.inr (.inl k0))]) rfl ?_
  obtain ⟨v40, h41, h⟩ := Option.bind_eq_some_iff.mp h
  refine J_getR (jat ok_X6_town 77 (pc := 132) (i := .getfield 16) (n := 3) rfl rfl) fl_RX6_16 h41 ?_
  refine J_seg ok_X6_town 78 2 (pc' := 137) (ls' := [(0, .inr (.inr (.inl k0))), (2, .inl x2), (3, .inl x3)]) (st' := [.inl x3, .inl x2, .inr (.inr (.inl v40))]) rfl ?_
  refine J_eq0 (jat ok_X6_town 80 (pc := 137) (i := .ifCond .eq 16) (n := 3) rfl rfl) (tgt := 153) (by decide) (fun c => ?_) (fun c => ?_)
  · have h := (if_pos c).symm.trans h
    refine J_seg ok_X6_town 90 1 (pc' := 154) (ls' := [(0, .inr (.inr (.inl k0))), (2, .inl x2), (3, .inl x3)]) (st' := [.inl 0, .inl x2, .inr (.inr (.inl v40))]) rfl ?_
    refine J_sub (ls' := [(0, .inr (.inr (.inl k0))), (2, .inl x2), (3, .inl x3)]) [0, 1, 2] rfl ?_
    exact k_X6_town_b77_j154 d _ _ h hR hX hN
  · have h := (if_neg c).symm.trans h
    refine J_seg ok_X6_town 81 1 (pc' := 141) (ls' := [(0, .inr (.inr (.inl k0))), (2, .inl x2), (3, .inl x3)]) (st' := [.inr (.inr (.inl k0)), .inl x2, .inr (.inr (.inl v40))]) rfl ?_
    obtain ⟨v60, h61, h⟩ := Option.bind_eq_some_iff.mp h
    refine J_getR (jat ok_X6_town 82 (pc := 141) (i := .getfield 44) (n := 3) rfl rfl) fl_RX6_44 h61 ?_
    refine J_seg ok_X6_town 83 5 (pc' := 149) (ls' := [(0, .inr (.inr (.inl k0))), (2, .inl x2), (3, .inl x3)]) (st' := [.inl ((5 * x2) + 1), .inr (.inr (.inl v60)), .inl x2, .inr (.inr (.inl v40))]) rfl ?_
    obtain ⟨v62, h63, h⟩ := Option.bind_eq_some_iff.mp h
    refine J_iald (jat ok_X6_town 88 (pc := 149) (i := .iaload) (n := 1) rfl rfl) h63 ?_
    refine J_seg ok_X6_town 89 1 (pc' := 154) (ls' := [(0, .inr (.inr (.inl k0))), (2, .inl x2), (3, .inl x3)]) (st' := [.inl v62, .inl x2, .inr (.inr (.inl v40))]) rfl ?_
    refine J_sub (ls' := [(0, .inr (.inr (.inl k0))), (2, .inl x2), (3, .inl x3)]) [0, 1, 2] rfl ?_
    exact k_X6_town_b77_j154 d _ _ h hR hX hN
def f_X6_town_b77_j96 (k0 : Option Nat) (x2 : Int32) (y0 : Int32) (ah : AH) : Option ((Unit × AH) ⊕ (((Unit) × AH) ⊕ ((Int32) × AH))) :=
  (gR ah k0 6 5).bind fun v28 => (gR ah k0 6 21).bind fun v30 => (gA ah v30 x2).bind fun v32 => (sA ah v28 x2 v32).bind fun a34 => (gR a34 k0 6 2).bind fun v36 => if y0 = 0 then (f_X6_town_b77_j130 k0 x2 y0 0 x2 v36 a34) else ((gR a34 k0 6 19).bind fun v64 => (gA a34 v64 (5 * x2)).bind fun v66 => f_X6_town_b77_j130 k0 x2 y0 v66 x2 v36 a34)
set_option maxRecDepth 100000 in
set_option maxHeartbeats 4000000 in
theorem k_X6_town_b77_j96 {l : Launch} {g : GX} (d : Nat) {Q : jQ} {k0 : Option Nat} {x2 : Int32} {y0 : Int32} (ah : AH) (out : (Unit × AH) ⊕ (((Unit) × AH) ⊕ ((Int32) × AH))) (h : f_X6_town_b77_j96 k0 x2 y0 ah = some out) (hR : ∀ q, out = .inl q → jRetN q.1 q.2) (hX : ∀ q, out = .inr (.inl q) → J l g md_X6_town (jRm (d + 4) md_X6_town) Q 212 [(0, .inr (.inr (.inl k0)))] [] q.2 (0, 0)) (hN : ∀ q, out = .inr (.inr q) → J l g md_X6_town (jRm (d + 4) md_X6_town) Q 77 [(0, .inr (.inr (.inl k0))), (2, .inl q.1)] [] q.2 (0, 0)) : J l g md_X6_town (jRm (d + 4) md_X6_town) Q 96 [(0, .inr (.inr (.inl k0))), (2, .inl x2)] [.inl y0] ah (0, 0) := by
  unfold f_X6_town_b77_j96 at h
  refine J_seg ok_X6_town 53 2 (pc' := 98) (ls' := [(3, .inl y0), (0, .inr (.inr (.inl k0))), (2, .inl x2)]) (st' := [.inr (.inr (.inl k0))]) rfl ?_
  obtain ⟨v28, h29, h⟩ := Option.bind_eq_some_iff.mp h
  refine J_getR (jat ok_X6_town 55 (pc := 98) (i := .getfield 22) (n := 3) rfl rfl) fl_RX6_22 h29 ?_
  refine J_seg ok_X6_town 56 2 (pc' := 103) (ls' := [(3, .inl y0), (0, .inr (.inr (.inl k0))), (2, .inl x2)]) (st' := [.inr (.inr (.inl k0)), .inl x2, .inr (.inr (.inl v28))]) rfl ?_
  obtain ⟨v30, h31, h⟩ := Option.bind_eq_some_iff.mp h
  refine J_getR (jat ok_X6_town 58 (pc := 103) (i := .getfield 47) (n := 3) rfl rfl) fl_RX6_47 h31 ?_
  refine J_seg ok_X6_town 59 1 (pc' := 107) (ls' := [(3, .inl y0), (0, .inr (.inr (.inl k0))), (2, .inl x2)]) (st' := [.inl x2, .inr (.inr (.inl v30)), .inl x2, .inr (.inr (.inl v28))]) rfl ?_
  obtain ⟨v32, h33, h⟩ := Option.bind_eq_some_iff.mp h
  refine J_iald (jat ok_X6_town 60 (pc := 107) (i := .iaload) (n := 1) rfl rfl) h33 ?_
  obtain ⟨a34, h35, h⟩ := Option.bind_eq_some_iff.mp h
  refine J_iast (jat ok_X6_town 61 (pc := 108) (i := .iastore) (n := 1) rfl rfl) h35 ?_
  refine J_seg ok_X6_town 62 1 (pc' := 110) (ls' := [(3, .inl y0), (0, .inr (.inr (.inl k0))), (2, .inl x2)]) (st' := [.inr (.inr (.inl k0))]) rfl ?_
  obtain ⟨v36, h37, h⟩ := Option.bind_eq_some_iff.mp h
  refine J_getR (jat ok_X6_town 63 (pc := 110) (i := .getfield 13) (n := 3) rfl rfl) fl_RX6_13 h37 ?_
  refine J_seg ok_X6_town 64 2 (pc' := 115) (ls' := [(3, .inl y0), (0, .inr (.inr (.inl k0))), (2, .inl x2)]) (st' := [.inl y0, .inl x2, .inr (.inr (.inl v36))]) rfl ?_
  refine J_eq0 (jat ok_X6_town 66 (pc := 115) (i := .ifCond .eq 14) (n := 3) rfl rfl) (tgt := 129) (by decide) (fun c => ?_) (fun c => ?_)
  · have h := (if_pos c).symm.trans h
    refine J_seg ok_X6_town 74 1 (pc' := 130) (ls' := [(3, .inl y0), (0, .inr (.inr (.inl k0))), (2, .inl x2)]) (st' := [.inl 0, .inl x2, .inr (.inr (.inl v36))]) rfl ?_
    refine J_sub (ls' := [(0, .inr (.inr (.inl k0))), (2, .inl x2), (3, .inl y0)]) [1, 2, 0] rfl ?_
    exact k_X6_town_b77_j130 d _ _ h hR hX hN
  · have h := (if_neg c).symm.trans h
    refine J_seg ok_X6_town 67 1 (pc' := 119) (ls' := [(3, .inl y0), (0, .inr (.inr (.inl k0))), (2, .inl x2)]) (st' := [.inr (.inr (.inl k0)), .inl x2, .inr (.inr (.inl v36))]) rfl ?_
    obtain ⟨v64, h65, h⟩ := Option.bind_eq_some_iff.mp h
    refine J_getR (jat ok_X6_town 68 (pc := 119) (i := .getfield 44) (n := 3) rfl rfl) fl_RX6_44 h65 ?_
    refine J_seg ok_X6_town 69 3 (pc' := 125) (ls' := [(3, .inl y0), (0, .inr (.inr (.inl k0))), (2, .inl x2)]) (st' := [.inl (5 * x2), .inr (.inr (.inl v64)), .inl x2, .inr (.inr (.inl v36))]) rfl ?_
    obtain ⟨v66, h67, h⟩ := Option.bind_eq_some_iff.mp h
    refine J_iald (jat ok_X6_town 72 (pc := 125) (i := .iaload) (n := 1) rfl rfl) h67 ?_
    refine J_seg ok_X6_town 73 1 (pc' := 130) (ls' := [(3, .inl y0), (0, .inr (.inr (.inl k0))), (2, .inl x2)]) (st' := [.inl v66, .inl x2, .inr (.inr (.inl v36))]) rfl ?_
    refine J_sub (ls' := [(0, .inr (.inr (.inl k0))), (2, .inl x2), (3, .inl y0)]) [1, 2, 0] rfl ?_
    exact k_X6_town_b77_j130 d _ _ h hR hX hN
def f_X6_town_b77 (k0 : Option Nat) (s77 : Int32) (ah : AH) : Option ((Unit × AH) ⊕ (((Unit) × AH) ⊕ ((Int32) × AH))) :=
  if 6 ≤ s77 then (some (.inr (.inl ((), ah)))) else ((gI ah k0 6 1).bind fun v26 => if v26 ≤ s77 then (f_X6_town_b77_j96 k0 s77 0 ah) else (f_X6_town_b77_j96 k0 s77 1 ah))
set_option maxRecDepth 100000 in
set_option maxHeartbeats 4000000 in
theorem k_X6_town_b77 {l : Launch} {g : GX} (d : Nat) {Q : jQ} {k0 : Option Nat} (s77 : Int32) (ah : AH) (out : (Unit × AH) ⊕ (((Unit) × AH) ⊕ ((Int32) × AH))) (h : f_X6_town_b77 k0 s77 ah = some out) (hR : ∀ q, out = .inl q → jRetN q.1 q.2) (hX : ∀ q, out = .inr (.inl q) → J l g md_X6_town (jRm (d + 4) md_X6_town) Q 212 [(0, .inr (.inr (.inl k0)))] [] q.2 (0, 0)) (hN : ∀ q, out = .inr (.inr q) → J l g md_X6_town (jRm (d + 4) md_X6_town) Q 77 [(0, .inr (.inr (.inl k0))), (2, .inl q.1)] [] q.2 (0, 0)) : J l g md_X6_town (jRm (d + 4) md_X6_town) Q 77 [(0, .inr (.inr (.inl k0))), (2, .inl s77)] [] ah (0, 0) := by
  unfold f_X6_town_b77 at h
  refine J_seg ok_X6_town 43 2 (pc' := 80) (ls' := [(0, .inr (.inr (.inl k0))), (2, .inl s77)]) (st' := [.inl 6, .inl s77]) rfl ?_
  refine J_ge (jat ok_X6_town 45 (pc := 80) (i := .if_icmp .ge 132) (n := 3) rfl rfl) (tgt := 212) (by decide) (fun c => ?_) (fun c => ?_)
  · have h := (if_pos c).symm.trans h
    exact J_sub (ls' := [(0, .inr (.inr (.inl k0)))]) [0] rfl (hX ((), ah) (Option.some.inj h).symm)
  · have h := (if_neg c).symm.trans h
    refine J_seg ok_X6_town 46 2 (pc' := 85) (ls' := [(0, .inr (.inr (.inl k0))), (2, .inl s77)]) (st' := [.inr (.inr (.inl k0)), .inl s77]) rfl ?_
    obtain ⟨v26, h27, h⟩ := Option.bind_eq_some_iff.mp h
    refine J_getI (jat ok_X6_town 48 (pc := 85) (i := .getfield 148) (n := 3) rfl rfl) fl_RX6_148 h27 ?_
    refine J_ge (jat ok_X6_town 49 (pc := 88) (i := .if_icmp .ge 7) (n := 3) rfl rfl) (tgt := 95) (by decide) (fun c => ?_) (fun c => ?_)
    · have h := (if_pos c).symm.trans h
      refine J_seg ok_X6_town 52 1 (pc' := 96) (ls' := [(0, .inr (.inr (.inl k0))), (2, .inl s77)]) (st' := [.inl 0]) rfl ?_
      refine J_sub (ls' := [(0, .inr (.inr (.inl k0))), (2, .inl s77)]) [0, 1] rfl ?_
      exact k_X6_town_b77_j96 d _ _ h hR hX hN
    · have h := (if_neg c).symm.trans h
      refine J_seg ok_X6_town 50 2 (pc' := 96) (ls' := [(0, .inr (.inr (.inl k0))), (2, .inl s77)]) (st' := [.inl 1]) rfl ?_
      refine J_sub (ls' := [(0, .inr (.inr (.inl k0))), (2, .inl s77)]) [0, 1] rfl ?_
      exact k_X6_town_b77_j96 d _ _ h hR hX hN
def f_X6_town_b214 (k0 : Option Nat) (s214 : Int32) (ah : AH) : Option ((Unit × AH) ⊕ (((Unit) × AH) ⊕ ((Int32) × AH))) :=
  if 4 ≤ s214 then (some (.inr (.inl ((), ah)))) else ((gR ah k0 6 0).bind fun v72 => (sA ah v72 ((780 * s214) + 0) (-1)).bind fun a74 => some (.inr (.inr (s214 + 1, a74))))
set_option maxRecDepth 100000 in
set_option maxHeartbeats 4000000 in
theorem k_X6_town_b214 {l : Launch} {g : GX} (d : Nat) {Q : jQ} {k0 : Option Nat} (s214 : Int32) (ah : AH) (out : (Unit × AH) ⊕ (((Unit) × AH) ⊕ ((Int32) × AH))) (h : f_X6_town_b214 k0 s214 ah = some out) (hR : ∀ q, out = .inl q → jRetN q.1 q.2) (hX : ∀ q, out = .inr (.inl q) → J l g md_X6_town (jRm (d + 4) md_X6_town) Q 238 [(0, .inr (.inr (.inl k0)))] [] q.2 (0, 0)) (hN : ∀ q, out = .inr (.inr q) → J l g md_X6_town (jRm (d + 4) md_X6_town) Q 214 [(0, .inr (.inr (.inl k0))), (2, .inl q.1)] [] q.2 (0, 0)) : J l g md_X6_town (jRm (d + 4) md_X6_town) Q 214 [(0, .inr (.inr (.inl k0))), (2, .inl s214)] [] ah (0, 0) := by
  unfold f_X6_town_b214 at h
  refine J_seg ok_X6_town 130 2 (pc' := 216) (ls' := [(0, .inr (.inr (.inl k0))), (2, .inl s214)]) (st' := [.inl 4, .inl s214]) rfl ?_
  refine J_ge (jat ok_X6_town 132 (pc := 216) (i := .if_icmp .ge 22) (n := 3) rfl rfl) (tgt := 238) (by decide) (fun c => ?_) (fun c => ?_)
  · have h := (if_pos c).symm.trans h
    exact J_sub (ls' := [(0, .inr (.inr (.inl k0)))]) [0] rfl (hX ((), ah) (Option.some.inj h).symm)
  · have h := (if_neg c).symm.trans h
    refine J_seg ok_X6_town 133 1 (pc' := 220) (ls' := [(0, .inr (.inr (.inl k0))), (2, .inl s214)]) (st' := [.inr (.inr (.inl k0))]) rfl ?_
    obtain ⟨v72, h73, h⟩ := Option.bind_eq_some_iff.mp h
    refine J_getR (jat ok_X6_town 134 (pc := 220) (i := .getfield 7) (n := 3) rfl rfl) fl_RX6_7 h73 ?_
    refine J_seg ok_X6_town 135 6 (pc' := 231) (ls' := [(0, .inr (.inr (.inl k0))), (2, .inl s214)]) (st' := [.inl (-1), .inl ((780 * s214) + 0), .inr (.inr (.inl v72))]) rfl ?_
    obtain ⟨a74, h75, h⟩ := Option.bind_eq_some_iff.mp h
    refine J_iast (jat ok_X6_town 141 (pc := 231) (i := .iastore) (n := 1) rfl rfl) h75 ?_
    refine J_seg ok_X6_town 142 2 (pc' := 214) (ls' := [(2, .inl (s214 + 1)), (0, .inr (.inr (.inl k0)))]) (st' := []) rfl ?_
    exact J_sub (ls' := [(0, .inr (.inr (.inl k0))), (2, .inl (s214 + 1))]) [1, 0] rfl (hN (s214 + 1, a74) (Option.some.inj h).symm)
def f_X6_town (x0 : Option Nat) (x1 : Int32) (ah : AH) : Option (Int32 × AH) :=
  (f_X6_isText x1 ah).bind fun q1 => if q1.1 = 0 then (some ((-1), q1.2)) else ((gR q1.2 x0 6 9).bind fun v3 => (gA q1.2 v3 x1).bind fun v5 => if 0 ≤ v5 then (if qO q1.2 x0 6 = true then ((f_X6_faultOf x0 x1 q1.2).bind fun q7 => if q7.1 = (-9) then ((gI q7.2 x0 6 20).bind fun v10 => (sF q7.2 x0 6 1 (.inl v10)).bind fun a12 => (gI a12 x0 6 22).bind fun v14 => (sF a12 x0 6 6 (.inl v14)).bind fun a16 => (jloop (f_X6_town_b55 x0) jfuel 0 a16).bind fun q22 => match q22 with | .inl r => none | .inr z24 => (jloop (f_X6_town_b77 x0) jfuel 0 z24.2).bind fun q68 => match q68 with | .inl r => none | .inr z70 => (jloop (f_X6_town_b214 x0) jfuel 1 z70.2).bind fun q76 => match q76 with | .inl r => none | .inr z78 => (gI z78.2 x0 6 1).bind fun v80 => some (v80, z78.2)) else (some ((-4), q7.2))) else none) else (if qO q1.2 x0 6 = true then ((f_X6_find x0 1 q1.2).bind fun q82 => some (q82.1, q82.2)) else none))
set_option maxRecDepth 100000 in
set_option maxHeartbeats 4000000 in
theorem k_X6_town {l : Launch} {g : GX} (d : Nat) {Q : jQ} {x0 : Option Nat} {x1 : Int32} (ah : AH) (out : Int32 × AH) (h : f_X6_town x0 x1 ah = some out) (hR : jRetI l g md_X6_town (jRm (d + 4) md_X6_town) Q (0, 0) out.1 out.2) : J l g md_X6_town (jRm (d + 4) md_X6_town) Q 0 [(0, .inr (.inr (.inl x0))), (1, .inl x1)] [] ah (0, 0) := by
  unfold f_X6_town at h
  refine J_seg ok_X6_town 0 1 (pc' := 1) (ls' := [(0, .inr (.inr (.inl x0))), (1, .inl x1)]) (st' := [.inl x1]) rfl ?_
  obtain ⟨q1, h2, h⟩ := Option.bind_eq_some_iff.mp h
  refine J_callS (md' := md_X6_isText) (As := [.inl x1]) (st := []) (cs' := (0, 0)) (st' := [.inl q1.1]) (jat ok_X6_town 1 (pc := 1) (i := .invokestatic 100) (n := 3) rfl rfl) (Or.inl ml_RX6_100) ys_X6_isText (c_X6_isText l g (d + 2) h2) (jRo_of (by decide)) (Nat.le_of_ble_eq_true rfl) ⟨Nat.le_of_ble_eq_true rfl, Nat.le_of_ble_eq_true rfl⟩ rfl rfl rfl ?_
  refine J_ne0 (jat ok_X6_town 2 (pc := 4) (i := .ifCond .ne 5) (n := 3) rfl rfl) (tgt := 9) (by decide) (fun c => ?_) (fun c => ?_)
  · have h := (if_neg c).symm.trans h
    refine J_seg ok_X6_town 5 1 (pc' := 10) (ls' := [(0, .inr (.inr (.inl x0))), (1, .inl x1)]) (st' := [.inr (.inr (.inl x0))]) rfl ?_
    obtain ⟨v3, h4, h⟩ := Option.bind_eq_some_iff.mp h
    refine J_getR (jat ok_X6_town 6 (pc := 10) (i := .getfield 31) (n := 3) rfl rfl) fl_RX6_31 h4 ?_
    refine J_seg ok_X6_town 7 1 (pc' := 14) (ls' := [(0, .inr (.inr (.inl x0))), (1, .inl x1)]) (st' := [.inl x1, .inr (.inr (.inl v3))]) rfl ?_
    obtain ⟨v5, h6, h⟩ := Option.bind_eq_some_iff.mp h
    refine J_iald (jat ok_X6_town 8 (pc := 14) (i := .iaload) (n := 1) rfl rfl) h6 ?_
    refine J_ge0 (jat ok_X6_town 9 (pc := 15) (i := .ifCond .ge 9) (n := 3) rfl rfl) (tgt := 24) (by decide) (fun c => ?_) (fun c => ?_)
    · have h := (if_pos c).symm.trans h
      refine J_seg ok_X6_town 14 2 (pc' := 26) (ls' := [(0, .inr (.inr (.inl x0))), (1, .inl x1)]) (st' := [.inl x1, .inr (.inr (.inl x0))]) rfl ?_
      by_cases c9 : qO q1.2 x0 6 = true
      case neg => exact absurd ((if_neg c9).symm.trans h) (by simp)
      have h := (if_pos c9).symm.trans h
      obtain ⟨q7, h8, h⟩ := Option.bind_eq_some_iff.mp h
      refine J_callV (md' := md_X6_faultOf) (As := [.inl x1]) (st := []) (cs' := (0, 0)) (st' := [.inl q7.1]) (jat ok_X6_town 16 (pc := 26) (i := .invokevirtual 145) (n := 3) rfl rfl) ml_RX6_145 yv_X6_faultOf c9 (c_X6_faultOf l g (d + 0) h8) (jRo_of (by decide)) (Nat.le_of_ble_eq_true rfl) ⟨Nat.le_of_ble_eq_true rfl, Nat.le_of_ble_eq_true rfl⟩ rfl rfl rfl ?_
      refine J_seg ok_X6_town 17 1 (pc' := 31) (ls' := [(0, .inr (.inr (.inl x0))), (1, .inl x1)]) (st' := [.inl (-9), .inl q7.1]) rfl ?_
      refine J_eq (jat ok_X6_town 18 (pc := 31) (i := .if_icmp .eq 6) (n := 3) rfl rfl) (tgt := 37) (by decide) (fun c => ?_) (fun c => ?_)
      · have h := (if_pos c).symm.trans h
        refine J_seg ok_X6_town 21 2 (pc' := 39) (ls' := [(0, .inr (.inr (.inl x0))), (1, .inl x1)]) (st' := [.inr (.inr (.inl x0)), .inr (.inr (.inl x0))]) rfl ?_
        obtain ⟨v10, h11, h⟩ := Option.bind_eq_some_iff.mp h
        refine J_getI (jat ok_X6_town 23 (pc := 39) (i := .getfield 119) (n := 3) rfl rfl) fl_RX6_119 h11 ?_
        obtain ⟨a12, h13, h⟩ := Option.bind_eq_some_iff.mp h
        refine J_put (jat ok_X6_town 24 (pc := 42) (i := .putfield 148) (n := 3) rfl rfl) (fp_RX6_148 _) (jPV_int _) h13 ?_
        refine J_seg ok_X6_town 25 2 (pc' := 47) (ls' := [(0, .inr (.inr (.inl x0))), (1, .inl x1)]) (st' := [.inr (.inr (.inl x0)), .inr (.inr (.inl x0))]) rfl ?_
        obtain ⟨v14, h15, h⟩ := Option.bind_eq_some_iff.mp h
        refine J_getI (jat ok_X6_town 27 (pc := 47) (i := .getfield 122) (n := 3) rfl rfl) fl_RX6_122 h15 ?_
        obtain ⟨a16, h17, h⟩ := Option.bind_eq_some_iff.mp h
        refine J_put (jat ok_X6_town 28 (pc := 50) (i := .putfield 151) (n := 3) rfl rfl) (fp_RX6_151 _) (jPV_int _) h17 ?_
        refine J_seg ok_X6_town 29 2 (pc' := 55) (ls' := [(2, .inl 0), (0, .inr (.inr (.inl x0))), (1, .inl x1)]) (st' := []) rfl ?_
        obtain ⟨q22, h23, h⟩ := Option.bind_eq_some_iff.mp h
        refine J_sub (ls' := [(0, .inr (.inr (.inl x0))), (2, .inl 0)]) [1, 0] rfl ?_
        refine J_loop (pE := 75) (lh := fun t25 => [(0, .inr (.inr (.inl x0))), (2, .inl t25)]) (lx := fun z24 => [(0, .inr (.inr (.inl x0)))]) (P := jRetN) (fun s ah out hb hR hX hN => k_X6_town_b55 d s ah out hb hR hX hN) jfuel 0 _ _ h23 (fun r e => ?_) (fun z24 e => ?_)
        · subst e
          dsimp only at h
          cases h
        · subst e
          dsimp only at h
          refine J_seg ok_X6_town 41 2 (pc' := 77) (ls' := [(2, .inl 0), (0, .inr (.inr (.inl x0)))]) (st' := []) rfl ?_
          obtain ⟨q68, h69, h⟩ := Option.bind_eq_some_iff.mp h
          refine J_sub (ls' := [(0, .inr (.inr (.inl x0))), (2, .inl 0)]) [1, 0] rfl ?_
          refine J_loop (pE := 212) (lh := fun t71 => [(0, .inr (.inr (.inl x0))), (2, .inl t71)]) (lx := fun z70 => [(0, .inr (.inr (.inl x0)))]) (P := jRetN) (fun s ah out hb hR hX hN => k_X6_town_b77 d s ah out hb hR hX hN) jfuel 0 _ _ h69 (fun r e => ?_) (fun z70 e => ?_)
          · subst e
            dsimp only at h
            cases h
          · subst e
            dsimp only at h
            refine J_seg ok_X6_town 128 2 (pc' := 214) (ls' := [(2, .inl 1), (0, .inr (.inr (.inl x0)))]) (st' := []) rfl ?_
            obtain ⟨q76, h77, h⟩ := Option.bind_eq_some_iff.mp h
            refine J_sub (ls' := [(0, .inr (.inr (.inl x0))), (2, .inl 1)]) [1, 0] rfl ?_
            refine J_loop (pE := 238) (lh := fun t79 => [(0, .inr (.inr (.inl x0))), (2, .inl t79)]) (lx := fun z78 => [(0, .inr (.inr (.inl x0)))]) (P := jRetN) (fun s ah out hb hR hX hN => k_X6_town_b214 d s ah out hb hR hX hN) jfuel 1 _ _ h77 (fun r e => ?_) (fun z78 e => ?_)
            · subst e
              dsimp only at h
              cases h
            · subst e
              dsimp only at h
              refine J_seg ok_X6_town 144 1 (pc' := 239) (ls' := [(0, .inr (.inr (.inl x0)))]) (st' := [.inr (.inr (.inl x0))]) rfl ?_
              obtain ⟨v80, h81, h⟩ := Option.bind_eq_some_iff.mp h
              refine J_getI (jat ok_X6_town 145 (pc := 239) (i := .getfield 148) (n := 3) rfl rfl) fl_RX6_148 h81 ?_
              have h := Option.some.inj h
              subst h
              exact hR _ _ (jat ok_X6_town 146 (pc := 242) (i := .ireturn) (n := 1) rfl rfl)
      · have h := (if_neg c).symm.trans h
        refine J_seg ok_X6_town 19 1 (pc' := 36) (ls' := [(0, .inr (.inr (.inl x0))), (1, .inl x1)]) (st' := [.inl (-4)]) rfl ?_
        have h := Option.some.inj h
        subst h
        exact hR _ _ (jat ok_X6_town 20 (pc := 36) (i := .ireturn) (n := 1) rfl rfl)
    · have h := (if_neg c).symm.trans h
      refine J_seg ok_X6_town 10 2 (pc' := 20) (ls' := [(0, .inr (.inr (.inl x0))), (1, .inl x1)]) (st' := [.inl 1, .inr (.inr (.inl x0))]) rfl ?_
      by_cases c84 : qO q1.2 x0 6 = true
      case neg => exact absurd ((if_neg c84).symm.trans h) (by simp)
      have h := (if_pos c84).symm.trans h
      obtain ⟨q82, h83, h⟩ := Option.bind_eq_some_iff.mp h
      refine J_callV (md' := md_X6_find) (As := [.inl 1]) (st := []) (cs' := (0, 0)) (st' := [.inl q82.1]) (jat ok_X6_town 12 (pc := 20) (i := .invokevirtual 81) (n := 3) rfl rfl) ml_RX6_81 yv_X6_find c84 (c_X6_find l g (d + 3) h83) (jRo_of (by decide)) (Nat.le_of_ble_eq_true rfl) ⟨Nat.le_of_ble_eq_true rfl, Nat.le_of_ble_eq_true rfl⟩ rfl rfl rfl ?_
      have h := Option.some.inj h
      subst h
      exact hR _ _ (jat ok_X6_town 13 (pc := 23) (i := .ireturn) (n := 1) rfl rfl)
  · have h := (if_pos c).symm.trans h
    refine J_seg ok_X6_town 3 1 (pc' := 8) (ls' := [(0, .inr (.inr (.inl x0))), (1, .inl x1)]) (st' := [.inl (-1)]) rfl ?_
    have h := Option.some.inj h
    subst h
    exact hR _ _ (jat ok_X6_town 4 (pc := 8) (i := .ireturn) (n := 1) rfl rfl)
theorem c_X6_town (l : Launch) (g : GX) (d : Nat) {x0 : Option Nat} {x1 : Int32} {ah : AH} {q : Int32 × AH} (h : f_X6_town x0 x1 ah = some q) : jM l g (d + 4) md_X6_town [.inr (.inr (.inl x0)), .inl x1] ah (some (.inl q.1)) q.2 :=
  jM_of (by decide) (Nat.le_of_ble_eq_true rfl) (k_X6_town d ah q h (fun pc ls hd => J_reti hd rfl (jPV_int _) rfl (Nat.le_refl _) rfl rfl))
def f_X6_isPerson (x0 : Option Nat) (x1 : Int32) (ah : AH) : Option (Int32 × AH) :=
  (gI ah x0 6 1).bind fun v1 => (f_X6_in (Int32.toInt64 x1) 0 (Int32.toInt64 (v1 - 1)) ah).bind fun q3 => if q3.1 = 0 ∨ q3.1 = 1 then some (q3.1, q3.2) else none
set_option maxRecDepth 100000 in
set_option maxHeartbeats 4000000 in
theorem k_X6_isPerson {l : Launch} {g : GX} (d : Nat) {Q : jQ} {x0 : Option Nat} {x1 : Int32} (ah : AH) (out : Int32 × AH) (h : f_X6_isPerson x0 x1 ah = some out) (hR : jRetZ l g md_X6_isPerson (jRm (d + 1) md_X6_isPerson) Q (0, 0) out.1 out.2) : J l g md_X6_isPerson (jRm (d + 1) md_X6_isPerson) Q 0 [(0, .inr (.inr (.inl x0))), (1, .inl x1)] [] ah (0, 0) := by
  unfold f_X6_isPerson at h
  refine J_seg ok_X6_isPerson 0 4 (pc' := 4) (ls' := [(0, .inr (.inr (.inl x0))), (1, .inl x1)]) (st' := [.inr (.inr (.inl x0)), .inr (.inl 0), .inr (.inl (Int32.toInt64 x1))]) rfl ?_
  obtain ⟨v1, h2, h⟩ := Option.bind_eq_some_iff.mp h
  refine J_getI (jat ok_X6_isPerson 4 (pc := 4) (i := .getfield 148) (n := 3) rfl rfl) fl_RX6_148 h2 ?_
  refine J_seg ok_X6_isPerson 5 3 (pc' := 10) (ls' := [(0, .inr (.inr (.inl x0))), (1, .inl x1)]) (st' := [.inr (.inl (Int32.toInt64 (v1 - 1))), .inr (.inl 0), .inr (.inl (Int32.toInt64 x1))]) rfl ?_
  obtain ⟨q3, h4, h⟩ := Option.bind_eq_some_iff.mp h
  refine J_callS (md' := md_X6_in) (As := [.inr (.inl (Int32.toInt64 x1)), .inr (.inl 0), .inr (.inl (Int32.toInt64 (v1 - 1)))]) (st := []) (cs' := (0, 0)) (st' := [.inl q3.1]) (jat ok_X6_isPerson 8 (pc := 10) (i := .invokestatic 71) (n := 3) rfl rfl) (Or.inl ml_RX6_71) ys_X6_in (c_X6_in l g (d + 0) h4) (jRo_of (by decide)) (Nat.le_of_ble_eq_true rfl) ⟨Nat.le_of_ble_eq_true rfl, Nat.le_of_ble_eq_true rfl⟩ rfl rfl rfl ?_
  by_cases c : q3.1 = 0 ∨ q3.1 = 1
  · have h := (if_pos c).symm.trans h
    have h := Option.some.inj h
    subst h
    exact hR _ _ (jat ok_X6_isPerson 9 (pc := 13) (i := .ireturn) (n := 1) rfl rfl) c
  · have h := (if_neg c).symm.trans h
    cases h
theorem c_X6_isPerson (l : Launch) (g : GX) (d : Nat) {x0 : Option Nat} {x1 : Int32} {ah : AH} {q : Int32 × AH} (h : f_X6_isPerson x0 x1 ah = some q) : jM l g (d + 1) md_X6_isPerson [.inr (.inr (.inl x0)), .inl x1] ah (some (.inl q.1)) q.2 :=
  jM_of (by decide) (Nat.le_of_ble_eq_true rfl) (k_X6_isPerson d ah q h (fun pc ls hd c => J_reti hd rfl (jPV_z c) rfl (Nat.le_refl _) rfl rfl))
def f_X6_areTwo (x0 : Option Nat) (x1 : Int32) (x2 : Int32) (ah : AH) : Option (Int32 × AH) :=
  if qO ah x0 6 = true then ((f_X6_isPerson x0 x1 ah).bind fun q1 => if q1.1 = 0 then (some (0, q1.2)) else (if qO q1.2 x0 6 = true then ((f_X6_isPerson x0 x2 q1.2).bind fun q4 => if q4.1 = 0 then (some (0, q4.2)) else (if x1 = x2 then (some (0, q4.2)) else (some (1, q4.2)))) else none)) else none
set_option maxRecDepth 100000 in
set_option maxHeartbeats 4000000 in
theorem k_X6_areTwo {l : Launch} {g : GX} (d : Nat) {Q : jQ} {x0 : Option Nat} {x1 : Int32} {x2 : Int32} (ah : AH) (out : Int32 × AH) (h : f_X6_areTwo x0 x1 x2 ah = some out) (hR : jRetZ l g md_X6_areTwo (jRm (d + 2) md_X6_areTwo) Q (0, 0) out.1 out.2) : J l g md_X6_areTwo (jRm (d + 2) md_X6_areTwo) Q 0 [(0, .inr (.inr (.inl x0))), (1, .inl x1), (2, .inl x2)] [] ah (0, 0) := by
  unfold f_X6_areTwo at h
  refine J_seg ok_X6_areTwo 0 2 (pc' := 2) (ls' := [(0, .inr (.inr (.inl x0))), (1, .inl x1), (2, .inl x2)]) (st' := [.inl x1, .inr (.inr (.inl x0))]) rfl ?_
  by_cases c3 : qO ah x0 6 = true
  case neg => exact absurd ((if_neg c3).symm.trans h) (by simp)
  have h := (if_pos c3).symm.trans h
  obtain ⟨q1, h2, h⟩ := Option.bind_eq_some_iff.mp h
  refine J_callV (md' := md_X6_isPerson) (As := [.inl x1]) (st := []) (cs' := (0, 0)) (st' := [.inl q1.1]) (jat ok_X6_areTwo 2 (pc := 2) (i := .invokevirtual 154) (n := 3) rfl rfl) ml_RX6_154 yv_X6_isPerson c3 (c_X6_isPerson l g (d + 0) h2) (jRo_of (by decide)) (Nat.le_of_ble_eq_true rfl) ⟨Nat.le_of_ble_eq_true rfl, Nat.le_of_ble_eq_true rfl⟩ rfl rfl rfl ?_
  refine J_eq0 (jat ok_X6_areTwo 3 (pc := 5) (i := .ifCond .eq 20) (n := 3) rfl rfl) (tgt := 25) (by decide) (fun c => ?_) (fun c => ?_)
  · have h := (if_pos c).symm.trans h
    refine J_seg ok_X6_areTwo 13 1 (pc' := 26) (ls' := [(0, .inr (.inr (.inl x0))), (1, .inl x1), (2, .inl x2)]) (st' := [.inl 0]) rfl ?_
    have h := Option.some.inj h
    subst h
    exact hR _ _ (jat ok_X6_areTwo 14 (pc := 26) (i := .ireturn) (n := 1) rfl rfl) (Or.inl rfl)
  · have h := (if_neg c).symm.trans h
    refine J_seg ok_X6_areTwo 4 2 (pc' := 10) (ls' := [(0, .inr (.inr (.inl x0))), (1, .inl x1), (2, .inl x2)]) (st' := [.inl x2, .inr (.inr (.inl x0))]) rfl ?_
    by_cases c6 : qO q1.2 x0 6 = true
    case neg => exact absurd ((if_neg c6).symm.trans h) (by simp)
    have h := (if_pos c6).symm.trans h
    obtain ⟨q4, h5, h⟩ := Option.bind_eq_some_iff.mp h
    refine J_callV (md' := md_X6_isPerson) (As := [.inl x2]) (st := []) (cs' := (0, 0)) (st' := [.inl q4.1]) (jat ok_X6_areTwo 6 (pc := 10) (i := .invokevirtual 154) (n := 3) rfl rfl) ml_RX6_154 yv_X6_isPerson c6 (c_X6_isPerson l g (d + 0) h5) (jRo_of (by decide)) (Nat.le_of_ble_eq_true rfl) ⟨Nat.le_of_ble_eq_true rfl, Nat.le_of_ble_eq_true rfl⟩ rfl rfl rfl ?_
    refine J_eq0 (jat ok_X6_areTwo 7 (pc := 13) (i := .ifCond .eq 12) (n := 3) rfl rfl) (tgt := 25) (by decide) (fun c => ?_) (fun c => ?_)
    · have h := (if_pos c).symm.trans h
      refine J_seg ok_X6_areTwo 13 1 (pc' := 26) (ls' := [(0, .inr (.inr (.inl x0))), (1, .inl x1), (2, .inl x2)]) (st' := [.inl 0]) rfl ?_
      have h := Option.some.inj h
      subst h
      exact hR _ _ (jat ok_X6_areTwo 14 (pc := 26) (i := .ireturn) (n := 1) rfl rfl) (Or.inl rfl)
    · have h := (if_neg c).symm.trans h
      refine J_seg ok_X6_areTwo 8 2 (pc' := 18) (ls' := [(0, .inr (.inr (.inl x0))), (1, .inl x1), (2, .inl x2)]) (st' := [.inl x2, .inl x1]) rfl ?_
      refine J_eq (jat ok_X6_areTwo 10 (pc := 18) (i := .if_icmp .eq 7) (n := 3) rfl rfl) (tgt := 25) (by decide) (fun c => ?_) (fun c => ?_)
      · have h := (if_pos c).symm.trans h
        refine J_seg ok_X6_areTwo 13 1 (pc' := 26) (ls' := [(0, .inr (.inr (.inl x0))), (1, .inl x1), (2, .inl x2)]) (st' := [.inl 0]) rfl ?_
        have h := Option.some.inj h
        subst h
        exact hR _ _ (jat ok_X6_areTwo 14 (pc := 26) (i := .ireturn) (n := 1) rfl rfl) (Or.inl rfl)
      · have h := (if_neg c).symm.trans h
        refine J_seg ok_X6_areTwo 11 2 (pc' := 26) (ls' := [(0, .inr (.inr (.inl x0))), (1, .inl x1), (2, .inl x2)]) (st' := [.inl 1]) rfl ?_
        have h := Option.some.inj h
        subst h
        exact hR _ _ (jat ok_X6_areTwo 14 (pc := 26) (i := .ireturn) (n := 1) rfl rfl) (Or.inr rfl)
theorem c_X6_areTwo (l : Launch) (g : GX) (d : Nat) {x0 : Option Nat} {x1 : Int32} {x2 : Int32} {ah : AH} {q : Int32 × AH} (h : f_X6_areTwo x0 x1 x2 ah = some q) : jM l g (d + 2) md_X6_areTwo [.inr (.inr (.inl x0)), .inl x1, .inl x2] ah (some (.inl q.1)) q.2 :=
  jM_of (by decide) (Nat.le_of_ble_eq_true rfl) (k_X6_areTwo d ah q h (fun pc ls hd c => J_reti hd rfl (jPV_z c) rfl (Nat.le_refl _) rfl rfl))
def f_X6_victim (x0 : Option Nat) (x1 : Int32) (ah : AH) : Option (Int32 × AH) :=
  (gR ah x0 6 0).bind fun v1 => (gA ah v1 (1 + x1)).bind fun v3 => some (v3, ah)
set_option maxRecDepth 100000 in
set_option maxHeartbeats 4000000 in
theorem k_X6_victim {l : Launch} {g : GX} (d : Nat) {Q : jQ} {x0 : Option Nat} {x1 : Int32} (ah : AH) (out : Int32 × AH) (h : f_X6_victim x0 x1 ah = some out) (hR : jRetI l g md_X6_victim (jRm (d + 0) md_X6_victim) Q (0, 0) out.1 out.2) : J l g md_X6_victim (jRm (d + 0) md_X6_victim) Q 0 [(0, .inr (.inr (.inl x0))), (1, .inl x1)] [] ah (0, 0) := by
  unfold f_X6_victim at h
  refine J_seg ok_X6_victim 0 1 (pc' := 1) (ls' := [(0, .inr (.inr (.inl x0))), (1, .inl x1)]) (st' := [.inr (.inr (.inl x0))]) rfl ?_
  obtain ⟨v1, h2, h⟩ := Option.bind_eq_some_iff.mp h
  refine J_getR (jat ok_X6_victim 1 (pc := 1) (i := .getfield 7) (n := 3) rfl rfl) fl_RX6_7 h2 ?_
  refine J_seg ok_X6_victim 2 3 (pc' := 7) (ls' := [(0, .inr (.inr (.inl x0))), (1, .inl x1)]) (st' := [.inl (1 + x1), .inr (.inr (.inl v1))]) rfl ?_
  obtain ⟨v3, h4, h⟩ := Option.bind_eq_some_iff.mp h
  refine J_iald (jat ok_X6_victim 5 (pc := 7) (i := .iaload) (n := 1) rfl rfl) h4 ?_
  have h := Option.some.inj h
  subst h
  exact hR _ _ (jat ok_X6_victim 6 (pc := 8) (i := .ireturn) (n := 1) rfl rfl)
theorem c_X6_victim (l : Launch) (g : GX) (d : Nat) {x0 : Option Nat} {x1 : Int32} {ah : AH} {q : Int32 × AH} (h : f_X6_victim x0 x1 ah = some q) : jM l g (d + 0) md_X6_victim [.inr (.inr (.inl x0)), .inl x1] ah (some (.inl q.1)) q.2 :=
  jM_of (by decide) (Nat.le_of_ble_eq_true rfl) (k_X6_victim d ah q h (fun pc ls hd => J_reti hd rfl (jPV_int _) rfl (Nat.le_refl _) rfl rfl))
def f_X6_foe_b2 (k0 : Option Nat) (k1 : Int32) (s2 : Int32) (ah : AH) : Option ((Int32 × AH) ⊕ (((Unit) × AH) ⊕ ((Int32) × AH))) :=
  (gI ah k0 6 1).bind fun v1 => if v1 ≤ s2 then (some (.inr (.inl ((), ah)))) else (if qO ah k0 6 = true then ((f_X6_victim k0 s2 ah).bind fun q3 => if q3.1 = k1 then (some (.inl (s2, q3.2))) else (some (.inr (.inr (s2 + 1, q3.2))))) else none)
set_option maxRecDepth 100000 in
set_option maxHeartbeats 4000000 in
theorem k_X6_foe_b2 {l : Launch} {g : GX} (d : Nat) {Q : jQ} {k0 : Option Nat} {k1 : Int32} (s2 : Int32) (ah : AH) (out : (Int32 × AH) ⊕ (((Unit) × AH) ⊕ ((Int32) × AH))) (h : f_X6_foe_b2 k0 k1 s2 ah = some out) (hR : ∀ q, out = .inl q → jRetI l g md_X6_foe (jRm (d + 1) md_X6_foe) Q (0, 0) q.1 q.2) (hX : ∀ q, out = .inr (.inl q) → J l g md_X6_foe (jRm (d + 1) md_X6_foe) Q 27 [] [] q.2 (0, 0)) (hN : ∀ q, out = .inr (.inr q) → J l g md_X6_foe (jRm (d + 1) md_X6_foe) Q 2 [(0, .inr (.inr (.inl k0))), (1, .inl k1), (2, .inl q.1)] [] q.2 (0, 0)) : J l g md_X6_foe (jRm (d + 1) md_X6_foe) Q 2 [(0, .inr (.inr (.inl k0))), (1, .inl k1), (2, .inl s2)] [] ah (0, 0) := by
  unfold f_X6_foe_b2 at h
  refine J_seg ok_X6_foe 2 2 (pc' := 4) (ls' := [(0, .inr (.inr (.inl k0))), (1, .inl k1), (2, .inl s2)]) (st' := [.inr (.inr (.inl k0)), .inl s2]) rfl ?_
  obtain ⟨v1, h2, h⟩ := Option.bind_eq_some_iff.mp h
  refine J_getI (jat ok_X6_foe 4 (pc := 4) (i := .getfield 148) (n := 3) rfl rfl) fl_RX6_148 h2 ?_
  refine J_ge (jat ok_X6_foe 5 (pc := 7) (i := .if_icmp .ge 20) (n := 3) rfl rfl) (tgt := 27) (by decide) (fun c => ?_) (fun c => ?_)
  · have h := (if_pos c).symm.trans h
    exact J_sub (ls' := []) [] rfl (hX ((), ah) (Option.some.inj h).symm)
  · have h := (if_neg c).symm.trans h
    refine J_seg ok_X6_foe 6 2 (pc' := 12) (ls' := [(0, .inr (.inr (.inl k0))), (1, .inl k1), (2, .inl s2)]) (st' := [.inl s2, .inr (.inr (.inl k0))]) rfl ?_
    by_cases c5 : qO ah k0 6 = true
    case neg => exact absurd ((if_neg c5).symm.trans h) (by simp)
    have h := (if_pos c5).symm.trans h
    obtain ⟨q3, h4, h⟩ := Option.bind_eq_some_iff.mp h
    refine J_callV (md' := md_X6_victim) (As := [.inl s2]) (st := []) (cs' := (0, 0)) (st' := [.inl q3.1]) (jat ok_X6_foe 8 (pc := 12) (i := .invokevirtual 157) (n := 3) rfl rfl) ml_RX6_157 yv_X6_victim c5 (c_X6_victim l g (d + 0) h4) (jRo_of (by decide)) (Nat.le_of_ble_eq_true rfl) ⟨Nat.le_of_ble_eq_true rfl, Nat.le_of_ble_eq_true rfl⟩ rfl rfl rfl ?_
    refine J_seg ok_X6_foe 9 1 (pc' := 16) (ls' := [(0, .inr (.inr (.inl k0))), (1, .inl k1), (2, .inl s2)]) (st' := [.inl k1, .inl q3.1]) rfl ?_
    refine J_ne (jat ok_X6_foe 10 (pc := 16) (i := .if_icmp .ne 5) (n := 3) rfl rfl) (tgt := 21) (by decide) (fun c => ?_) (fun c => ?_)
    · have h := (if_neg c).symm.trans h
      refine J_seg ok_X6_foe 13 2 (pc' := 2) (ls' := [(2, .inl (s2 + 1)), (0, .inr (.inr (.inl k0))), (1, .inl k1)]) (st' := []) rfl ?_
      exact J_sub (ls' := [(0, .inr (.inr (.inl k0))), (1, .inl k1), (2, .inl (s2 + 1))]) [1, 2, 0] rfl (hN (s2 + 1, q3.2) (Option.some.inj h).symm)
    · have h := (if_pos c).symm.trans h
      refine J_seg ok_X6_foe 11 1 (pc' := 20) (ls' := [(0, .inr (.inr (.inl k0))), (1, .inl k1), (2, .inl s2)]) (st' := [.inl s2]) rfl ?_
      exact hR _ (Option.some.inj h).symm _ _ (jat ok_X6_foe 12 (pc := 20) (i := .ireturn) (n := 1) rfl rfl)
def f_X6_foe (x0 : Option Nat) (x1 : Int32) (ah : AH) : Option (Int32 × AH) :=
  (jloop (f_X6_foe_b2 x0 x1) jfuel 0 ah).bind fun q6 => match q6 with | .inl r => some r | .inr z8 => some ((-9), z8.2)
set_option maxRecDepth 100000 in
set_option maxHeartbeats 4000000 in
theorem k_X6_foe {l : Launch} {g : GX} (d : Nat) {Q : jQ} {x0 : Option Nat} {x1 : Int32} (ah : AH) (out : Int32 × AH) (h : f_X6_foe x0 x1 ah = some out) (hR : jRetI l g md_X6_foe (jRm (d + 1) md_X6_foe) Q (0, 0) out.1 out.2) : J l g md_X6_foe (jRm (d + 1) md_X6_foe) Q 0 [(0, .inr (.inr (.inl x0))), (1, .inl x1)] [] ah (0, 0) := by
  unfold f_X6_foe at h
  refine J_seg ok_X6_foe 0 2 (pc' := 2) (ls' := [(2, .inl 0), (0, .inr (.inr (.inl x0))), (1, .inl x1)]) (st' := []) rfl ?_
  obtain ⟨q6, h7, h⟩ := Option.bind_eq_some_iff.mp h
  refine J_sub (ls' := [(0, .inr (.inr (.inl x0))), (1, .inl x1), (2, .inl 0)]) [1, 2, 0] rfl ?_
  refine J_loop (pE := 27) (lh := fun t9 => [(0, .inr (.inr (.inl x0))), (1, .inl x1), (2, .inl t9)]) (lx := fun z8 => []) (P := jRetI l g md_X6_foe (jRm (d + 1) md_X6_foe) Q (0, 0)) (fun s ah out hb hR hX hN => k_X6_foe_b2 d s ah out hb hR hX hN) jfuel 0 _ _ h7 (fun r e => ?_) (fun z8 e => ?_)
  · subst e
    dsimp only at h
    have h := Option.some.inj h
    subst h
    exact hR
  · subst e
    dsimp only at h
    refine J_seg ok_X6_foe 15 1 (pc' := 29) (ls' := []) (st' := [.inl (-9)]) rfl ?_
    have h := Option.some.inj h
    subst h
    exact hR _ _ (jat ok_X6_foe 16 (pc := 29) (i := .ireturn) (n := 1) rfl rfl)
theorem c_X6_foe (l : Launch) (g : GX) (d : Nat) {x0 : Option Nat} {x1 : Int32} {ah : AH} {q : Int32 × AH} (h : f_X6_foe x0 x1 ah = some q) : jM l g (d + 1) md_X6_foe [.inr (.inr (.inl x0)), .inl x1] ah (some (.inl q.1)) q.2 :=
  jM_of (by decide) (Nat.le_of_ble_eq_true rfl) (k_X6_foe d ah q h (fun pc ls hd => J_reti hd rfl (jPV_int _) rfl (Nat.le_refl _) rfl rfl))
def f_X6_isReached (x0 : Option Nat) (x1 : Int32) (ah : AH) : Option (Int32 × AH) :=
  (gR ah x0 6 0).bind fun v1 => (gA ah v1 19).bind fun v3 => (f_X6_has v3 x1 ah).bind fun q5 => if q5.1 = 0 ∨ q5.1 = 1 then some (q5.1, q5.2) else none
set_option maxRecDepth 100000 in
set_option maxHeartbeats 4000000 in
theorem k_X6_isReached {l : Launch} {g : GX} (d : Nat) {Q : jQ} {x0 : Option Nat} {x1 : Int32} (ah : AH) (out : Int32 × AH) (h : f_X6_isReached x0 x1 ah = some out) (hR : jRetZ l g md_X6_isReached (jRm (d + 1) md_X6_isReached) Q (0, 0) out.1 out.2) : J l g md_X6_isReached (jRm (d + 1) md_X6_isReached) Q 0 [(0, .inr (.inr (.inl x0))), (1, .inl x1)] [] ah (0, 0) := by
  unfold f_X6_isReached at h
  refine J_seg ok_X6_isReached 0 1 (pc' := 1) (ls' := [(0, .inr (.inr (.inl x0))), (1, .inl x1)]) (st' := [.inr (.inr (.inl x0))]) rfl ?_
  obtain ⟨v1, h2, h⟩ := Option.bind_eq_some_iff.mp h
  refine J_getR (jat ok_X6_isReached 1 (pc := 1) (i := .getfield 7) (n := 3) rfl rfl) fl_RX6_7 h2 ?_
  refine J_seg ok_X6_isReached 2 1 (pc' := 6) (ls' := [(0, .inr (.inr (.inl x0))), (1, .inl x1)]) (st' := [.inl 19, .inr (.inr (.inl v1))]) rfl ?_
  obtain ⟨v3, h4, h⟩ := Option.bind_eq_some_iff.mp h
  refine J_iald (jat ok_X6_isReached 3 (pc := 6) (i := .iaload) (n := 1) rfl rfl) h4 ?_
  refine J_seg ok_X6_isReached 4 1 (pc' := 8) (ls' := [(0, .inr (.inr (.inl x0))), (1, .inl x1)]) (st' := [.inl x1, .inl v3]) rfl ?_
  obtain ⟨q5, h6, h⟩ := Option.bind_eq_some_iff.mp h
  refine J_callS (md' := md_X6_has) (As := [.inl v3, .inl x1]) (st := []) (cs' := (0, 0)) (st' := [.inl q5.1]) (jat ok_X6_isReached 5 (pc := 8) (i := .invokestatic 128) (n := 3) rfl rfl) (Or.inl ml_RX6_128) ys_X6_has (c_X6_has l g (d + 0) h6) (jRo_of (by decide)) (Nat.le_of_ble_eq_true rfl) ⟨Nat.le_of_ble_eq_true rfl, Nat.le_of_ble_eq_true rfl⟩ rfl rfl rfl ?_
  by_cases c : q5.1 = 0 ∨ q5.1 = 1
  · have h := (if_pos c).symm.trans h
    have h := Option.some.inj h
    subst h
    exact hR _ _ (jat ok_X6_isReached 6 (pc := 11) (i := .ireturn) (n := 1) rfl rfl) c
  · have h := (if_neg c).symm.trans h
    cases h
theorem c_X6_isReached (l : Launch) (g : GX) (d : Nat) {x0 : Option Nat} {x1 : Int32} {ah : AH} {q : Int32 × AH} (h : f_X6_isReached x0 x1 ah = some q) : jM l g (d + 1) md_X6_isReached [.inr (.inr (.inl x0)), .inl x1] ah (some (.inl q.1)) q.2 :=
  jM_of (by decide) (Nat.le_of_ble_eq_true rfl) (k_X6_isReached d ah q h (fun pc ls hd c => J_reti hd rfl (jPV_z c) rfl (Nat.le_refl _) rfl rfl))
def f_X6_plain_j92 (x0 : Option Nat) (x1 : Int32) (ah : AH) : Option (Int32 × AH) :=
  (gR ah x0 6 4).bind fun v9 => (gA ah v9 x1).bind fun v11 => some (v11, ah)
set_option maxRecDepth 100000 in
set_option maxHeartbeats 4000000 in
theorem k_X6_plain_j92 {l : Launch} {g : GX} (d : Nat) {Q : jQ} {x0 : Option Nat} {x1 : Int32} (ah : AH) (out : Int32 × AH) (h : f_X6_plain_j92 x0 x1 ah = some out) (hR : jRetI l g md_X6_plain (jRm (d + 0) md_X6_plain) Q (0, 0) out.1 out.2) : J l g md_X6_plain (jRm (d + 0) md_X6_plain) Q 92 [(0, .inr (.inr (.inl x0))), (1, .inl x1)] [] ah (0, 0) := by
  unfold f_X6_plain_j92 at h
  refine J_seg ok_X6_plain 42 1 (pc' := 93) (ls' := [(0, .inr (.inr (.inl x0))), (1, .inl x1)]) (st' := [.inr (.inr (.inl x0))]) rfl ?_
  obtain ⟨v9, h10, h⟩ := Option.bind_eq_some_iff.mp h
  refine J_getR (jat ok_X6_plain 43 (pc := 93) (i := .getfield 19) (n := 3) rfl rfl) fl_RX6_19 h10 ?_
  refine J_seg ok_X6_plain 44 1 (pc' := 97) (ls' := [(0, .inr (.inr (.inl x0))), (1, .inl x1)]) (st' := [.inl x1, .inr (.inr (.inl v9))]) rfl ?_
  obtain ⟨v11, h12, h⟩ := Option.bind_eq_some_iff.mp h
  refine J_iald (jat ok_X6_plain 45 (pc := 97) (i := .iaload) (n := 1) rfl rfl) h12 ?_
  have h := Option.some.inj h
  subst h
  exact hR _ _ (jat ok_X6_plain 46 (pc := 98) (i := .ireturn) (n := 1) rfl rfl)
def f_X6_plain (x0 : Option Nat) (x1 : Int32) (ah : AH) : Option (Int32 × AH) :=
  (gR ah x0 6 2).bind fun v1 => (gA ah v1 x1).bind fun v3 => if v3 = 1 then ((gR ah x0 6 4).bind fun v5 => (gA ah v5 x1).bind fun v7 => some (v7 + 1, ah)) else (if v3 = 2 then (f_X6_plain_j92 x0 x1 ah) else (if v3 = 3 then ((gR ah x0 6 4).bind fun v13 => (gA ah v13 x1).bind fun v15 => some (v15 / 2, ah)) else (if v3 = 4 then ((gR ah x0 6 4).bind fun v17 => (gA ah v17 x1).bind fun v19 => some (v19 + 3, ah)) else (if v3 = 5 then ((gR ah x0 6 4).bind fun v21 => (gA ah v21 x1).bind fun v23 => if 4 ≤ v23 then ((gR ah x0 6 4).bind fun v25 => (gA ah v25 x1).bind fun v27 => some ((v27 / 2) - 1, ah)) else (some (0, ah))) else (f_X6_plain_j92 x0 x1 ah)))))
set_option maxRecDepth 100000 in
set_option maxHeartbeats 4000000 in
theorem k_X6_plain {l : Launch} {g : GX} (d : Nat) {Q : jQ} {x0 : Option Nat} {x1 : Int32} (ah : AH) (out : Int32 × AH) (h : f_X6_plain x0 x1 ah = some out) (hR : jRetI l g md_X6_plain (jRm (d + 0) md_X6_plain) Q (0, 0) out.1 out.2) : J l g md_X6_plain (jRm (d + 0) md_X6_plain) Q 0 [(0, .inr (.inr (.inl x0))), (1, .inl x1)] [] ah (0, 0) := by
  unfold f_X6_plain at h
  refine J_seg ok_X6_plain 0 1 (pc' := 1) (ls' := [(0, .inr (.inr (.inl x0))), (1, .inl x1)]) (st' := [.inr (.inr (.inl x0))]) rfl ?_
  obtain ⟨v1, h2, h⟩ := Option.bind_eq_some_iff.mp h
  refine J_getR (jat ok_X6_plain 1 (pc := 1) (i := .getfield 13) (n := 3) rfl rfl) fl_RX6_13 h2 ?_
  refine J_seg ok_X6_plain 2 1 (pc' := 5) (ls' := [(0, .inr (.inr (.inl x0))), (1, .inl x1)]) (st' := [.inl x1, .inr (.inr (.inl v1))]) rfl ?_
  obtain ⟨v3, h4, h⟩ := Option.bind_eq_some_iff.mp h
  refine J_iald (jat ok_X6_plain 3 (pc := 5) (i := .iaload) (n := 1) rfl rfl) h4 ?_
  by_cases c0 : v3 = 1
  · have h := (if_pos c0).symm.trans h
    refine J_tabIn sw_X6_plain_6 (off := 34) (tgt := 40) (by rw [c0]; decide) (by rw [c0]; decide) (by rw [c0]; decide) (by decide) ?_
    refine J_seg ok_X6_plain 4 1 (pc' := 41) (ls' := [(0, .inr (.inr (.inl x0))), (1, .inl x1)]) (st' := [.inr (.inr (.inl x0))]) rfl ?_
    obtain ⟨v5, h6, h⟩ := Option.bind_eq_some_iff.mp h
    refine J_getR (jat ok_X6_plain 5 (pc := 41) (i := .getfield 19) (n := 3) rfl rfl) fl_RX6_19 h6 ?_
    refine J_seg ok_X6_plain 6 1 (pc' := 45) (ls' := [(0, .inr (.inr (.inl x0))), (1, .inl x1)]) (st' := [.inl x1, .inr (.inr (.inl v5))]) rfl ?_
    obtain ⟨v7, h8, h⟩ := Option.bind_eq_some_iff.mp h
    refine J_iald (jat ok_X6_plain 7 (pc := 45) (i := .iaload) (n := 1) rfl rfl) h8 ?_
    refine J_seg ok_X6_plain 8 2 (pc' := 48) (ls' := [(0, .inr (.inr (.inl x0))), (1, .inl x1)]) (st' := [.inl (v7 + 1)]) rfl ?_
    have h := Option.some.inj h
    subst h
    exact hR _ _ (jat ok_X6_plain 10 (pc := 48) (i := .ireturn) (n := 1) rfl rfl)
  · have h := (if_neg c0).symm.trans h
    by_cases c1 : v3 = 2
    · have h := (if_pos c1).symm.trans h
      refine J_tabIn sw_X6_plain_6 (off := 86) (tgt := 92) (by rw [c1]; decide) (by rw [c1]; decide) (by rw [c1]; decide) (by decide) ?_
      refine J_sub (ls' := [(0, .inr (.inr (.inl x0))), (1, .inl x1)]) [0, 1] rfl ?_
      exact k_X6_plain_j92 d _ _ h hR
    · have h := (if_neg c1).symm.trans h
      by_cases c2 : v3 = 3
      · have h := (if_pos c2).symm.trans h
        refine J_tabIn sw_X6_plain_6 (off := 52) (tgt := 58) (by rw [c2]; decide) (by rw [c2]; decide) (by rw [c2]; decide) (by decide) ?_
        refine J_seg ok_X6_plain 18 1 (pc' := 59) (ls' := [(0, .inr (.inr (.inl x0))), (1, .inl x1)]) (st' := [.inr (.inr (.inl x0))]) rfl ?_
        obtain ⟨v13, h14, h⟩ := Option.bind_eq_some_iff.mp h
        refine J_getR (jat ok_X6_plain 19 (pc := 59) (i := .getfield 19) (n := 3) rfl rfl) fl_RX6_19 h14 ?_
        refine J_seg ok_X6_plain 20 1 (pc' := 63) (ls' := [(0, .inr (.inr (.inl x0))), (1, .inl x1)]) (st' := [.inl x1, .inr (.inr (.inl v13))]) rfl ?_
        obtain ⟨v15, h16, h⟩ := Option.bind_eq_some_iff.mp h
        refine J_iald (jat ok_X6_plain 21 (pc := 63) (i := .iaload) (n := 1) rfl rfl) h16 ?_
        refine J_seg ok_X6_plain 22 1 (pc' := 65) (ls' := [(0, .inr (.inr (.inl x0))), (1, .inl x1)]) (st' := [.inl 2, .inl v15]) rfl ?_
        refine J_idiv (jat ok_X6_plain 23 (pc := 65) (i := .idiv) (n := 1) rfl rfl) (by decide) ?_
        have h := Option.some.inj h
        subst h
        exact hR _ _ (jat ok_X6_plain 24 (pc := 66) (i := .ireturn) (n := 1) rfl rfl)
      · have h := (if_neg c2).symm.trans h
        by_cases c3 : v3 = 4
        · have h := (if_pos c3).symm.trans h
          refine J_tabIn sw_X6_plain_6 (off := 43) (tgt := 49) (by rw [c3]; decide) (by rw [c3]; decide) (by rw [c3]; decide) (by decide) ?_
          refine J_seg ok_X6_plain 11 1 (pc' := 50) (ls' := [(0, .inr (.inr (.inl x0))), (1, .inl x1)]) (st' := [.inr (.inr (.inl x0))]) rfl ?_
          obtain ⟨v17, h18, h⟩ := Option.bind_eq_some_iff.mp h
          refine J_getR (jat ok_X6_plain 12 (pc := 50) (i := .getfield 19) (n := 3) rfl rfl) fl_RX6_19 h18 ?_
          refine J_seg ok_X6_plain 13 1 (pc' := 54) (ls' := [(0, .inr (.inr (.inl x0))), (1, .inl x1)]) (st' := [.inl x1, .inr (.inr (.inl v17))]) rfl ?_
          obtain ⟨v19, h20, h⟩ := Option.bind_eq_some_iff.mp h
          refine J_iald (jat ok_X6_plain 14 (pc := 54) (i := .iaload) (n := 1) rfl rfl) h20 ?_
          refine J_seg ok_X6_plain 15 2 (pc' := 57) (ls' := [(0, .inr (.inr (.inl x0))), (1, .inl x1)]) (st' := [.inl (v19 + 3)]) rfl ?_
          have h := Option.some.inj h
          subst h
          exact hR _ _ (jat ok_X6_plain 17 (pc := 57) (i := .ireturn) (n := 1) rfl rfl)
        · have h := (if_neg c3).symm.trans h
          by_cases c4 : v3 = 5
          · have h := (if_pos c4).symm.trans h
            refine J_tabIn sw_X6_plain_6 (off := 61) (tgt := 67) (by rw [c4]; decide) (by rw [c4]; decide) (by rw [c4]; decide) (by decide) ?_
            refine J_seg ok_X6_plain 25 1 (pc' := 68) (ls' := [(0, .inr (.inr (.inl x0))), (1, .inl x1)]) (st' := [.inr (.inr (.inl x0))]) rfl ?_
            obtain ⟨v21, h22, h⟩ := Option.bind_eq_some_iff.mp h
            refine J_getR (jat ok_X6_plain 26 (pc := 68) (i := .getfield 19) (n := 3) rfl rfl) fl_RX6_19 h22 ?_
            refine J_seg ok_X6_plain 27 1 (pc' := 72) (ls' := [(0, .inr (.inr (.inl x0))), (1, .inl x1)]) (st' := [.inl x1, .inr (.inr (.inl v21))]) rfl ?_
            obtain ⟨v23, h24, h⟩ := Option.bind_eq_some_iff.mp h
            refine J_iald (jat ok_X6_plain 28 (pc := 72) (i := .iaload) (n := 1) rfl rfl) h24 ?_
            refine J_seg ok_X6_plain 29 1 (pc' := 74) (ls' := [(0, .inr (.inr (.inl x0))), (1, .inl x1)]) (st' := [.inl 4, .inl v23]) rfl ?_
            refine J_ge (jat ok_X6_plain 30 (pc := 74) (i := .if_icmp .ge 7) (n := 3) rfl rfl) (tgt := 81) (by decide) (fun c => ?_) (fun c => ?_)
            · have h := (if_pos c).symm.trans h
              refine J_seg ok_X6_plain 33 1 (pc' := 82) (ls' := [(0, .inr (.inr (.inl x0))), (1, .inl x1)]) (st' := [.inr (.inr (.inl x0))]) rfl ?_
              obtain ⟨v25, h26, h⟩ := Option.bind_eq_some_iff.mp h
              refine J_getR (jat ok_X6_plain 34 (pc := 82) (i := .getfield 19) (n := 3) rfl rfl) fl_RX6_19 h26 ?_
              refine J_seg ok_X6_plain 35 1 (pc' := 86) (ls' := [(0, .inr (.inr (.inl x0))), (1, .inl x1)]) (st' := [.inl x1, .inr (.inr (.inl v25))]) rfl ?_
              obtain ⟨v27, h28, h⟩ := Option.bind_eq_some_iff.mp h
              refine J_iald (jat ok_X6_plain 36 (pc := 86) (i := .iaload) (n := 1) rfl rfl) h28 ?_
              refine J_seg ok_X6_plain 37 1 (pc' := 88) (ls' := [(0, .inr (.inr (.inl x0))), (1, .inl x1)]) (st' := [.inl 2, .inl v27]) rfl ?_
              refine J_idiv (jat ok_X6_plain 38 (pc := 88) (i := .idiv) (n := 1) rfl rfl) (by decide) ?_
              refine J_seg ok_X6_plain 39 2 (pc' := 91) (ls' := [(0, .inr (.inr (.inl x0))), (1, .inl x1)]) (st' := [.inl ((v27 / 2) - 1)]) rfl ?_
              have h := Option.some.inj h
              subst h
              exact hR _ _ (jat ok_X6_plain 41 (pc := 91) (i := .ireturn) (n := 1) rfl rfl)
            · have h := (if_neg c).symm.trans h
              refine J_seg ok_X6_plain 31 2 (pc' := 91) (ls' := [(0, .inr (.inr (.inl x0))), (1, .inl x1)]) (st' := [.inl 0]) rfl ?_
              have h := Option.some.inj h
              subst h
              exact hR _ _ (jat ok_X6_plain 41 (pc := 91) (i := .ireturn) (n := 1) rfl rfl)
          · have h := (if_neg c4).symm.trans h
            have c0 := jtoInt_ne (n := 1) (by decide) c0
            have c1 := jtoInt_ne (n := 2) (by decide) c1
            have c2 := jtoInt_ne (n := 3) (by decide) c2
            have c3 := jtoInt_ne (n := 4) (by decide) c3
            have c4 := jtoInt_ne (n := 5) (by decide) c4
            refine J_tabOut sw_X6_plain_6 (tgt := 92) (by omega) (by decide) ?_
            refine J_sub (ls' := [(0, .inr (.inr (.inl x0))), (1, .inl x1)]) [0, 1] rfl ?_
            exact k_X6_plain_j92 d _ _ h hR
theorem c_X6_plain (l : Launch) (g : GX) (d : Nat) {x0 : Option Nat} {x1 : Int32} {ah : AH} {q : Int32 × AH} (h : f_X6_plain x0 x1 ah = some q) : jM l g (d + 0) md_X6_plain [.inr (.inr (.inl x0)), .inl x1] ah (some (.inl q.1)) q.2 :=
  jM_of (by decide) (Nat.le_of_ble_eq_true rfl) (k_X6_plain d ah q h (fun pc ls hd => J_reti hd rfl (jPV_int _) rfl (Nat.le_refl _) rfl rfl))
def f_X6_strengthOf_j20 (x0 : Option Nat) (x1 : Int32) (x2 : Int32) (y0 : Int32) (y1 : Int32) (ah : AH) : Option (Int32 × AH) :=
  if (y1 - y0) < 0 then (some (0, ah)) else ((gR ah x0 6 5).bind fun v8 => (gA ah v8 x1).bind fun v10 => (f_X6_has v10 x2 ah).bind fun q12 => if q12.1 = 0 then (some (y1 - y0, q12.2)) else (some (0, q12.2)))
set_option maxRecDepth 100000 in
set_option maxHeartbeats 4000000 in
theorem k_X6_strengthOf_j20 {l : Launch} {g : GX} (d : Nat) {Q : jQ} {x0 : Option Nat} {x1 : Int32} {x2 : Int32} {y0 : Int32} {y1 : Int32} (ah : AH) (out : Int32 × AH) (h : f_X6_strengthOf_j20 x0 x1 x2 y0 y1 ah = some out) (hR : jRetI l g md_X6_strengthOf (jRm (d + 1) md_X6_strengthOf) Q (0, 0) out.1 out.2) : J l g md_X6_strengthOf (jRm (d + 1) md_X6_strengthOf) Q 20 [(0, .inr (.inr (.inl x0))), (1, .inl x1), (2, .inl x2)] [.inl y0, .inl y1] ah (0, 0) := by
  unfold f_X6_strengthOf_j20 at h
  refine J_seg ok_X6_strengthOf 12 3 (pc' := 23) (ls' := [(3, .inl (y1 - y0)), (0, .inr (.inr (.inl x0))), (1, .inl x1), (2, .inl x2)]) (st' := [.inl (y1 - y0)]) rfl ?_
  refine J_lt0 (jat ok_X6_strengthOf 15 (pc := 23) (i := .ifCond .lt 16) (n := 3) rfl rfl) (tgt := 39) (by decide) (fun c => ?_) (fun c => ?_)
  · have h := (if_pos c).symm.trans h
    refine J_seg ok_X6_strengthOf 23 2 (pc' := 44) (ls' := [(3, .inl (y1 - y0)), (0, .inr (.inr (.inl x0))), (1, .inl x1), (2, .inl x2)]) (st' := [.inl 0]) rfl ?_
    have h := Option.some.inj h
    subst h
    exact hR _ _ (jat ok_X6_strengthOf 26 (pc := 44) (i := .ireturn) (n := 1) rfl rfl)
  · have h := (if_neg c).symm.trans h
    refine J_seg ok_X6_strengthOf 16 1 (pc' := 27) (ls' := [(3, .inl (y1 - y0)), (0, .inr (.inr (.inl x0))), (1, .inl x1), (2, .inl x2)]) (st' := [.inr (.inr (.inl x0))]) rfl ?_
    obtain ⟨v8, h9, h⟩ := Option.bind_eq_some_iff.mp h
    refine J_getR (jat ok_X6_strengthOf 17 (pc := 27) (i := .getfield 22) (n := 3) rfl rfl) fl_RX6_22 h9 ?_
    refine J_seg ok_X6_strengthOf 18 1 (pc' := 31) (ls' := [(3, .inl (y1 - y0)), (0, .inr (.inr (.inl x0))), (1, .inl x1), (2, .inl x2)]) (st' := [.inl x1, .inr (.inr (.inl v8))]) rfl ?_
    obtain ⟨v10, h11, h⟩ := Option.bind_eq_some_iff.mp h
    refine J_iald (jat ok_X6_strengthOf 19 (pc := 31) (i := .iaload) (n := 1) rfl rfl) h11 ?_
    refine J_seg ok_X6_strengthOf 20 1 (pc' := 33) (ls' := [(3, .inl (y1 - y0)), (0, .inr (.inr (.inl x0))), (1, .inl x1), (2, .inl x2)]) (st' := [.inl x2, .inl v10]) rfl ?_
    obtain ⟨q12, h13, h⟩ := Option.bind_eq_some_iff.mp h
    refine J_callS (md' := md_X6_has) (As := [.inl v10, .inl x2]) (st := []) (cs' := (0, 0)) (st' := [.inl q12.1]) (jat ok_X6_strengthOf 21 (pc := 33) (i := .invokestatic 128) (n := 3) rfl rfl) (Or.inl ml_RX6_128) ys_X6_has (c_X6_has l g (d + 0) h13) (jRo_of (by decide)) (Nat.le_of_ble_eq_true rfl) ⟨Nat.le_of_ble_eq_true rfl, Nat.le_of_ble_eq_true rfl⟩ rfl rfl rfl ?_
    refine J_eq0 (jat ok_X6_strengthOf 22 (pc := 36) (i := .ifCond .eq 7) (n := 3) rfl rfl) (tgt := 43) (by decide) (fun c => ?_) (fun c => ?_)
    · have h := (if_pos c).symm.trans h
      refine J_seg ok_X6_strengthOf 25 1 (pc' := 44) (ls' := [(3, .inl (y1 - y0)), (0, .inr (.inr (.inl x0))), (1, .inl x1), (2, .inl x2)]) (st' := [.inl (y1 - y0)]) rfl ?_
      have h := Option.some.inj h
      subst h
      exact hR _ _ (jat ok_X6_strengthOf 26 (pc := 44) (i := .ireturn) (n := 1) rfl rfl)
    · have h := (if_neg c).symm.trans h
      refine J_seg ok_X6_strengthOf 23 2 (pc' := 44) (ls' := [(3, .inl (y1 - y0)), (0, .inr (.inr (.inl x0))), (1, .inl x1), (2, .inl x2)]) (st' := [.inl 0]) rfl ?_
      have h := Option.some.inj h
      subst h
      exact hR _ _ (jat ok_X6_strengthOf 26 (pc := 44) (i := .ireturn) (n := 1) rfl rfl)
def f_X6_strengthOf (x0 : Option Nat) (x1 : Int32) (x2 : Int32) (ah : AH) : Option (Int32 × AH) :=
  if qO ah x0 6 = true then ((f_X6_plain x0 x1 ah).bind fun q1 => (gR q1.2 x0 6 2).bind fun v4 => (gA q1.2 v4 x2).bind fun v6 => if v6 = 2 then (f_X6_strengthOf_j20 x0 x1 x2 1 q1.1 q1.2) else (f_X6_strengthOf_j20 x0 x1 x2 0 q1.1 q1.2)) else none
set_option maxRecDepth 100000 in
set_option maxHeartbeats 4000000 in
theorem k_X6_strengthOf {l : Launch} {g : GX} (d : Nat) {Q : jQ} {x0 : Option Nat} {x1 : Int32} {x2 : Int32} (ah : AH) (out : Int32 × AH) (h : f_X6_strengthOf x0 x1 x2 ah = some out) (hR : jRetI l g md_X6_strengthOf (jRm (d + 1) md_X6_strengthOf) Q (0, 0) out.1 out.2) : J l g md_X6_strengthOf (jRm (d + 1) md_X6_strengthOf) Q 0 [(0, .inr (.inr (.inl x0))), (1, .inl x1), (2, .inl x2)] [] ah (0, 0) := by
  unfold f_X6_strengthOf at h
  refine J_seg ok_X6_strengthOf 0 2 (pc' := 2) (ls' := [(0, .inr (.inr (.inl x0))), (1, .inl x1), (2, .inl x2)]) (st' := [.inl x1, .inr (.inr (.inl x0))]) rfl ?_
  by_cases c3 : qO ah x0 6 = true
  case neg => exact absurd ((if_neg c3).symm.trans h) (by simp)
  have h := (if_pos c3).symm.trans h
  obtain ⟨q1, h2, h⟩ := Option.bind_eq_some_iff.mp h
  refine J_callV (md' := md_X6_plain) (As := [.inl x1]) (st := []) (cs' := (0, 0)) (st' := [.inl q1.1]) (jat ok_X6_strengthOf 2 (pc := 2) (i := .invokevirtual 160) (n := 3) rfl rfl) ml_RX6_160 yv_X6_plain c3 (c_X6_plain l g (d + 0) h2) (jRo_of (by decide)) (Nat.le_of_ble_eq_true rfl) ⟨Nat.le_of_ble_eq_true rfl, Nat.le_of_ble_eq_true rfl⟩ rfl rfl rfl ?_
  refine J_seg ok_X6_strengthOf 3 1 (pc' := 6) (ls' := [(0, .inr (.inr (.inl x0))), (1, .inl x1), (2, .inl x2)]) (st' := [.inr (.inr (.inl x0)), .inl q1.1]) rfl ?_
  obtain ⟨v4, h5, h⟩ := Option.bind_eq_some_iff.mp h
  refine J_getR (jat ok_X6_strengthOf 4 (pc := 6) (i := .getfield 13) (n := 3) rfl rfl) fl_RX6_13 h5 ?_
  refine J_seg ok_X6_strengthOf 5 1 (pc' := 10) (ls' := [(0, .inr (.inr (.inl x0))), (1, .inl x1), (2, .inl x2)]) (st' := [.inl x2, .inr (.inr (.inl v4)), .inl q1.1]) rfl ?_
  obtain ⟨v6, h7, h⟩ := Option.bind_eq_some_iff.mp h
  refine J_iald (jat ok_X6_strengthOf 6 (pc := 10) (i := .iaload) (n := 1) rfl rfl) h7 ?_
  refine J_seg ok_X6_strengthOf 7 1 (pc' := 12) (ls' := [(0, .inr (.inr (.inl x0))), (1, .inl x1), (2, .inl x2)]) (st' := [.inl 2, .inl v6, .inl q1.1]) rfl ?_
  refine J_ne (jat ok_X6_strengthOf 8 (pc := 12) (i := .if_icmp .ne 7) (n := 3) rfl rfl) (tgt := 19) (by decide) (fun c => ?_) (fun c => ?_)
  · have h := (if_neg c).symm.trans h
    refine J_seg ok_X6_strengthOf 11 1 (pc' := 20) (ls' := [(0, .inr (.inr (.inl x0))), (1, .inl x1), (2, .inl x2)]) (st' := [.inl 0, .inl q1.1]) rfl ?_
    refine J_sub (ls' := [(0, .inr (.inr (.inl x0))), (1, .inl x1), (2, .inl x2)]) [0, 1, 2] rfl ?_
    exact k_X6_strengthOf_j20 d _ _ h hR
  · have h := (if_pos c).symm.trans h
    refine J_seg ok_X6_strengthOf 9 2 (pc' := 20) (ls' := [(0, .inr (.inr (.inl x0))), (1, .inl x1), (2, .inl x2)]) (st' := [.inl 1, .inl q1.1]) rfl ?_
    refine J_sub (ls' := [(0, .inr (.inr (.inl x0))), (1, .inl x1), (2, .inl x2)]) [0, 1, 2] rfl ?_
    exact k_X6_strengthOf_j20 d _ _ h hR
theorem c_X6_strengthOf (l : Launch) (g : GX) (d : Nat) {x0 : Option Nat} {x1 : Int32} {x2 : Int32} {ah : AH} {q : Int32 × AH} (h : f_X6_strengthOf x0 x1 x2 ah = some q) : jM l g (d + 1) md_X6_strengthOf [.inr (.inr (.inl x0)), .inl x1, .inl x2] ah (some (.inl q.1)) q.2 :=
  jM_of (by decide) (Nat.le_of_ble_eq_true rfl) (k_X6_strengthOf d ah q h (fun pc ls hd => J_reti hd rfl (jPV_int _) rfl (Nat.le_refl _) rfl rfl))
def f_X6_against (x0 : Option Nat) (x1 : Int32) (ah : AH) : Option (Int32 × AH) :=
  if qO ah x0 6 = true then ((f_X6_foe x0 x1 ah).bind fun q1 => if q1.1 = (-9) then (some (0, q1.2)) else (if qO q1.2 x0 6 = true then ((f_X6_strengthOf x0 q1.1 x1 q1.2).bind fun q4 => some (q4.1, q4.2)) else none)) else none
set_option maxRecDepth 100000 in
set_option maxHeartbeats 4000000 in
theorem k_X6_against {l : Launch} {g : GX} (d : Nat) {Q : jQ} {x0 : Option Nat} {x1 : Int32} (ah : AH) (out : Int32 × AH) (h : f_X6_against x0 x1 ah = some out) (hR : jRetI l g md_X6_against (jRm (d + 2) md_X6_against) Q (0, 0) out.1 out.2) : J l g md_X6_against (jRm (d + 2) md_X6_against) Q 0 [(0, .inr (.inr (.inl x0))), (1, .inl x1)] [] ah (0, 0) := by
  unfold f_X6_against at h
  refine J_seg ok_X6_against 0 2 (pc' := 2) (ls' := [(0, .inr (.inr (.inl x0))), (1, .inl x1)]) (st' := [.inl x1, .inr (.inr (.inl x0))]) rfl ?_
  by_cases c3 : qO ah x0 6 = true
  case neg => exact absurd ((if_neg c3).symm.trans h) (by simp)
  have h := (if_pos c3).symm.trans h
  obtain ⟨q1, h2, h⟩ := Option.bind_eq_some_iff.mp h
  refine J_callV (md' := md_X6_foe) (As := [.inl x1]) (st := []) (cs' := (0, 0)) (st' := [.inl q1.1]) (jat ok_X6_against 2 (pc := 2) (i := .invokevirtual 163) (n := 3) rfl rfl) ml_RX6_163 yv_X6_foe c3 (c_X6_foe l g (d + 0) h2) (jRo_of (by decide)) (Nat.le_of_ble_eq_true rfl) ⟨Nat.le_of_ble_eq_true rfl, Nat.le_of_ble_eq_true rfl⟩ rfl rfl rfl ?_
  refine J_seg ok_X6_against 3 3 (pc' := 9) (ls' := [(2, .inl q1.1), (0, .inr (.inr (.inl x0))), (1, .inl x1)]) (st' := [.inl (-9), .inl q1.1]) rfl ?_
  refine J_ne (jat ok_X6_against 6 (pc := 9) (i := .if_icmp .ne 7) (n := 3) rfl rfl) (tgt := 16) (by decide) (fun c => ?_) (fun c => ?_)
  · have h := (if_neg c).symm.trans h
    refine J_seg ok_X6_against 9 3 (pc' := 19) (ls' := [(2, .inl q1.1), (0, .inr (.inr (.inl x0))), (1, .inl x1)]) (st' := [.inl x1, .inl q1.1, .inr (.inr (.inl x0))]) rfl ?_
    by_cases c6 : qO q1.2 x0 6 = true
    case neg => exact absurd ((if_neg c6).symm.trans h) (by simp)
    have h := (if_pos c6).symm.trans h
    obtain ⟨q4, h5, h⟩ := Option.bind_eq_some_iff.mp h
    refine J_callV (md' := md_X6_strengthOf) (As := [.inl q1.1, .inl x1]) (st := []) (cs' := (0, 0)) (st' := [.inl q4.1]) (jat ok_X6_against 12 (pc := 19) (i := .invokevirtual 166) (n := 3) rfl rfl) ml_RX6_166 yv_X6_strengthOf c6 (c_X6_strengthOf l g (d + 0) h5) (jRo_of (by decide)) (Nat.le_of_ble_eq_true rfl) ⟨Nat.le_of_ble_eq_true rfl, Nat.le_of_ble_eq_true rfl⟩ rfl rfl rfl ?_
    have h := Option.some.inj h
    subst h
    exact hR _ _ (jat ok_X6_against 13 (pc := 22) (i := .ireturn) (n := 1) rfl rfl)
  · have h := (if_pos c).symm.trans h
    refine J_seg ok_X6_against 7 2 (pc' := 22) (ls' := [(2, .inl q1.1), (0, .inr (.inr (.inl x0))), (1, .inl x1)]) (st' := [.inl 0]) rfl ?_
    have h := Option.some.inj h
    subst h
    exact hR _ _ (jat ok_X6_against 13 (pc := 22) (i := .ireturn) (n := 1) rfl rfl)
theorem c_X6_against (l : Launch) (g : GX) (d : Nat) {x0 : Option Nat} {x1 : Int32} {ah : AH} {q : Int32 × AH} (h : f_X6_against x0 x1 ah = some q) : jM l g (d + 2) md_X6_against [.inr (.inr (.inl x0)), .inl x1] ah (some (.inl q.1)) q.2 :=
  jM_of (by decide) (Nat.le_of_ble_eq_true rfl) (k_X6_against d ah q h (fun pc ls hd => J_reti hd rfl (jPV_int _) rfl (Nat.le_refl _) rfl rfl))
def f_X6_toldOf (x0 : Option Nat) (x1 : Int32) (x2 : Int32) (ah : AH) : Option (Int32 × AH) :=
  if x2 = 0 then ((gR ah x0 6 2).bind fun v1 => (gA ah v1 x1).bind fun v3 => some (v3, ah)) else (if x2 = 1 then ((gR ah x0 6 3).bind fun v5 => (gA ah v5 x1).bind fun v7 => some (v7, ah)) else (if x2 = 2 then ((gR ah x0 6 4).bind fun v9 => (gA ah v9 x1).bind fun v11 => some (v11, ah)) else (if x2 = 3 then (if qO ah x0 6 = true then ((f_X6_victim x0 x1 ah).bind fun q13 => some (q13.1, q13.2)) else none) else (if x2 = 4 then (if qO ah x0 6 = true then ((f_X6_foe x0 x1 ah).bind fun q16 => some (q16.1, q16.2)) else none) else (if x2 = 5 then ((gR ah x0 6 0).bind fun v19 => (gA ah v19 (7 + x1)).bind fun v21 => some (v21, ah)) else (if x2 = 6 then ((gR ah x0 6 0).bind fun v23 => (gA ah v23 (13 + x1)).bind fun v25 => some (v25, ah)) else (if x2 = 7 then (if qO ah x0 6 = true then ((f_X6_isReached x0 x1 ah).bind fun q27 => if q27.1 = 0 then (some (0, q27.2)) else (some (1, q27.2))) else none) else ((gR ah x0 6 5).bind fun v30 => (gA ah v30 x1).bind fun v32 => some (v32, ah)))))))))
set_option maxRecDepth 100000 in
set_option maxHeartbeats 4000000 in
theorem k_X6_toldOf {l : Launch} {g : GX} (d : Nat) {Q : jQ} {x0 : Option Nat} {x1 : Int32} {x2 : Int32} (ah : AH) (out : Int32 × AH) (h : f_X6_toldOf x0 x1 x2 ah = some out) (hR : jRetI l g md_X6_toldOf (jRm (d + 2) md_X6_toldOf) Q (0, 0) out.1 out.2) : J l g md_X6_toldOf (jRm (d + 2) md_X6_toldOf) Q 0 [(0, .inr (.inr (.inl x0))), (1, .inl x1), (2, .inl x2)] [] ah (0, 0) := by
  unfold f_X6_toldOf at h
  refine J_seg ok_X6_toldOf 0 1 (pc' := 1) (ls' := [(0, .inr (.inr (.inl x0))), (1, .inl x1), (2, .inl x2)]) (st' := [.inl x2]) rfl ?_
  by_cases c0 : x2 = 0
  · have h := (if_pos c0).symm.trans h
    refine J_tabIn sw_X6_toldOf_1 (off := 47) (tgt := 48) (by rw [c0]; decide) (by rw [c0]; decide) (by rw [c0]; decide) (by decide) ?_
    refine J_seg ok_X6_toldOf 1 1 (pc' := 49) (ls' := [(0, .inr (.inr (.inl x0))), (1, .inl x1), (2, .inl x2)]) (st' := [.inr (.inr (.inl x0))]) rfl ?_
    obtain ⟨v1, h2, h⟩ := Option.bind_eq_some_iff.mp h
    refine J_getR (jat ok_X6_toldOf 2 (pc := 49) (i := .getfield 13) (n := 3) rfl rfl) fl_RX6_13 h2 ?_
    refine J_seg ok_X6_toldOf 3 1 (pc' := 53) (ls' := [(0, .inr (.inr (.inl x0))), (1, .inl x1), (2, .inl x2)]) (st' := [.inl x1, .inr (.inr (.inl v1))]) rfl ?_
    obtain ⟨v3, h4, h⟩ := Option.bind_eq_some_iff.mp h
    refine J_iald (jat ok_X6_toldOf 4 (pc := 53) (i := .iaload) (n := 1) rfl rfl) h4 ?_
    have h := Option.some.inj h
    subst h
    exact hR _ _ (jat ok_X6_toldOf 5 (pc := 54) (i := .ireturn) (n := 1) rfl rfl)
  · have h := (if_neg c0).symm.trans h
    by_cases c1 : x2 = 1
    · have h := (if_pos c1).symm.trans h
      refine J_tabIn sw_X6_toldOf_1 (off := 54) (tgt := 55) (by rw [c1]; decide) (by rw [c1]; decide) (by rw [c1]; decide) (by decide) ?_
      refine J_seg ok_X6_toldOf 6 1 (pc' := 56) (ls' := [(0, .inr (.inr (.inl x0))), (1, .inl x1), (2, .inl x2)]) (st' := [.inr (.inr (.inl x0))]) rfl ?_
      obtain ⟨v5, h6, h⟩ := Option.bind_eq_some_iff.mp h
      refine J_getR (jat ok_X6_toldOf 7 (pc := 56) (i := .getfield 16) (n := 3) rfl rfl) fl_RX6_16 h6 ?_
      refine J_seg ok_X6_toldOf 8 1 (pc' := 60) (ls' := [(0, .inr (.inr (.inl x0))), (1, .inl x1), (2, .inl x2)]) (st' := [.inl x1, .inr (.inr (.inl v5))]) rfl ?_
      obtain ⟨v7, h8, h⟩ := Option.bind_eq_some_iff.mp h
      refine J_iald (jat ok_X6_toldOf 9 (pc := 60) (i := .iaload) (n := 1) rfl rfl) h8 ?_
      have h := Option.some.inj h
      subst h
      exact hR _ _ (jat ok_X6_toldOf 10 (pc := 61) (i := .ireturn) (n := 1) rfl rfl)
    · have h := (if_neg c1).symm.trans h
      by_cases c2 : x2 = 2
      · have h := (if_pos c2).symm.trans h
        refine J_tabIn sw_X6_toldOf_1 (off := 61) (tgt := 62) (by rw [c2]; decide) (by rw [c2]; decide) (by rw [c2]; decide) (by decide) ?_
        refine J_seg ok_X6_toldOf 11 1 (pc' := 63) (ls' := [(0, .inr (.inr (.inl x0))), (1, .inl x1), (2, .inl x2)]) (st' := [.inr (.inr (.inl x0))]) rfl ?_
        obtain ⟨v9, h10, h⟩ := Option.bind_eq_some_iff.mp h
        refine J_getR (jat ok_X6_toldOf 12 (pc := 63) (i := .getfield 19) (n := 3) rfl rfl) fl_RX6_19 h10 ?_
        refine J_seg ok_X6_toldOf 13 1 (pc' := 67) (ls' := [(0, .inr (.inr (.inl x0))), (1, .inl x1), (2, .inl x2)]) (st' := [.inl x1, .inr (.inr (.inl v9))]) rfl ?_
        obtain ⟨v11, h12, h⟩ := Option.bind_eq_some_iff.mp h
        refine J_iald (jat ok_X6_toldOf 14 (pc := 67) (i := .iaload) (n := 1) rfl rfl) h12 ?_
        have h := Option.some.inj h
        subst h
        exact hR _ _ (jat ok_X6_toldOf 15 (pc := 68) (i := .ireturn) (n := 1) rfl rfl)
      · have h := (if_neg c2).symm.trans h
        by_cases c3 : x2 = 3
        · have h := (if_pos c3).symm.trans h
          refine J_tabIn sw_X6_toldOf_1 (off := 68) (tgt := 69) (by rw [c3]; decide) (by rw [c3]; decide) (by rw [c3]; decide) (by decide) ?_
          refine J_seg ok_X6_toldOf 16 2 (pc' := 71) (ls' := [(0, .inr (.inr (.inl x0))), (1, .inl x1), (2, .inl x2)]) (st' := [.inl x1, .inr (.inr (.inl x0))]) rfl ?_
          by_cases c15 : qO ah x0 6 = true
          case neg => exact absurd ((if_neg c15).symm.trans h) (by simp)
          have h := (if_pos c15).symm.trans h
          obtain ⟨q13, h14, h⟩ := Option.bind_eq_some_iff.mp h
          refine J_callV (md' := md_X6_victim) (As := [.inl x1]) (st := []) (cs' := (0, 0)) (st' := [.inl q13.1]) (jat ok_X6_toldOf 18 (pc := 71) (i := .invokevirtual 157) (n := 3) rfl rfl) ml_RX6_157 yv_X6_victim c15 (c_X6_victim l g (d + 1) h14) (jRo_of (by decide)) (Nat.le_of_ble_eq_true rfl) ⟨Nat.le_of_ble_eq_true rfl, Nat.le_of_ble_eq_true rfl⟩ rfl rfl rfl ?_
          have h := Option.some.inj h
          subst h
          exact hR _ _ (jat ok_X6_toldOf 19 (pc := 74) (i := .ireturn) (n := 1) rfl rfl)
        · have h := (if_neg c3).symm.trans h
          by_cases c4 : x2 = 4
          · have h := (if_pos c4).symm.trans h
            refine J_tabIn sw_X6_toldOf_1 (off := 74) (tgt := 75) (by rw [c4]; decide) (by rw [c4]; decide) (by rw [c4]; decide) (by decide) ?_
            refine J_seg ok_X6_toldOf 20 2 (pc' := 77) (ls' := [(0, .inr (.inr (.inl x0))), (1, .inl x1), (2, .inl x2)]) (st' := [.inl x1, .inr (.inr (.inl x0))]) rfl ?_
            by_cases c18 : qO ah x0 6 = true
            case neg => exact absurd ((if_neg c18).symm.trans h) (by simp)
            have h := (if_pos c18).symm.trans h
            obtain ⟨q16, h17, h⟩ := Option.bind_eq_some_iff.mp h
            refine J_callV (md' := md_X6_foe) (As := [.inl x1]) (st := []) (cs' := (0, 0)) (st' := [.inl q16.1]) (jat ok_X6_toldOf 22 (pc := 77) (i := .invokevirtual 163) (n := 3) rfl rfl) ml_RX6_163 yv_X6_foe c18 (c_X6_foe l g (d + 0) h17) (jRo_of (by decide)) (Nat.le_of_ble_eq_true rfl) ⟨Nat.le_of_ble_eq_true rfl, Nat.le_of_ble_eq_true rfl⟩ rfl rfl rfl ?_
            have h := Option.some.inj h
            subst h
            exact hR _ _ (jat ok_X6_toldOf 23 (pc := 80) (i := .ireturn) (n := 1) rfl rfl)
          · have h := (if_neg c4).symm.trans h
            by_cases c5 : x2 = 5
            · have h := (if_pos c5).symm.trans h
              refine J_tabIn sw_X6_toldOf_1 (off := 80) (tgt := 81) (by rw [c5]; decide) (by rw [c5]; decide) (by rw [c5]; decide) (by decide) ?_
              refine J_seg ok_X6_toldOf 24 1 (pc' := 82) (ls' := [(0, .inr (.inr (.inl x0))), (1, .inl x1), (2, .inl x2)]) (st' := [.inr (.inr (.inl x0))]) rfl ?_
              obtain ⟨v19, h20, h⟩ := Option.bind_eq_some_iff.mp h
              refine J_getR (jat ok_X6_toldOf 25 (pc := 82) (i := .getfield 7) (n := 3) rfl rfl) fl_RX6_7 h20 ?_
              refine J_seg ok_X6_toldOf 26 3 (pc' := 89) (ls' := [(0, .inr (.inr (.inl x0))), (1, .inl x1), (2, .inl x2)]) (st' := [.inl (7 + x1), .inr (.inr (.inl v19))]) rfl ?_
              obtain ⟨v21, h22, h⟩ := Option.bind_eq_some_iff.mp h
              refine J_iald (jat ok_X6_toldOf 29 (pc := 89) (i := .iaload) (n := 1) rfl rfl) h22 ?_
              have h := Option.some.inj h
              subst h
              exact hR _ _ (jat ok_X6_toldOf 30 (pc := 90) (i := .ireturn) (n := 1) rfl rfl)
            · have h := (if_neg c5).symm.trans h
              by_cases c6 : x2 = 6
              · have h := (if_pos c6).symm.trans h
                refine J_tabIn sw_X6_toldOf_1 (off := 90) (tgt := 91) (by rw [c6]; decide) (by rw [c6]; decide) (by rw [c6]; decide) (by decide) ?_
                refine J_seg ok_X6_toldOf 31 1 (pc' := 92) (ls' := [(0, .inr (.inr (.inl x0))), (1, .inl x1), (2, .inl x2)]) (st' := [.inr (.inr (.inl x0))]) rfl ?_
                obtain ⟨v23, h24, h⟩ := Option.bind_eq_some_iff.mp h
                refine J_getR (jat ok_X6_toldOf 32 (pc := 92) (i := .getfield 7) (n := 3) rfl rfl) fl_RX6_7 h24 ?_
                refine J_seg ok_X6_toldOf 33 3 (pc' := 99) (ls' := [(0, .inr (.inr (.inl x0))), (1, .inl x1), (2, .inl x2)]) (st' := [.inl (13 + x1), .inr (.inr (.inl v23))]) rfl ?_
                obtain ⟨v25, h26, h⟩ := Option.bind_eq_some_iff.mp h
                refine J_iald (jat ok_X6_toldOf 36 (pc := 99) (i := .iaload) (n := 1) rfl rfl) h26 ?_
                have h := Option.some.inj h
                subst h
                exact hR _ _ (jat ok_X6_toldOf 37 (pc := 100) (i := .ireturn) (n := 1) rfl rfl)
              · have h := (if_neg c6).symm.trans h
                by_cases c7 : x2 = 7
                · have h := (if_pos c7).symm.trans h
                  refine J_tabIn sw_X6_toldOf_1 (off := 100) (tgt := 101) (by rw [c7]; decide) (by rw [c7]; decide) (by rw [c7]; decide) (by decide) ?_
                  refine J_seg ok_X6_toldOf 38 2 (pc' := 103) (ls' := [(0, .inr (.inr (.inl x0))), (1, .inl x1), (2, .inl x2)]) (st' := [.inl x1, .inr (.inr (.inl x0))]) rfl ?_
                  by_cases c29 : qO ah x0 6 = true
                  case neg => exact absurd ((if_neg c29).symm.trans h) (by simp)
                  have h := (if_pos c29).symm.trans h
                  obtain ⟨q27, h28, h⟩ := Option.bind_eq_some_iff.mp h
                  refine J_callV (md' := md_X6_isReached) (As := [.inl x1]) (st := []) (cs' := (0, 0)) (st' := [.inl q27.1]) (jat ok_X6_toldOf 40 (pc := 103) (i := .invokevirtual 169) (n := 3) rfl rfl) ml_RX6_169 yv_X6_isReached c29 (c_X6_isReached l g (d + 0) h28) (jRo_of (by decide)) (Nat.le_of_ble_eq_true rfl) ⟨Nat.le_of_ble_eq_true rfl, Nat.le_of_ble_eq_true rfl⟩ rfl rfl rfl ?_
                  refine J_eq0 (jat ok_X6_toldOf 41 (pc := 106) (i := .ifCond .eq 7) (n := 3) rfl rfl) (tgt := 113) (by decide) (fun c => ?_) (fun c => ?_)
                  · have h := (if_pos c).symm.trans h
                    refine J_seg ok_X6_toldOf 44 1 (pc' := 114) (ls' := [(0, .inr (.inr (.inl x0))), (1, .inl x1), (2, .inl x2)]) (st' := [.inl 0]) rfl ?_
                    have h := Option.some.inj h
                    subst h
                    exact hR _ _ (jat ok_X6_toldOf 45 (pc := 114) (i := .ireturn) (n := 1) rfl rfl)
                  · have h := (if_neg c).symm.trans h
                    refine J_seg ok_X6_toldOf 42 2 (pc' := 114) (ls' := [(0, .inr (.inr (.inl x0))), (1, .inl x1), (2, .inl x2)]) (st' := [.inl 1]) rfl ?_
                    have h := Option.some.inj h
                    subst h
                    exact hR _ _ (jat ok_X6_toldOf 45 (pc := 114) (i := .ireturn) (n := 1) rfl rfl)
                · have h := (if_neg c7).symm.trans h
                  have c0 := jtoInt_ne (n := 0) (by decide) c0
                  have c1 := jtoInt_ne (n := 1) (by decide) c1
                  have c2 := jtoInt_ne (n := 2) (by decide) c2
                  have c3 := jtoInt_ne (n := 3) (by decide) c3
                  have c4 := jtoInt_ne (n := 4) (by decide) c4
                  have c5 := jtoInt_ne (n := 5) (by decide) c5
                  have c6 := jtoInt_ne (n := 6) (by decide) c6
                  have c7 := jtoInt_ne (n := 7) (by decide) c7
                  refine J_tabOut sw_X6_toldOf_1 (tgt := 115) (by omega) (by decide) ?_
                  refine J_seg ok_X6_toldOf 46 1 (pc' := 116) (ls' := [(0, .inr (.inr (.inl x0))), (1, .inl x1), (2, .inl x2)]) (st' := [.inr (.inr (.inl x0))]) rfl ?_
                  obtain ⟨v30, h31, h⟩ := Option.bind_eq_some_iff.mp h
                  refine J_getR (jat ok_X6_toldOf 47 (pc := 116) (i := .getfield 22) (n := 3) rfl rfl) fl_RX6_22 h31 ?_
                  refine J_seg ok_X6_toldOf 48 1 (pc' := 120) (ls' := [(0, .inr (.inr (.inl x0))), (1, .inl x1), (2, .inl x2)]) (st' := [.inl x1, .inr (.inr (.inl v30))]) rfl ?_
                  obtain ⟨v32, h33, h⟩ := Option.bind_eq_some_iff.mp h
                  refine J_iald (jat ok_X6_toldOf 49 (pc := 120) (i := .iaload) (n := 1) rfl rfl) h33 ?_
                  have h := Option.some.inj h
                  subst h
                  exact hR _ _ (jat ok_X6_toldOf 50 (pc := 121) (i := .ireturn) (n := 1) rfl rfl)
theorem c_X6_toldOf (l : Launch) (g : GX) (d : Nat) {x0 : Option Nat} {x1 : Int32} {x2 : Int32} {ah : AH} {q : Int32 × AH} (h : f_X6_toldOf x0 x1 x2 ah = some q) : jM l g (d + 2) md_X6_toldOf [.inr (.inr (.inl x0)), .inl x1, .inl x2] ah (some (.inl q.1)) q.2 :=
  jM_of (by decide) (Nat.le_of_ble_eq_true rfl) (k_X6_toldOf d ah q h (fun pc ls hd => J_reti hd rfl (jPV_int _) rfl (Nat.le_refl _) rfl rfl))
def f_X6_person (x0 : Option Nat) (x1 : Int32) (x2 : Int32) (ah : AH) : Option (Int32 × AH) :=
  if qO ah x0 6 = true then ((f_X6_isPerson x0 x1 ah).bind fun q1 => if q1.1 = 0 then (some ((-1), q1.2)) else ((f_X6_in (Int32.toInt64 x2) 0 8 q1.2).bind fun q4 => if q4.1 = 0 then (some ((-1), q4.2)) else (if qO q4.2 x0 6 = true then ((f_X6_toldOf x0 x1 x2 q4.2).bind fun q6 => if qO q6.2 x0 6 = true then ((f_X6_tell x0 q6.1 q6.2).bind fun q9 => some (q9.1, q9.2)) else none) else none))) else none
set_option maxRecDepth 100000 in
set_option maxHeartbeats 4000000 in
theorem k_X6_person {l : Launch} {g : GX} (d : Nat) {Q : jQ} {x0 : Option Nat} {x1 : Int32} {x2 : Int32} (ah : AH) (out : Int32 × AH) (h : f_X6_person x0 x1 x2 ah = some out) (hR : jRetI l g md_X6_person (jRm (d + 3) md_X6_person) Q (0, 0) out.1 out.2) : J l g md_X6_person (jRm (d + 3) md_X6_person) Q 0 [(0, .inr (.inr (.inl x0))), (1, .inl x1), (2, .inl x2)] [] ah (0, 0) := by
  unfold f_X6_person at h
  refine J_seg ok_X6_person 0 2 (pc' := 2) (ls' := [(0, .inr (.inr (.inl x0))), (1, .inl x1), (2, .inl x2)]) (st' := [.inl x1, .inr (.inr (.inl x0))]) rfl ?_
  by_cases c3 : qO ah x0 6 = true
  case neg => exact absurd ((if_neg c3).symm.trans h) (by simp)
  have h := (if_pos c3).symm.trans h
  obtain ⟨q1, h2, h⟩ := Option.bind_eq_some_iff.mp h
  refine J_callV (md' := md_X6_isPerson) (As := [.inl x1]) (st := []) (cs' := (0, 0)) (st' := [.inl q1.1]) (jat ok_X6_person 2 (pc := 2) (i := .invokevirtual 154) (n := 3) rfl rfl) ml_RX6_154 yv_X6_isPerson c3 (c_X6_isPerson l g (d + 1) h2) (jRo_of (by decide)) (Nat.le_of_ble_eq_true rfl) ⟨Nat.le_of_ble_eq_true rfl, Nat.le_of_ble_eq_true rfl⟩ rfl rfl rfl ?_
  refine J_eq0 (jat ok_X6_person 3 (pc := 5) (i := .ifCond .eq 28) (n := 3) rfl rfl) (tgt := 33) (by decide) (fun c => ?_) (fun c => ?_)
  · have h := (if_pos c).symm.trans h
    refine J_seg ok_X6_person 17 1 (pc' := 34) (ls' := [(0, .inr (.inr (.inl x0))), (1, .inl x1), (2, .inl x2)]) (st' := [.inl (-1)]) rfl ?_
    have h := Option.some.inj h
    subst h
    exact hR _ _ (jat ok_X6_person 18 (pc := 34) (i := .ireturn) (n := 1) rfl rfl)
  · have h := (if_neg c).symm.trans h
    refine J_seg ok_X6_person 4 3 (pc' := 11) (ls' := [(0, .inr (.inr (.inl x0))), (1, .inl x1), (2, .inl x2)]) (st' := [.inr (.inl 0), .inr (.inl (Int32.toInt64 x2))]) rfl ?_
    refine J_ldc2 (jat ok_X6_person 7 (pc := 11) (i := .ldc2_w 172) (n := 3) rfl rfl) lc_RX6_172 ?_
    obtain ⟨q4, h5, h⟩ := Option.bind_eq_some_iff.mp h
    refine J_callS (md' := md_X6_in) (As := [.inr (.inl (Int32.toInt64 x2)), .inr (.inl 0), .inr (.inl 8)]) (st := []) (cs' := (0, 0)) (st' := [.inl q4.1]) (jat ok_X6_person 8 (pc := 14) (i := .invokestatic 71) (n := 3) rfl rfl) (Or.inl ml_RX6_71) ys_X6_in (c_X6_in l g (d + 2) h5) (jRo_of (by decide)) (Nat.le_of_ble_eq_true rfl) ⟨Nat.le_of_ble_eq_true rfl, Nat.le_of_ble_eq_true rfl⟩ rfl rfl rfl ?_
    refine J_eq0 (jat ok_X6_person 9 (pc := 17) (i := .ifCond .eq 16) (n := 3) rfl rfl) (tgt := 33) (by decide) (fun c => ?_) (fun c => ?_)
    · have h := (if_pos c).symm.trans h
      refine J_seg ok_X6_person 17 1 (pc' := 34) (ls' := [(0, .inr (.inr (.inl x0))), (1, .inl x1), (2, .inl x2)]) (st' := [.inl (-1)]) rfl ?_
      have h := Option.some.inj h
      subst h
      exact hR _ _ (jat ok_X6_person 18 (pc := 34) (i := .ireturn) (n := 1) rfl rfl)
    · have h := (if_neg c).symm.trans h
      refine J_seg ok_X6_person 10 4 (pc' := 24) (ls' := [(0, .inr (.inr (.inl x0))), (1, .inl x1), (2, .inl x2)]) (st' := [.inl x2, .inl x1, .inr (.inr (.inl x0)), .inr (.inr (.inl x0))]) rfl ?_
      by_cases c8 : qO q4.2 x0 6 = true
      case neg => exact absurd ((if_neg c8).symm.trans h) (by simp)
      have h := (if_pos c8).symm.trans h
      obtain ⟨q6, h7, h⟩ := Option.bind_eq_some_iff.mp h
      refine J_callV (md' := md_X6_toldOf) (As := [.inl x1, .inl x2]) (st := [.inr (.inr (.inl x0))]) (cs' := (0, 0)) (st' := [.inl q6.1, .inr (.inr (.inl x0))]) (jat ok_X6_person 14 (pc := 24) (i := .invokevirtual 174) (n := 3) rfl rfl) ml_RX6_174 yv_X6_toldOf c8 (c_X6_toldOf l g (d + 0) h7) (jRo_of (by decide)) (Nat.le_of_ble_eq_true rfl) ⟨Nat.le_of_ble_eq_true rfl, Nat.le_of_ble_eq_true rfl⟩ rfl rfl rfl ?_
      by_cases c11 : qO q6.2 x0 6 = true
      case neg => exact absurd ((if_neg c11).symm.trans h) (by simp)
      have h := (if_pos c11).symm.trans h
      obtain ⟨q9, h10, h⟩ := Option.bind_eq_some_iff.mp h
      refine J_callV (md' := md_X6_tell) (As := [.inl q6.1]) (st := []) (cs' := (0, 0)) (st' := [.inl q9.1]) (jat ok_X6_person 15 (pc := 27) (i := .invokevirtual 93) (n := 3) rfl rfl) ml_RX6_93 yv_X6_tell c11 (c_X6_tell l g (d + 2) h10) (jRo_of (by decide)) (Nat.le_of_ble_eq_true rfl) ⟨Nat.le_of_ble_eq_true rfl, Nat.le_of_ble_eq_true rfl⟩ rfl rfl rfl ?_
      refine J_seg ok_X6_person 16 1 (pc' := 34) (ls' := [(0, .inr (.inr (.inl x0))), (1, .inl x1), (2, .inl x2)]) (st' := [.inl q9.1]) rfl ?_
      have h := Option.some.inj h
      subst h
      exact hR _ _ (jat ok_X6_person 18 (pc := 34) (i := .ireturn) (n := 1) rfl rfl)
theorem c_X6_person (l : Launch) (g : GX) (d : Nat) {x0 : Option Nat} {x1 : Int32} {x2 : Int32} {ah : AH} {q : Int32 × AH} (h : f_X6_person x0 x1 x2 ah = some q) : jM l g (d + 3) md_X6_person [.inr (.inr (.inl x0)), .inl x1, .inl x2] ah (some (.inl q.1)) q.2 :=
  jM_of (by decide) (Nat.le_of_ble_eq_true rfl) (k_X6_person d ah q h (fun pc ls hd => J_reti hd rfl (jPV_int _) rfl (Nat.le_refl _) rfl rfl))
