def f_X5_asked (x0 : Option Nat) (ah : AH) : Option (Int32 × AH) :=
  (gI ah x0 5 11).bind fun v1 => some (v1, ah)
set_option maxRecDepth 100000 in
set_option maxHeartbeats 4000000 in
theorem k_X5_asked {l : Launch} {g : GX} (d : Nat) {Q : jQ} {x0 : Option Nat} (ah : AH) (out : Int32 × AH) (h : f_X5_asked x0 ah = some out) (hR : jRetI l g md_X5_asked (jRm (d + 0) md_X5_asked) Q (0, 0) out.1 out.2) : J l g md_X5_asked (jRm (d + 0) md_X5_asked) Q 0 [(0, .inr (.inr (.inl x0)))] [] ah (0, 0) := by
  unfold f_X5_asked at h
  refine J_seg ok_X5_asked 0 1 (pc' := 1) (ls' := [(0, .inr (.inr (.inl x0)))]) (st' := [.inr (.inr (.inl x0))]) rfl ?_
  obtain ⟨v1, h2, h⟩ := Option.bind_eq_some_iff.mp h
  refine J_getI (jat ok_X5_asked 1 (pc := 1) (i := .getfield 90) (n := 3) rfl rfl) fl_RX5_90 h2 ?_
  have h := Option.some.inj h
  subst h
  exact hR _ _ (jat ok_X5_asked 2 (pc := 4) (i := .ireturn) (n := 1) rfl rfl)
theorem c_X5_asked (l : Launch) (g : GX) (d : Nat) {x0 : Option Nat} {ah : AH} {q : Int32 × AH} (h : f_X5_asked x0 ah = some q) : jM l g (d + 0) md_X5_asked [.inr (.inr (.inl x0))] ah (some (.inl q.1)) q.2 :=
  jM_of (by decide) (Nat.le_of_ble_eq_true rfl) (k_X5_asked d ah q h (fun pc ls hd => J_reti hd rfl (jPV_int _) rfl (Nat.le_refl _) rfl rfl))
def f_X5_upper (x0 : Option Nat) (ah : AH) : Option (Int64 × AH) :=
  (gL ah x0 5 12).bind fun v1 => some (v1, ah)
set_option maxRecDepth 100000 in
set_option maxHeartbeats 4000000 in
theorem k_X5_upper {l : Launch} {g : GX} (d : Nat) {Q : jQ} {x0 : Option Nat} (ah : AH) (out : Int64 × AH) (h : f_X5_upper x0 ah = some out) (hR : jRetL l g md_X5_upper (jRm (d + 0) md_X5_upper) Q (0, 0) out.1 out.2) : J l g md_X5_upper (jRm (d + 0) md_X5_upper) Q 0 [(0, .inr (.inr (.inl x0)))] [] ah (0, 0) := by
  unfold f_X5_upper at h
  refine J_seg ok_X5_upper 0 1 (pc' := 1) (ls' := [(0, .inr (.inr (.inl x0)))]) (st' := [.inr (.inr (.inl x0))]) rfl ?_
  obtain ⟨v1, h2, h⟩ := Option.bind_eq_some_iff.mp h
  refine J_getL (jat ok_X5_upper 1 (pc := 1) (i := .getfield 279) (n := 3) rfl rfl) fl_RX5_279 h2 ?_
  have h := Option.some.inj h
  subst h
  exact hR _ _ (jat ok_X5_upper 2 (pc := 4) (i := .lreturn) (n := 1) rfl rfl)
theorem c_X5_upper (l : Launch) (g : GX) (d : Nat) {x0 : Option Nat} {ah : AH} {q : Int64 × AH} (h : f_X5_upper x0 ah = some q) : jM l g (d + 0) md_X5_upper [.inr (.inr (.inl x0))] ah (some (.inr (.inl q.1))) q.2 :=
  jM_of (by decide) (Nat.le_of_ble_eq_true rfl) (k_X5_upper d ah q h (fun pc ls hd => J_retl hd rfl rfl (Nat.le_refl _) rfl rfl))
def f_X5_lower (x0 : Option Nat) (ah : AH) : Option (Int64 × AH) :=
  (gL ah x0 5 13).bind fun v1 => some (v1, ah)
set_option maxRecDepth 100000 in
set_option maxHeartbeats 4000000 in
theorem k_X5_lower {l : Launch} {g : GX} (d : Nat) {Q : jQ} {x0 : Option Nat} (ah : AH) (out : Int64 × AH) (h : f_X5_lower x0 ah = some out) (hR : jRetL l g md_X5_lower (jRm (d + 0) md_X5_lower) Q (0, 0) out.1 out.2) : J l g md_X5_lower (jRm (d + 0) md_X5_lower) Q 0 [(0, .inr (.inr (.inl x0)))] [] ah (0, 0) := by
  unfold f_X5_lower at h
  refine J_seg ok_X5_lower 0 1 (pc' := 1) (ls' := [(0, .inr (.inr (.inl x0)))]) (st' := [.inr (.inr (.inl x0))]) rfl ?_
  obtain ⟨v1, h2, h⟩ := Option.bind_eq_some_iff.mp h
  refine J_getL (jat ok_X5_lower 1 (pc := 1) (i := .getfield 67) (n := 3) rfl rfl) fl_RX5_67 h2 ?_
  have h := Option.some.inj h
  subst h
  exact hR _ _ (jat ok_X5_lower 2 (pc := 4) (i := .lreturn) (n := 1) rfl rfl)
theorem c_X5_lower (l : Launch) (g : GX) (d : Nat) {x0 : Option Nat} {ah : AH} {q : Int64 × AH} (h : f_X5_lower x0 ah = some q) : jM l g (d + 0) md_X5_lower [.inr (.inr (.inl x0))] ah (some (.inr (.inl q.1))) q.2 :=
  jM_of (by decide) (Nat.le_of_ble_eq_true rfl) (k_X5_lower d ah q h (fun pc ls hd => J_retl hd rfl rfl (Nat.le_refl _) rfl rfl))
def f_X5_allFines_b4 (k0 : Option Nat) (s4 : Int32 × Int32) (ah : AH) : Option ((Unit × AH) ⊕ (((Int32) × AH) ⊕ ((Int32 × Int32) × AH))) :=
  (gR ah k0 5 8).bind fun v1 => (gI ah v1 1 5).bind fun v3 => if v3 ≤ s4.2 then (some (.inr (.inl (s4.1, ah)))) else ((gR ah k0 5 3).bind fun v5 => if qO ah v5 4 = true then ((f_X4_finesOf v5 s4.2 ah).bind fun q7 => some (.inr (.inr ((s4.1 + q7.1, s4.2 + 1), q7.2)))) else none)
set_option maxRecDepth 100000 in
set_option maxHeartbeats 4000000 in
theorem k_X5_allFines_b4 {l : Launch} {g : GX} (d : Nat) {Q : jQ} {k0 : Option Nat} (s4 : Int32 × Int32) (ah : AH) (out : (Unit × AH) ⊕ (((Int32) × AH) ⊕ ((Int32 × Int32) × AH))) (h : f_X5_allFines_b4 k0 s4 ah = some out) (hR : ∀ q, out = .inl q → jRetN q.1 q.2) (hX : ∀ q, out = .inr (.inl q) → J l g md_X5_allFines (jRm (d + 2) md_X5_allFines) Q 32 [(1, .inl q.1)] [] q.2 (0, 0)) (hN : ∀ q, out = .inr (.inr q) → J l g md_X5_allFines (jRm (d + 2) md_X5_allFines) Q 4 [(0, .inr (.inr (.inl k0))), (1, .inl q.1.1), (2, .inl q.1.2)] [] q.2 (0, 0)) : J l g md_X5_allFines (jRm (d + 2) md_X5_allFines) Q 4 [(0, .inr (.inr (.inl k0))), (1, .inl s4.1), (2, .inl s4.2)] [] ah (0, 0) := by
  unfold f_X5_allFines_b4 at h
  refine J_seg ok_X5_allFines 4 2 (pc' := 6) (ls' := [(0, .inr (.inr (.inl k0))), (1, .inl s4.1), (2, .inl s4.2)]) (st' := [.inr (.inr (.inl k0)), .inl s4.2]) rfl ?_
  obtain ⟨v1, h2, h⟩ := Option.bind_eq_some_iff.mp h
  refine J_getR (jat ok_X5_allFines 6 (pc := 6) (i := .getfield 53) (n := 3) rfl rfl) fl_RX5_53 h2 ?_
  obtain ⟨v3, h4, h⟩ := Option.bind_eq_some_iff.mp h
  refine J_getI (jat ok_X5_allFines 7 (pc := 9) (i := .getfield 127) (n := 3) rfl rfl) fl_RX5_127 h4 ?_
  refine J_ge (jat ok_X5_allFines 8 (pc := 12) (i := .if_icmp .ge 20) (n := 3) rfl rfl) (tgt := 32) (by decide) (fun c => ?_) (fun c => ?_)
  · have h := (if_pos c).symm.trans h
    exact J_sub (ls' := [(1, .inl s4.1)]) [1] rfl (hX (s4.1, ah) (Option.some.inj h).symm)
  · have h := (if_neg c).symm.trans h
    refine J_seg ok_X5_allFines 9 2 (pc' := 17) (ls' := [(0, .inr (.inr (.inl k0))), (1, .inl s4.1), (2, .inl s4.2)]) (st' := [.inr (.inr (.inl k0)), .inl s4.1]) rfl ?_
    obtain ⟨v5, h6, h⟩ := Option.bind_eq_some_iff.mp h
    refine J_getR (jat ok_X5_allFines 11 (pc := 17) (i := .getfield 28) (n := 3) rfl rfl) fl_RX5_28 h6 ?_
    refine J_seg ok_X5_allFines 12 1 (pc' := 21) (ls' := [(0, .inr (.inr (.inl k0))), (1, .inl s4.1), (2, .inl s4.2)]) (st' := [.inl s4.2, .inr (.inr (.inl v5)), .inl s4.1]) rfl ?_
    by_cases c9 : qO ah v5 4 = true
    case neg => exact absurd ((if_neg c9).symm.trans h) (by simp)
    have h := (if_pos c9).symm.trans h
    obtain ⟨q7, h8, h⟩ := Option.bind_eq_some_iff.mp h
    refine J_callV (md' := md_X4_finesOf) (As := [.inl s4.2]) (st := [.inl s4.1]) (cs' := (0, 0)) (st' := [.inl q7.1, .inl s4.1]) (jat ok_X5_allFines 13 (pc := 21) (i := .invokevirtual 333) (n := 3) rfl rfl) ml_RX5_333 yv_X4_finesOf c9 (c_X4_finesOf l g (d + 0) h8) (jRo_of (by decide)) (Nat.le_of_ble_eq_true rfl) ⟨Nat.le_of_ble_eq_true rfl, Nat.le_of_ble_eq_true rfl⟩ rfl rfl rfl ?_
    refine J_seg ok_X5_allFines 14 4 (pc' := 4) (ls' := [(2, .inl (s4.2 + 1)), (1, .inl (s4.1 + q7.1)), (0, .inr (.inr (.inl k0)))]) (st' := []) rfl ?_
    exact J_sub (ls' := [(0, .inr (.inr (.inl k0))), (1, .inl (s4.1 + q7.1)), (2, .inl (s4.2 + 1))]) [2, 1, 0] rfl (hN ((s4.1 + q7.1, s4.2 + 1), q7.2) (Option.some.inj h).symm)
def f_X5_allFines (x0 : Option Nat) (ah : AH) : Option (Int32 × AH) :=
  (jloop (f_X5_allFines_b4 x0) jfuel (0, 0) ah).bind fun q10 => match q10 with | .inl r => none | .inr z12 => some (z12.1, z12.2)
set_option maxRecDepth 100000 in
set_option maxHeartbeats 4000000 in
theorem k_X5_allFines {l : Launch} {g : GX} (d : Nat) {Q : jQ} {x0 : Option Nat} (ah : AH) (out : Int32 × AH) (h : f_X5_allFines x0 ah = some out) (hR : jRetI l g md_X5_allFines (jRm (d + 2) md_X5_allFines) Q (0, 0) out.1 out.2) : J l g md_X5_allFines (jRm (d + 2) md_X5_allFines) Q 0 [(0, .inr (.inr (.inl x0)))] [] ah (0, 0) := by
  unfold f_X5_allFines at h
  refine J_seg ok_X5_allFines 0 4 (pc' := 4) (ls' := [(2, .inl 0), (1, .inl 0), (0, .inr (.inr (.inl x0)))]) (st' := []) rfl ?_
  obtain ⟨q10, h11, h⟩ := Option.bind_eq_some_iff.mp h
  refine J_sub (ls' := [(0, .inr (.inr (.inl x0))), (1, .inl 0), (2, .inl 0)]) [2, 1, 0] rfl ?_
  refine J_loop (pE := 32) (lh := fun t13 => [(0, .inr (.inr (.inl x0))), (1, .inl t13.1), (2, .inl t13.2)]) (lx := fun z12 => [(1, .inl z12)]) (P := jRetN) (fun s ah out hb hR hX hN => k_X5_allFines_b4 d s ah out hb hR hX hN) jfuel (0, 0) _ _ h11 (fun r e => ?_) (fun z12 e => ?_)
  · subst e
    dsimp only at h
    cases h
  · subst e
    dsimp only at h
    refine J_seg ok_X5_allFines 18 1 (pc' := 33) (ls' := [(1, .inl z12.1)]) (st' := [.inl z12.1]) rfl ?_
    have h := Option.some.inj h
    subst h
    exact hR _ _ (jat ok_X5_allFines 19 (pc := 33) (i := .ireturn) (n := 1) rfl rfl)
theorem c_X5_allFines (l : Launch) (g : GX) (d : Nat) {x0 : Option Nat} {ah : AH} {q : Int32 × AH} (h : f_X5_allFines x0 ah = some q) : jM l g (d + 2) md_X5_allFines [.inr (.inr (.inl x0))] ah (some (.inl q.1)) q.2 :=
  jM_of (by decide) (Nat.le_of_ble_eq_true rfl) (k_X5_allFines d ah q h (fun pc ls hd => J_reti hd rfl (jPV_int _) rfl (Nat.le_refl _) rfl rfl))
def f_X5_keptTowns_b13 (k2 : Option Nat) (k3 : Int32) (s13 : Int32 × Int32) (ah : AH) : Option ((Unit × AH) ⊕ (((Int32) × AH) ⊕ ((Int32 × Int32) × AH))) :=
  if k3 ≤ s13.2 then (some (.inr (.inl (s13.1, ah)))) else ((gE ah k2 s13.2).bind fun v5 => (gI ah v5 4 4).bind fun v7 => if v7 = 0 then (some (.inr (.inr ((s13.1, s13.2 + 1), ah)))) else (some (.inr (.inr ((s13.1 + 1, s13.2 + 1), ah)))))
set_option maxRecDepth 100000 in
set_option maxHeartbeats 4000000 in
theorem k_X5_keptTowns_b13 {l : Launch} {g : GX} (d : Nat) {Q : jQ} {k2 : Option Nat} {k3 : Int32} (s13 : Int32 × Int32) (ah : AH) (out : (Unit × AH) ⊕ (((Int32) × AH) ⊕ ((Int32 × Int32) × AH))) (h : f_X5_keptTowns_b13 k2 k3 s13 ah = some out) (hR : ∀ q, out = .inl q → jRetN q.1 q.2) (hX : ∀ q, out = .inr (.inl q) → J l g md_X5_keptTowns (jRm (d + 0) md_X5_keptTowns) Q 42 [(1, .inl q.1)] [] q.2 (0, 0)) (hN : ∀ q, out = .inr (.inr q) → J l g md_X5_keptTowns (jRm (d + 0) md_X5_keptTowns) Q 13 [(1, .inl q.1.1), (2, .inr (.inr (.inl k2))), (3, .inl k3), (4, .inl q.1.2)] [] q.2 (0, 0)) : J l g md_X5_keptTowns (jRm (d + 0) md_X5_keptTowns) Q 13 [(1, .inl s13.1), (2, .inr (.inr (.inl k2))), (3, .inl k3), (4, .inl s13.2)] [] ah (0, 0) := by
  unfold f_X5_keptTowns_b13 at h
  refine J_seg ok_X5_keptTowns 10 2 (pc' := 16) (ls' := [(1, .inl s13.1), (2, .inr (.inr (.inl k2))), (3, .inl k3), (4, .inl s13.2)]) (st' := [.inl k3, .inl s13.2]) rfl ?_
  refine J_ge (jat ok_X5_keptTowns 12 (pc := 16) (i := .if_icmp .ge 26) (n := 3) rfl rfl) (tgt := 42) (by decide) (fun c => ?_) (fun c => ?_)
  · have h := (if_pos c).symm.trans h
    exact J_sub (ls' := [(1, .inl s13.1)]) [0] rfl (hX (s13.1, ah) (Option.some.inj h).symm)
  · have h := (if_neg c).symm.trans h
    refine J_seg ok_X5_keptTowns 13 2 (pc' := 22) (ls' := [(1, .inl s13.1), (2, .inr (.inr (.inl k2))), (3, .inl k3), (4, .inl s13.2)]) (st' := [.inl s13.2, .inr (.inr (.inl k2))]) rfl ?_
    obtain ⟨v5, h6, h⟩ := Option.bind_eq_some_iff.mp h
    refine J_aald (jat ok_X5_keptTowns 15 (pc := 22) (i := .aaload) (n := 1) rfl rfl) h6 ?_
    refine J_seg ok_X5_keptTowns 16 2 (pc' := 27) (ls' := [(5, .inr (.inr (.inl v5))), (1, .inl s13.1), (2, .inr (.inr (.inl k2))), (3, .inl k3), (4, .inl s13.2)]) (st' := [.inr (.inr (.inl v5))]) rfl ?_
    obtain ⟨v7, h8, h⟩ := Option.bind_eq_some_iff.mp h
    refine J_getI (jat ok_X5_keptTowns 18 (pc := 27) (i := .getfield 123) (n := 3) rfl rfl) fl_RX5_123 h8 ?_
    refine J_eq0 (jat ok_X5_keptTowns 19 (pc := 30) (i := .ifCond .eq 6) (n := 3) rfl rfl) (tgt := 36) (by decide) (fun c => ?_) (fun c => ?_)
    · have h := (if_pos c).symm.trans h
      refine J_seg ok_X5_keptTowns 21 2 (pc' := 13) (ls' := [(4, .inl (s13.2 + 1)), (5, .inr (.inr (.inl v5))), (1, .inl s13.1), (2, .inr (.inr (.inl k2))), (3, .inl k3)]) (st' := []) rfl ?_
      exact J_sub (ls' := [(1, .inl s13.1), (2, .inr (.inr (.inl k2))), (3, .inl k3), (4, .inl (s13.2 + 1))]) [2, 3, 4, 0] rfl (hN ((s13.1, s13.2 + 1), ah) (Option.some.inj h).symm)
    · have h := (if_neg c).symm.trans h
      refine J_seg ok_X5_keptTowns 20 3 (pc' := 13) (ls' := [(4, .inl (s13.2 + 1)), (1, .inl (s13.1 + 1)), (5, .inr (.inr (.inl v5))), (2, .inr (.inr (.inl k2))), (3, .inl k3)]) (st' := []) rfl ?_
      exact J_sub (ls' := [(1, .inl (s13.1 + 1)), (2, .inr (.inr (.inl k2))), (3, .inl k3), (4, .inl (s13.2 + 1))]) [1, 3, 4, 0] rfl (hN ((s13.1 + 1, s13.2 + 1), ah) (Option.some.inj h).symm)
def f_X5_keptTowns (x0 : Option Nat) (ah : AH) : Option (Int32 × AH) :=
  (gR ah x0 5 4).bind fun v1 => (lA ah v1).bind fun v3 => (jloop (f_X5_keptTowns_b13 v1 v3) jfuel (0, 0) ah).bind fun q9 => match q9 with | .inl r => none | .inr z11 => some (z11.1, z11.2)
set_option maxRecDepth 100000 in
set_option maxHeartbeats 4000000 in
theorem k_X5_keptTowns {l : Launch} {g : GX} (d : Nat) {Q : jQ} {x0 : Option Nat} (ah : AH) (out : Int32 × AH) (h : f_X5_keptTowns x0 ah = some out) (hR : jRetI l g md_X5_keptTowns (jRm (d + 0) md_X5_keptTowns) Q (0, 0) out.1 out.2) : J l g md_X5_keptTowns (jRm (d + 0) md_X5_keptTowns) Q 0 [(0, .inr (.inr (.inl x0)))] [] ah (0, 0) := by
  unfold f_X5_keptTowns at h
  refine J_seg ok_X5_keptTowns 0 3 (pc' := 3) (ls' := [(1, .inl 0), (0, .inr (.inr (.inl x0)))]) (st' := [.inr (.inr (.inl x0))]) rfl ?_
  obtain ⟨v1, h2, h⟩ := Option.bind_eq_some_iff.mp h
  refine J_getR (jat ok_X5_keptTowns 3 (pc := 3) (i := .getfield 32) (n := 3) rfl rfl) fl_RX5_32 h2 ?_
  refine J_seg ok_X5_keptTowns 4 2 (pc' := 8) (ls' := [(2, .inr (.inr (.inl v1))), (1, .inl 0), (0, .inr (.inr (.inl x0)))]) (st' := [.inr (.inr (.inl v1))]) rfl ?_
  obtain ⟨v3, h4, h⟩ := Option.bind_eq_some_iff.mp h
  refine J_alen (jat ok_X5_keptTowns 6 (pc := 8) (i := .arraylength) (n := 1) rfl rfl) h4 ?_
  refine J_seg ok_X5_keptTowns 7 3 (pc' := 13) (ls' := [(4, .inl 0), (3, .inl v3), (2, .inr (.inr (.inl v1))), (1, .inl 0), (0, .inr (.inr (.inl x0)))]) (st' := []) rfl ?_
  obtain ⟨q9, h10, h⟩ := Option.bind_eq_some_iff.mp h
  refine J_sub (ls' := [(1, .inl 0), (2, .inr (.inr (.inl v1))), (3, .inl v3), (4, .inl 0)]) [3, 2, 1, 0] rfl ?_
  refine J_loop (pE := 42) (lh := fun t12 => [(1, .inl t12.1), (2, .inr (.inr (.inl v1))), (3, .inl v3), (4, .inl t12.2)]) (lx := fun z11 => [(1, .inl z11)]) (P := jRetN) (fun s ah out hb hR hX hN => k_X5_keptTowns_b13 d s ah out hb hR hX hN) jfuel (0, 0) _ _ h10 (fun r e => ?_) (fun z11 e => ?_)
  · subst e
    dsimp only at h
    cases h
  · subst e
    dsimp only at h
    refine J_seg ok_X5_keptTowns 23 1 (pc' := 43) (ls' := [(1, .inl z11.1)]) (st' := [.inl z11.1]) rfl ?_
    have h := Option.some.inj h
    subst h
    exact hR _ _ (jat ok_X5_keptTowns 24 (pc := 43) (i := .ireturn) (n := 1) rfl rfl)
theorem c_X5_keptTowns (l : Launch) (g : GX) (d : Nat) {x0 : Option Nat} {ah : AH} {q : Int32 × AH} (h : f_X5_keptTowns x0 ah = some q) : jM l g (d + 0) md_X5_keptTowns [.inr (.inr (.inl x0))] ah (some (.inl q.1)) q.2 :=
  jM_of (by decide) (Nat.le_of_ble_eq_true rfl) (k_X5_keptTowns d ah q h (fun pc ls hd => J_reti hd rfl (jPV_int _) rfl (Nat.le_refl _) rfl rfl))
def f_X5_present_b10 (k2 : Option Nat) (k3 : Int32) (s10 : Int32 × Int32) (ah : AH) : Option ((Unit × AH) ⊕ (((Int32) × AH) ⊕ ((Int32 × Int32) × AH))) :=
  if k3 ≤ s10.2 then (some (.inr (.inl (s10.1, ah)))) else ((gE ah k2 s10.2).bind fun v3 => if qO ah v3 2 = true then ((f_X2_isMissing v3 ah).bind fun q5 => if q5.1 = 0 then (some (.inr (.inr ((s10.1 + 1, s10.2 + 1), q5.2)))) else (some (.inr (.inr ((s10.1, s10.2 + 1), q5.2))))) else none)
set_option maxRecDepth 100000 in
set_option maxHeartbeats 4000000 in
theorem k_X5_present_b10 {l : Launch} {g : GX} (d : Nat) {Q : jQ} {k2 : Option Nat} {k3 : Int32} (s10 : Int32 × Int32) (ah : AH) (out : (Unit × AH) ⊕ (((Int32) × AH) ⊕ ((Int32 × Int32) × AH))) (h : f_X5_present_b10 k2 k3 s10 ah = some out) (hR : ∀ q, out = .inl q → jRetN q.1 q.2) (hX : ∀ q, out = .inr (.inl q) → J l g md_X5_present (jRm (d + 1) md_X5_present) Q 39 [(1, .inl q.1)] [] q.2 (0, 0)) (hN : ∀ q, out = .inr (.inr q) → J l g md_X5_present (jRm (d + 1) md_X5_present) Q 10 [(1, .inl q.1.1), (2, .inr (.inr (.inl k2))), (3, .inl k3), (4, .inl q.1.2)] [] q.2 (0, 0)) : J l g md_X5_present (jRm (d + 1) md_X5_present) Q 10 [(1, .inl s10.1), (2, .inr (.inr (.inl k2))), (3, .inl k3), (4, .inl s10.2)] [] ah (0, 0) := by
  unfold f_X5_present_b10 at h
  refine J_seg ok_X5_present 9 2 (pc' := 13) (ls' := [(1, .inl s10.1), (2, .inr (.inr (.inl k2))), (3, .inl k3), (4, .inl s10.2)]) (st' := [.inl k3, .inl s10.2]) rfl ?_
  refine J_ge (jat ok_X5_present 11 (pc := 13) (i := .if_icmp .ge 26) (n := 3) rfl rfl) (tgt := 39) (by decide) (fun c => ?_) (fun c => ?_)
  · have h := (if_pos c).symm.trans h
    exact J_sub (ls' := [(1, .inl s10.1)]) [0] rfl (hX (s10.1, ah) (Option.some.inj h).symm)
  · have h := (if_neg c).symm.trans h
    refine J_seg ok_X5_present 12 2 (pc' := 19) (ls' := [(1, .inl s10.1), (2, .inr (.inr (.inl k2))), (3, .inl k3), (4, .inl s10.2)]) (st' := [.inl s10.2, .inr (.inr (.inl k2))]) rfl ?_
    obtain ⟨v3, h4, h⟩ := Option.bind_eq_some_iff.mp h
    refine J_aald (jat ok_X5_present 14 (pc := 19) (i := .aaload) (n := 1) rfl rfl) h4 ?_
    refine J_seg ok_X5_present 15 2 (pc' := 24) (ls' := [(5, .inr (.inr (.inl v3))), (1, .inl s10.1), (2, .inr (.inr (.inl k2))), (3, .inl k3), (4, .inl s10.2)]) (st' := [.inr (.inr (.inl v3))]) rfl ?_
    by_cases c7 : qO ah v3 2 = true
    case neg => exact absurd ((if_neg c7).symm.trans h) (by simp)
    have h := (if_pos c7).symm.trans h
    obtain ⟨q5, h6, h⟩ := Option.bind_eq_some_iff.mp h
    refine J_callV (md' := md_X2_isMissing) (As := []) (st := []) (cs' := (0, 0)) (st' := [.inl q5.1]) (jat ok_X5_present 17 (pc := 24) (i := .invokevirtual 97) (n := 3) rfl rfl) ml_RX5_97 yv_X2_isMissing c7 (c_X2_isMissing l g (d + 0) h6) (jRo_of (by decide)) (Nat.le_of_ble_eq_true rfl) ⟨Nat.le_of_ble_eq_true rfl, Nat.le_of_ble_eq_true rfl⟩ rfl rfl rfl ?_
    refine J_ne0 (jat ok_X5_present 18 (pc := 27) (i := .ifCond .ne 6) (n := 3) rfl rfl) (tgt := 33) (by decide) (fun c => ?_) (fun c => ?_)
    · have h := (if_neg c).symm.trans h
      refine J_seg ok_X5_present 20 2 (pc' := 10) (ls' := [(4, .inl (s10.2 + 1)), (5, .inr (.inr (.inl v3))), (1, .inl s10.1), (2, .inr (.inr (.inl k2))), (3, .inl k3)]) (st' := []) rfl ?_
      exact J_sub (ls' := [(1, .inl s10.1), (2, .inr (.inr (.inl k2))), (3, .inl k3), (4, .inl (s10.2 + 1))]) [2, 3, 4, 0] rfl (hN ((s10.1, s10.2 + 1), q5.2) (Option.some.inj h).symm)
    · have h := (if_pos c).symm.trans h
      refine J_seg ok_X5_present 19 3 (pc' := 10) (ls' := [(4, .inl (s10.2 + 1)), (1, .inl (s10.1 + 1)), (5, .inr (.inr (.inl v3))), (2, .inr (.inr (.inl k2))), (3, .inl k3)]) (st' := []) rfl ?_
      exact J_sub (ls' := [(1, .inl (s10.1 + 1)), (2, .inr (.inr (.inl k2))), (3, .inl k3), (4, .inl (s10.2 + 1))]) [1, 3, 4, 0] rfl (hN ((s10.1 + 1, s10.2 + 1), q5.2) (Option.some.inj h).symm)
def f_X5_present (x0 : Option Nat) (ah : AH) : Option (Int32 × AH) :=
  (lA ah x0).bind fun v1 => (jloop (f_X5_present_b10 x0 v1) jfuel (0, 0) ah).bind fun q8 => match q8 with | .inl r => none | .inr z10 => some (z10.1, z10.2)
set_option maxRecDepth 100000 in
set_option maxHeartbeats 4000000 in
theorem k_X5_present {l : Launch} {g : GX} (d : Nat) {Q : jQ} {x0 : Option Nat} (ah : AH) (out : Int32 × AH) (h : f_X5_present x0 ah = some out) (hR : jRetI l g md_X5_present (jRm (d + 1) md_X5_present) Q (0, 0) out.1 out.2) : J l g md_X5_present (jRm (d + 1) md_X5_present) Q 0 [(0, .inr (.inr (.inl x0)))] [] ah (0, 0) := by
  unfold f_X5_present at h
  refine J_seg ok_X5_present 0 5 (pc' := 5) (ls' := [(2, .inr (.inr (.inl x0))), (1, .inl 0), (0, .inr (.inr (.inl x0)))]) (st' := [.inr (.inr (.inl x0))]) rfl ?_
  obtain ⟨v1, h2, h⟩ := Option.bind_eq_some_iff.mp h
  refine J_alen (jat ok_X5_present 5 (pc := 5) (i := .arraylength) (n := 1) rfl rfl) h2 ?_
  refine J_seg ok_X5_present 6 3 (pc' := 10) (ls' := [(4, .inl 0), (3, .inl v1), (2, .inr (.inr (.inl x0))), (1, .inl 0), (0, .inr (.inr (.inl x0)))]) (st' := []) rfl ?_
  obtain ⟨q8, h9, h⟩ := Option.bind_eq_some_iff.mp h
  refine J_sub (ls' := [(1, .inl 0), (2, .inr (.inr (.inl x0))), (3, .inl v1), (4, .inl 0)]) [3, 2, 1, 0] rfl ?_
  refine J_loop (pE := 39) (lh := fun t11 => [(1, .inl t11.1), (2, .inr (.inr (.inl x0))), (3, .inl v1), (4, .inl t11.2)]) (lx := fun z10 => [(1, .inl z10)]) (P := jRetN) (fun s ah out hb hR hX hN => k_X5_present_b10 d s ah out hb hR hX hN) jfuel (0, 0) _ _ h9 (fun r e => ?_) (fun z10 e => ?_)
  · subst e
    dsimp only at h
    cases h
  · subst e
    dsimp only at h
    refine J_seg ok_X5_present 22 1 (pc' := 40) (ls' := [(1, .inl z10.1)]) (st' := [.inl z10.1]) rfl ?_
    have h := Option.some.inj h
    subst h
    exact hR _ _ (jat ok_X5_present 23 (pc := 40) (i := .ireturn) (n := 1) rfl rfl)
theorem c_X5_present (l : Launch) (g : GX) (d : Nat) {x0 : Option Nat} {ah : AH} {q : Int32 × AH} (h : f_X5_present x0 ah = some q) : jM l g (d + 1) md_X5_present [.inr (.inr (.inl x0))] ah (some (.inl q.1)) q.2 :=
  jM_of (by decide) (Nat.le_of_ble_eq_true rfl) (k_X5_present d ah q h (fun pc ls hd => J_reti hd rfl (jPV_int _) rfl (Nat.le_refl _) rfl rfl))
def f_X5_zealots_b4 (k0 : Option Nat) (s4 : Int32 × Int32) (ah : AH) : Option ((Unit × AH) ⊕ (((Int32) × AH) ⊕ ((Int32 × Int32) × AH))) :=
  (gR ah k0 5 8).bind fun v1 => (gI ah v1 1 5).bind fun v3 => if v3 ≤ s4.2 then (some (.inr (.inl (s4.1, ah)))) else ((gR ah k0 5 8).bind fun v5 => if qO ah v5 1 = true then ((f_X1_isOf v5 s4.2 1 ah).bind fun q7 => if q7.1 = 0 then (some (.inr (.inr ((s4.1, s4.2 + 1), q7.2)))) else (some (.inr (.inr ((s4.1 + 1, s4.2 + 1), q7.2))))) else none)
set_option maxRecDepth 100000 in
set_option maxHeartbeats 4000000 in
theorem k_X5_zealots_b4 {l : Launch} {g : GX} (d : Nat) {Q : jQ} {k0 : Option Nat} (s4 : Int32 × Int32) (ah : AH) (out : (Unit × AH) ⊕ (((Int32) × AH) ⊕ ((Int32 × Int32) × AH))) (h : f_X5_zealots_b4 k0 s4 ah = some out) (hR : ∀ q, out = .inl q → jRetN q.1 q.2) (hX : ∀ q, out = .inr (.inl q) → J l g md_X5_zealots (jRm (d + 3) md_X5_zealots) Q 36 [(1, .inl q.1)] [] q.2 (0, 0)) (hN : ∀ q, out = .inr (.inr q) → J l g md_X5_zealots (jRm (d + 3) md_X5_zealots) Q 4 [(0, .inr (.inr (.inl k0))), (1, .inl q.1.1), (2, .inl q.1.2)] [] q.2 (0, 0)) : J l g md_X5_zealots (jRm (d + 3) md_X5_zealots) Q 4 [(0, .inr (.inr (.inl k0))), (1, .inl s4.1), (2, .inl s4.2)] [] ah (0, 0) := by
  unfold f_X5_zealots_b4 at h
  refine J_seg ok_X5_zealots 4 2 (pc' := 6) (ls' := [(0, .inr (.inr (.inl k0))), (1, .inl s4.1), (2, .inl s4.2)]) (st' := [.inr (.inr (.inl k0)), .inl s4.2]) rfl ?_
  obtain ⟨v1, h2, h⟩ := Option.bind_eq_some_iff.mp h
  refine J_getR (jat ok_X5_zealots 6 (pc := 6) (i := .getfield 53) (n := 3) rfl rfl) fl_RX5_53 h2 ?_
  obtain ⟨v3, h4, h⟩ := Option.bind_eq_some_iff.mp h
  refine J_getI (jat ok_X5_zealots 7 (pc := 9) (i := .getfield 127) (n := 3) rfl rfl) fl_RX5_127 h4 ?_
  refine J_ge (jat ok_X5_zealots 8 (pc := 12) (i := .if_icmp .ge 24) (n := 3) rfl rfl) (tgt := 36) (by decide) (fun c => ?_) (fun c => ?_)
  · have h := (if_pos c).symm.trans h
    exact J_sub (ls' := [(1, .inl s4.1)]) [1] rfl (hX (s4.1, ah) (Option.some.inj h).symm)
  · have h := (if_neg c).symm.trans h
    refine J_seg ok_X5_zealots 9 1 (pc' := 16) (ls' := [(0, .inr (.inr (.inl k0))), (1, .inl s4.1), (2, .inl s4.2)]) (st' := [.inr (.inr (.inl k0))]) rfl ?_
    obtain ⟨v5, h6, h⟩ := Option.bind_eq_some_iff.mp h
    refine J_getR (jat ok_X5_zealots 10 (pc := 16) (i := .getfield 53) (n := 3) rfl rfl) fl_RX5_53 h6 ?_
    refine J_seg ok_X5_zealots 11 2 (pc' := 21) (ls' := [(0, .inr (.inr (.inl k0))), (1, .inl s4.1), (2, .inl s4.2)]) (st' := [.inl 1, .inl s4.2, .inr (.inr (.inl v5))]) rfl ?_
    by_cases c9 : qO ah v5 1 = true
    case neg => exact absurd ((if_neg c9).symm.trans h) (by simp)
    have h := (if_pos c9).symm.trans h
    obtain ⟨q7, h8, h⟩ := Option.bind_eq_some_iff.mp h
    refine J_callV (md' := md_X1_isOf) (As := [.inl s4.2, .inl 1]) (st := []) (cs' := (0, 0)) (st' := [.inl q7.1]) (jat ok_X5_zealots 13 (pc := 21) (i := .invokevirtual 136) (n := 3) rfl rfl) ml_RX5_136 yv_X1_isOf c9 (c_X1_isOf l g (d + 0) h8) (jRo_of (by decide)) (Nat.le_of_ble_eq_true rfl) ⟨Nat.le_of_ble_eq_true rfl, Nat.le_of_ble_eq_true rfl⟩ rfl rfl rfl ?_
    refine J_eq0 (jat ok_X5_zealots 14 (pc := 24) (i := .ifCond .eq 6) (n := 3) rfl rfl) (tgt := 30) (by decide) (fun c => ?_) (fun c => ?_)
    · have h := (if_pos c).symm.trans h
      refine J_seg ok_X5_zealots 16 2 (pc' := 4) (ls' := [(2, .inl (s4.2 + 1)), (0, .inr (.inr (.inl k0))), (1, .inl s4.1)]) (st' := []) rfl ?_
      exact J_sub (ls' := [(0, .inr (.inr (.inl k0))), (1, .inl s4.1), (2, .inl (s4.2 + 1))]) [1, 2, 0] rfl (hN ((s4.1, s4.2 + 1), q7.2) (Option.some.inj h).symm)
    · have h := (if_neg c).symm.trans h
      refine J_seg ok_X5_zealots 15 3 (pc' := 4) (ls' := [(2, .inl (s4.2 + 1)), (1, .inl (s4.1 + 1)), (0, .inr (.inr (.inl k0)))]) (st' := []) rfl ?_
      exact J_sub (ls' := [(0, .inr (.inr (.inl k0))), (1, .inl (s4.1 + 1)), (2, .inl (s4.2 + 1))]) [2, 1, 0] rfl (hN ((s4.1 + 1, s4.2 + 1), q7.2) (Option.some.inj h).symm)
def f_X5_zealots (x0 : Option Nat) (ah : AH) : Option (Int32 × AH) :=
  (jloop (f_X5_zealots_b4 x0) jfuel (0, 0) ah).bind fun q10 => match q10 with | .inl r => none | .inr z12 => some (z12.1, z12.2)
set_option maxRecDepth 100000 in
set_option maxHeartbeats 4000000 in
theorem k_X5_zealots {l : Launch} {g : GX} (d : Nat) {Q : jQ} {x0 : Option Nat} (ah : AH) (out : Int32 × AH) (h : f_X5_zealots x0 ah = some out) (hR : jRetI l g md_X5_zealots (jRm (d + 3) md_X5_zealots) Q (0, 0) out.1 out.2) : J l g md_X5_zealots (jRm (d + 3) md_X5_zealots) Q 0 [(0, .inr (.inr (.inl x0)))] [] ah (0, 0) := by
  unfold f_X5_zealots at h
  refine J_seg ok_X5_zealots 0 4 (pc' := 4) (ls' := [(2, .inl 0), (1, .inl 0), (0, .inr (.inr (.inl x0)))]) (st' := []) rfl ?_
  obtain ⟨q10, h11, h⟩ := Option.bind_eq_some_iff.mp h
  refine J_sub (ls' := [(0, .inr (.inr (.inl x0))), (1, .inl 0), (2, .inl 0)]) [2, 1, 0] rfl ?_
  refine J_loop (pE := 36) (lh := fun t13 => [(0, .inr (.inr (.inl x0))), (1, .inl t13.1), (2, .inl t13.2)]) (lx := fun z12 => [(1, .inl z12)]) (P := jRetN) (fun s ah out hb hR hX hN => k_X5_zealots_b4 d s ah out hb hR hX hN) jfuel (0, 0) _ _ h11 (fun r e => ?_) (fun z12 e => ?_)
  · subst e
    dsimp only at h
    cases h
  · subst e
    dsimp only at h
    refine J_seg ok_X5_zealots 18 1 (pc' := 37) (ls' := [(1, .inl z12.1)]) (st' := [.inl z12.1]) rfl ?_
    have h := Option.some.inj h
    subst h
    exact hR _ _ (jat ok_X5_zealots 19 (pc := 37) (i := .ireturn) (n := 1) rfl rfl)
theorem c_X5_zealots (l : Launch) (g : GX) (d : Nat) {x0 : Option Nat} {ah : AH} {q : Int32 × AH} (h : f_X5_zealots x0 ah = some q) : jM l g (d + 3) md_X5_zealots [.inr (.inr (.inl x0))] ah (some (.inl q.1)) q.2 :=
  jM_of (by decide) (Nat.le_of_ble_eq_true rfl) (k_X5_zealots d ah q h (fun pc ls hd => J_reti hd rfl (jPV_int _) rfl (Nat.le_refl _) rfl rfl))
def f_X5_count (x0 : Option Nat) (x1 : Int32) (ah : AH) : Option (Int32 × AH) :=
  if x1 = 0 then ((gR ah x0 5 8).bind fun v1 => (gI ah v1 1 5).bind fun v3 => some (v3, ah)) else (if x1 = 1 then ((gR ah x0 5 3).bind fun v5 => if qO ah v5 4 = true then ((f_X4_victimSet v5 ah).bind fun q7 => (f_J6_bitCount_0f7a4 q7.1 q7.2).bind fun q10 => some (q10.1, q10.2)) else none) else (if x1 = 2 then ((gR ah x0 5 8).bind fun v12 => (gI ah v12 1 6).bind fun v14 => some (v14, ah)) else (if x1 = 3 then ((gR ah x0 5 3).bind fun v16 => (gI ah v16 4 3).bind fun v18 => some (v18, ah)) else (if x1 = 4 then (if qO ah x0 5 = true then ((f_X5_reachedSet x0 ah).bind fun q20 => (f_J6_bitCount_0f7a4 q20.1 q20.2).bind fun q23 => some (q23.1, q23.2)) else none) else (if x1 = 5 then (if qO ah x0 5 = true then ((f_X5_allFines x0 ah).bind fun q25 => some (q25.1, q25.2)) else none) else (if x1 = 6 then (if qO ah x0 5 = true then ((f_X5_zealots x0 ah).bind fun q28 => some (q28.1, q28.2)) else none) else (if x1 = 7 then ((gR ah x0 5 0).bind fun v31 => (f_X5_present v31 ah).bind fun q33 => some (q33.1, q33.2)) else (if x1 = 8 then ((gR ah x0 5 1).bind fun v35 => (f_X5_present v35 ah).bind fun q37 => some (q37.1, q37.2)) else (if x1 = 9 then (if qO ah x0 5 = true then ((f_X5_keptTowns x0 ah).bind fun q39 => some (q39.1, q39.2)) else none) else (some ((-1), ah)))))))))))
set_option maxRecDepth 100000 in
set_option maxHeartbeats 4000000 in
theorem k_X5_count {l : Launch} {g : GX} (d : Nat) {Q : jQ} {x0 : Option Nat} {x1 : Int32} (ah : AH) (out : Int32 × AH) (h : f_X5_count x0 x1 ah = some out) (hR : jRetI l g md_X5_count (jRm (d + 4) md_X5_count) Q (0, 0) out.1 out.2) : J l g md_X5_count (jRm (d + 4) md_X5_count) Q 0 [(0, .inr (.inr (.inl x0))), (1, .inl x1)] [] ah (0, 0) := by
  unfold f_X5_count at h
  refine J_seg ok_X5_count 0 1 (pc' := 1) (ls' := [(0, .inr (.inr (.inl x0))), (1, .inl x1)]) (st' := [.inl x1]) rfl ?_
  by_cases c0 : x1 = 0
  · have h := (if_pos c0).symm.trans h
    refine J_tabIn sw_X5_count_1 (off := 55) (tgt := 56) (by rw [c0]; decide) (by rw [c0]; decide) (by rw [c0]; decide) (by decide) ?_
    refine J_seg ok_X5_count 1 1 (pc' := 57) (ls' := [(0, .inr (.inr (.inl x0))), (1, .inl x1)]) (st' := [.inr (.inr (.inl x0))]) rfl ?_
    obtain ⟨v1, h2, h⟩ := Option.bind_eq_some_iff.mp h
    refine J_getR (jat ok_X5_count 2 (pc := 57) (i := .getfield 53) (n := 3) rfl rfl) fl_RX5_53 h2 ?_
    obtain ⟨v3, h4, h⟩ := Option.bind_eq_some_iff.mp h
    refine J_getI (jat ok_X5_count 3 (pc := 60) (i := .getfield 127) (n := 3) rfl rfl) fl_RX5_127 h4 ?_
    have h := Option.some.inj h
    subst h
    exact hR _ _ (jat ok_X5_count 4 (pc := 63) (i := .ireturn) (n := 1) rfl rfl)
  · have h := (if_neg c0).symm.trans h
    by_cases c1 : x1 = 1
    · have h := (if_pos c1).symm.trans h
      refine J_tabIn sw_X5_count_1 (off := 63) (tgt := 64) (by rw [c1]; decide) (by rw [c1]; decide) (by rw [c1]; decide) (by decide) ?_
      refine J_seg ok_X5_count 5 1 (pc' := 65) (ls' := [(0, .inr (.inr (.inl x0))), (1, .inl x1)]) (st' := [.inr (.inr (.inl x0))]) rfl ?_
      obtain ⟨v5, h6, h⟩ := Option.bind_eq_some_iff.mp h
      refine J_getR (jat ok_X5_count 6 (pc := 65) (i := .getfield 28) (n := 3) rfl rfl) fl_RX5_28 h6 ?_
      by_cases c9 : qO ah v5 4 = true
      case neg => exact absurd ((if_neg c9).symm.trans h) (by simp)
      have h := (if_pos c9).symm.trans h
      obtain ⟨q7, h8, h⟩ := Option.bind_eq_some_iff.mp h
      refine J_callV (md' := md_X4_victimSet) (As := []) (st := []) (cs' := (0, 0)) (st' := [.inl q7.1]) (jat ok_X5_count 7 (pc := 68) (i := .invokevirtual 222) (n := 3) rfl rfl) ml_RX5_222 yv_X4_victimSet c9 (c_X4_victimSet l g (d + 1) h8) (jRo_of (by decide)) (Nat.le_of_ble_eq_true rfl) ⟨Nat.le_of_ble_eq_true rfl, Nat.le_of_ble_eq_true rfl⟩ rfl rfl rfl ?_
      obtain ⟨q10, h11, h⟩ := Option.bind_eq_some_iff.mp h
      refine J_callS (md' := md_J6_bitCount_0f7a4) (As := [.inl q7.1]) (st := []) (cs' := (0, 0)) (st' := [.inl q10.1]) (jat ok_X5_count 8 (pc := 71) (i := .invokestatic 148) (n := 3) rfl rfl) (Or.inl ml_RX5_148) ys_J6_bitCount_0f7a4 (c_J6_bitCount_0f7a4 l g (d + 3) h11) (jRo_of (by decide)) (Nat.le_of_ble_eq_true rfl) ⟨Nat.le_of_ble_eq_true rfl, Nat.le_of_ble_eq_true rfl⟩ rfl rfl rfl ?_
      have h := Option.some.inj h
      subst h
      exact hR _ _ (jat ok_X5_count 9 (pc := 74) (i := .ireturn) (n := 1) rfl rfl)
    · have h := (if_neg c1).symm.trans h
      by_cases c2 : x1 = 2
      · have h := (if_pos c2).symm.trans h
        refine J_tabIn sw_X5_count_1 (off := 74) (tgt := 75) (by rw [c2]; decide) (by rw [c2]; decide) (by rw [c2]; decide) (by decide) ?_
        refine J_seg ok_X5_count 10 1 (pc' := 76) (ls' := [(0, .inr (.inr (.inl x0))), (1, .inl x1)]) (st' := [.inr (.inr (.inl x0))]) rfl ?_
        obtain ⟨v12, h13, h⟩ := Option.bind_eq_some_iff.mp h
        refine J_getR (jat ok_X5_count 11 (pc := 76) (i := .getfield 53) (n := 3) rfl rfl) fl_RX5_53 h13 ?_
        obtain ⟨v14, h15, h⟩ := Option.bind_eq_some_iff.mp h
        refine J_getI (jat ok_X5_count 12 (pc := 79) (i := .getfield 282) (n := 3) rfl rfl) fl_RX5_282 h15 ?_
        have h := Option.some.inj h
        subst h
        exact hR _ _ (jat ok_X5_count 13 (pc := 82) (i := .ireturn) (n := 1) rfl rfl)
      · have h := (if_neg c2).symm.trans h
        by_cases c3 : x1 = 3
        · have h := (if_pos c3).symm.trans h
          refine J_tabIn sw_X5_count_1 (off := 82) (tgt := 83) (by rw [c3]; decide) (by rw [c3]; decide) (by rw [c3]; decide) (by decide) ?_
          refine J_seg ok_X5_count 14 1 (pc' := 84) (ls' := [(0, .inr (.inr (.inl x0))), (1, .inl x1)]) (st' := [.inr (.inr (.inl x0))]) rfl ?_
          obtain ⟨v16, h17, h⟩ := Option.bind_eq_some_iff.mp h
          refine J_getR (jat ok_X5_count 15 (pc := 84) (i := .getfield 28) (n := 3) rfl rfl) fl_RX5_28 h17 ?_
          obtain ⟨v18, h19, h⟩ := Option.bind_eq_some_iff.mp h
          refine J_getI (jat ok_X5_count 16 (pc := 87) (i := .getfield 172) (n := 3) rfl rfl) fl_RX5_172 h19 ?_
          have h := Option.some.inj h
          subst h
          exact hR _ _ (jat ok_X5_count 17 (pc := 90) (i := .ireturn) (n := 1) rfl rfl)
        · have h := (if_neg c3).symm.trans h
          by_cases c4 : x1 = 4
          · have h := (if_pos c4).symm.trans h
            refine J_tabIn sw_X5_count_1 (off := 90) (tgt := 91) (by rw [c4]; decide) (by rw [c4]; decide) (by rw [c4]; decide) (by decide) ?_
            refine J_seg ok_X5_count 18 1 (pc' := 92) (ls' := [(0, .inr (.inr (.inl x0))), (1, .inl x1)]) (st' := [.inr (.inr (.inl x0))]) rfl ?_
            by_cases c22 : qO ah x0 5 = true
            case neg => exact absurd ((if_neg c22).symm.trans h) (by simp)
            have h := (if_pos c22).symm.trans h
            obtain ⟨q20, h21, h⟩ := Option.bind_eq_some_iff.mp h
            refine J_callV (md' := md_X5_reachedSet) (As := []) (st := []) (cs' := (0, 0)) (st' := [.inl q20.1]) (jat ok_X5_count 19 (pc := 92) (i := .invokevirtual 285) (n := 3) rfl rfl) ml_RX5_285 yv_X5_reachedSet c22 (c_X5_reachedSet l g (d + 0) h21) (jRo_of (by decide)) (Nat.le_of_ble_eq_true rfl) ⟨Nat.le_of_ble_eq_true rfl, Nat.le_of_ble_eq_true rfl⟩ rfl rfl rfl ?_
            obtain ⟨q23, h24, h⟩ := Option.bind_eq_some_iff.mp h
            refine J_callS (md' := md_J6_bitCount_0f7a4) (As := [.inl q20.1]) (st := []) (cs' := (0, 0)) (st' := [.inl q23.1]) (jat ok_X5_count 20 (pc := 95) (i := .invokestatic 148) (n := 3) rfl rfl) (Or.inl ml_RX5_148) ys_J6_bitCount_0f7a4 (c_J6_bitCount_0f7a4 l g (d + 3) h24) (jRo_of (by decide)) (Nat.le_of_ble_eq_true rfl) ⟨Nat.le_of_ble_eq_true rfl, Nat.le_of_ble_eq_true rfl⟩ rfl rfl rfl ?_
            have h := Option.some.inj h
            subst h
            exact hR _ _ (jat ok_X5_count 21 (pc := 98) (i := .ireturn) (n := 1) rfl rfl)
          · have h := (if_neg c4).symm.trans h
            by_cases c5 : x1 = 5
            · have h := (if_pos c5).symm.trans h
              refine J_tabIn sw_X5_count_1 (off := 98) (tgt := 99) (by rw [c5]; decide) (by rw [c5]; decide) (by rw [c5]; decide) (by decide) ?_
              refine J_seg ok_X5_count 22 1 (pc' := 100) (ls' := [(0, .inr (.inr (.inl x0))), (1, .inl x1)]) (st' := [.inr (.inr (.inl x0))]) rfl ?_
              by_cases c27 : qO ah x0 5 = true
              case neg => exact absurd ((if_neg c27).symm.trans h) (by simp)
              have h := (if_pos c27).symm.trans h
              obtain ⟨q25, h26, h⟩ := Option.bind_eq_some_iff.mp h
              refine J_callV (md' := md_X5_allFines) (As := []) (st := []) (cs' := (0, 0)) (st' := [.inl q25.1]) (jat ok_X5_count 23 (pc := 100) (i := .invokevirtual 288) (n := 3) rfl rfl) ml_RX5_288 yv_X5_allFines c27 (c_X5_allFines l g (d + 1) h26) (jRo_of (by decide)) (Nat.le_of_ble_eq_true rfl) ⟨Nat.le_of_ble_eq_true rfl, Nat.le_of_ble_eq_true rfl⟩ rfl rfl rfl ?_
              have h := Option.some.inj h
              subst h
              exact hR _ _ (jat ok_X5_count 24 (pc := 103) (i := .ireturn) (n := 1) rfl rfl)
            · have h := (if_neg c5).symm.trans h
              by_cases c6 : x1 = 6
              · have h := (if_pos c6).symm.trans h
                refine J_tabIn sw_X5_count_1 (off := 103) (tgt := 104) (by rw [c6]; decide) (by rw [c6]; decide) (by rw [c6]; decide) (by decide) ?_
                refine J_seg ok_X5_count 25 1 (pc' := 105) (ls' := [(0, .inr (.inr (.inl x0))), (1, .inl x1)]) (st' := [.inr (.inr (.inl x0))]) rfl ?_
                by_cases c30 : qO ah x0 5 = true
                case neg => exact absurd ((if_neg c30).symm.trans h) (by simp)
                have h := (if_pos c30).symm.trans h
                obtain ⟨q28, h29, h⟩ := Option.bind_eq_some_iff.mp h
                refine J_callV (md' := md_X5_zealots) (As := []) (st := []) (cs' := (0, 0)) (st' := [.inl q28.1]) (jat ok_X5_count 26 (pc := 105) (i := .invokevirtual 291) (n := 3) rfl rfl) ml_RX5_291 yv_X5_zealots c30 (c_X5_zealots l g (d + 0) h29) (jRo_of (by decide)) (Nat.le_of_ble_eq_true rfl) ⟨Nat.le_of_ble_eq_true rfl, Nat.le_of_ble_eq_true rfl⟩ rfl rfl rfl ?_
                have h := Option.some.inj h
                subst h
                exact hR _ _ (jat ok_X5_count 27 (pc := 108) (i := .ireturn) (n := 1) rfl rfl)
              · have h := (if_neg c6).symm.trans h
                by_cases c7 : x1 = 7
                · have h := (if_pos c7).symm.trans h
                  refine J_tabIn sw_X5_count_1 (off := 108) (tgt := 109) (by rw [c7]; decide) (by rw [c7]; decide) (by rw [c7]; decide) (by decide) ?_
                  refine J_seg ok_X5_count 28 1 (pc' := 110) (ls' := [(0, .inr (.inr (.inl x0))), (1, .inl x1)]) (st' := [.inr (.inr (.inl x0))]) rfl ?_
                  obtain ⟨v31, h32, h⟩ := Option.bind_eq_some_iff.mp h
                  refine J_getR (jat ok_X5_count 29 (pc := 110) (i := .getfield 11) (n := 3) rfl rfl) fl_RX5_11 h32 ?_
                  obtain ⟨q33, h34, h⟩ := Option.bind_eq_some_iff.mp h
                  refine J_callS (md' := md_X5_present) (As := [.inr (.inr (.inl v31))]) (st := []) (cs' := (0, 0)) (st' := [.inl q33.1]) (jat ok_X5_count 30 (pc := 113) (i := .invokestatic 294) (n := 3) rfl rfl) (Or.inl ml_RX5_294) ys_X5_present (c_X5_present l g (d + 2) h34) (jRo_of (by decide)) (Nat.le_of_ble_eq_true rfl) ⟨Nat.le_of_ble_eq_true rfl, Nat.le_of_ble_eq_true rfl⟩ rfl rfl rfl ?_
                  have h := Option.some.inj h
                  subst h
                  exact hR _ _ (jat ok_X5_count 31 (pc := 116) (i := .ireturn) (n := 1) rfl rfl)
                · have h := (if_neg c7).symm.trans h
                  by_cases c8 : x1 = 8
                  · have h := (if_pos c8).symm.trans h
                    refine J_tabIn sw_X5_count_1 (off := 116) (tgt := 117) (by rw [c8]; decide) (by rw [c8]; decide) (by rw [c8]; decide) (by decide) ?_
                    refine J_seg ok_X5_count 32 1 (pc' := 118) (ls' := [(0, .inr (.inr (.inl x0))), (1, .inl x1)]) (st' := [.inr (.inr (.inl x0))]) rfl ?_
                    obtain ⟨v35, h36, h⟩ := Option.bind_eq_some_iff.mp h
                    refine J_getR (jat ok_X5_count 33 (pc := 118) (i := .getfield 15) (n := 3) rfl rfl) fl_RX5_15 h36 ?_
                    obtain ⟨q37, h38, h⟩ := Option.bind_eq_some_iff.mp h
                    refine J_callS (md' := md_X5_present) (As := [.inr (.inr (.inl v35))]) (st := []) (cs' := (0, 0)) (st' := [.inl q37.1]) (jat ok_X5_count 34 (pc := 121) (i := .invokestatic 294) (n := 3) rfl rfl) (Or.inl ml_RX5_294) ys_X5_present (c_X5_present l g (d + 2) h38) (jRo_of (by decide)) (Nat.le_of_ble_eq_true rfl) ⟨Nat.le_of_ble_eq_true rfl, Nat.le_of_ble_eq_true rfl⟩ rfl rfl rfl ?_
                    have h := Option.some.inj h
                    subst h
                    exact hR _ _ (jat ok_X5_count 35 (pc := 124) (i := .ireturn) (n := 1) rfl rfl)
                  · have h := (if_neg c8).symm.trans h
                    by_cases c9 : x1 = 9
                    · have h := (if_pos c9).symm.trans h
                      refine J_tabIn sw_X5_count_1 (off := 124) (tgt := 125) (by rw [c9]; decide) (by rw [c9]; decide) (by rw [c9]; decide) (by decide) ?_
                      refine J_seg ok_X5_count 36 1 (pc' := 126) (ls' := [(0, .inr (.inr (.inl x0))), (1, .inl x1)]) (st' := [.inr (.inr (.inl x0))]) rfl ?_
                      by_cases c41 : qO ah x0 5 = true
                      case neg => exact absurd ((if_neg c41).symm.trans h) (by simp)
                      have h := (if_pos c41).symm.trans h
                      obtain ⟨q39, h40, h⟩ := Option.bind_eq_some_iff.mp h
                      refine J_callV (md' := md_X5_keptTowns) (As := []) (st := []) (cs' := (0, 0)) (st' := [.inl q39.1]) (jat ok_X5_count 37 (pc := 126) (i := .invokevirtual 298) (n := 3) rfl rfl) ml_RX5_298 yv_X5_keptTowns c41 (c_X5_keptTowns l g (d + 3) h40) (jRo_of (by decide)) (Nat.le_of_ble_eq_true rfl) ⟨Nat.le_of_ble_eq_true rfl, Nat.le_of_ble_eq_true rfl⟩ rfl rfl rfl ?_
                      have h := Option.some.inj h
                      subst h
                      exact hR _ _ (jat ok_X5_count 38 (pc := 129) (i := .ireturn) (n := 1) rfl rfl)
                    · have h := (if_neg c9).symm.trans h
                      have c0 := jtoInt_ne (n := 0) (by decide) c0
                      have c1 := jtoInt_ne (n := 1) (by decide) c1
                      have c2 := jtoInt_ne (n := 2) (by decide) c2
                      have c3 := jtoInt_ne (n := 3) (by decide) c3
                      have c4 := jtoInt_ne (n := 4) (by decide) c4
                      have c5 := jtoInt_ne (n := 5) (by decide) c5
                      have c6 := jtoInt_ne (n := 6) (by decide) c6
                      have c7 := jtoInt_ne (n := 7) (by decide) c7
                      have c8 := jtoInt_ne (n := 8) (by decide) c8
                      have c9 := jtoInt_ne (n := 9) (by decide) c9
                      refine J_tabOut sw_X5_count_1 (tgt := 130) (by omega) (by decide) ?_
                      refine J_seg ok_X5_count 39 1 (pc' := 131) (ls' := [(0, .inr (.inr (.inl x0))), (1, .inl x1)]) (st' := [.inl (-1)]) rfl ?_
                      have h := Option.some.inj h
                      subst h
                      exact hR _ _ (jat ok_X5_count 40 (pc := 131) (i := .ireturn) (n := 1) rfl rfl)
theorem c_X5_count (l : Launch) (g : GX) (d : Nat) {x0 : Option Nat} {x1 : Int32} {ah : AH} {q : Int32 × AH} (h : f_X5_count x0 x1 ah = some q) : jM l g (d + 4) md_X5_count [.inr (.inr (.inl x0)), .inl x1] ah (some (.inl q.1)) q.2 :=
  jM_of (by decide) (Nat.le_of_ble_eq_true rfl) (k_X5_count d ah q h (fun pc ls hd => J_reti hd rfl (jPV_int _) rfl (Nat.le_refl _) rfl rfl))
def f_X5_finding (x0 : Option Nat) (ah : AH) : Option (Int32 × AH) :=
  (gI ah x0 5 10).bind fun v1 => some (v1, ah)
set_option maxRecDepth 100000 in
set_option maxHeartbeats 4000000 in
theorem k_X5_finding {l : Launch} {g : GX} (d : Nat) {Q : jQ} {x0 : Option Nat} (ah : AH) (out : Int32 × AH) (h : f_X5_finding x0 ah = some out) (hR : jRetI l g md_X5_finding (jRm (d + 0) md_X5_finding) Q (0, 0) out.1 out.2) : J l g md_X5_finding (jRm (d + 0) md_X5_finding) Q 0 [(0, .inr (.inr (.inl x0)))] [] ah (0, 0) := by
  unfold f_X5_finding at h
  refine J_seg ok_X5_finding 0 1 (pc' := 1) (ls' := [(0, .inr (.inr (.inl x0)))]) (st' := [.inr (.inr (.inl x0))]) rfl ?_
  obtain ⟨v1, h2, h⟩ := Option.bind_eq_some_iff.mp h
  refine J_getI (jat ok_X5_finding 1 (pc := 1) (i := .getfield 301) (n := 3) rfl rfl) fl_RX5_301 h2 ?_
  have h := Option.some.inj h
  subst h
  exact hR _ _ (jat ok_X5_finding 2 (pc := 4) (i := .ireturn) (n := 1) rfl rfl)
theorem c_X5_finding (l : Launch) (g : GX) (d : Nat) {x0 : Option Nat} {ah : AH} {q : Int32 × AH} (h : f_X5_finding x0 ah = some q) : jM l g (d + 0) md_X5_finding [.inr (.inr (.inl x0))] ah (some (.inl q.1)) q.2 :=
  jM_of (by decide) (Nat.le_of_ble_eq_true rfl) (k_X5_finding d ah q h (fun pc ls hd => J_reti hd rfl (jPV_int _) rfl (Nat.le_refl _) rfl rfl))
def f_X5_findings (x0 : Option Nat) (x1 : Int32) (ah : AH) : Option (Int32 × AH) :=
  if x1 < 1 then (some ((-1), ah)) else (if x1 ≤ 5 then ((gR ah x0 5 7).bind fun v1 => (gA ah v1 x1).bind fun v3 => some (v3, ah)) else (some ((-1), ah)))
set_option maxRecDepth 100000 in
set_option maxHeartbeats 4000000 in
theorem k_X5_findings {l : Launch} {g : GX} (d : Nat) {Q : jQ} {x0 : Option Nat} {x1 : Int32} (ah : AH) (out : Int32 × AH) (h : f_X5_findings x0 x1 ah = some out) (hR : jRetI l g md_X5_findings (jRm (d + 0) md_X5_findings) Q (0, 0) out.1 out.2) : J l g md_X5_findings (jRm (d + 0) md_X5_findings) Q 0 [(0, .inr (.inr (.inl x0))), (1, .inl x1)] [] ah (0, 0) := by
  unfold f_X5_findings at h
  refine J_seg ok_X5_findings 0 2 (pc' := 2) (ls' := [(0, .inr (.inr (.inl x0))), (1, .inl x1)]) (st' := [.inl 1, .inl x1]) rfl ?_
  refine J_lt (jat ok_X5_findings 2 (pc := 2) (i := .if_icmp .lt 8) (n := 3) rfl rfl) (tgt := 10) (by decide) (fun c => ?_) (fun c => ?_)
  · have h := (if_pos c).symm.trans h
    refine J_seg ok_X5_findings 6 2 (pc' := 20) (ls' := [(0, .inr (.inr (.inl x0))), (1, .inl x1)]) (st' := [.inl (-1)]) rfl ?_
    have h := Option.some.inj h
    subst h
    exact hR _ _ (jat ok_X5_findings 12 (pc := 20) (i := .ireturn) (n := 1) rfl rfl)
  · have h := (if_neg c).symm.trans h
    refine J_seg ok_X5_findings 3 2 (pc' := 7) (ls' := [(0, .inr (.inr (.inl x0))), (1, .inl x1)]) (st' := [.inl 5, .inl x1]) rfl ?_
    refine J_le (jat ok_X5_findings 5 (pc := 7) (i := .if_icmp .le 7) (n := 3) rfl rfl) (tgt := 14) (by decide) (fun c => ?_) (fun c => ?_)
    · have h := (if_pos c).symm.trans h
      refine J_seg ok_X5_findings 8 1 (pc' := 15) (ls' := [(0, .inr (.inr (.inl x0))), (1, .inl x1)]) (st' := [.inr (.inr (.inl x0))]) rfl ?_
      obtain ⟨v1, h2, h⟩ := Option.bind_eq_some_iff.mp h
      refine J_getR (jat ok_X5_findings 9 (pc := 15) (i := .getfield 47) (n := 3) rfl rfl) fl_RX5_47 h2 ?_
      refine J_seg ok_X5_findings 10 1 (pc' := 19) (ls' := [(0, .inr (.inr (.inl x0))), (1, .inl x1)]) (st' := [.inl x1, .inr (.inr (.inl v1))]) rfl ?_
      obtain ⟨v3, h4, h⟩ := Option.bind_eq_some_iff.mp h
      refine J_iald (jat ok_X5_findings 11 (pc := 19) (i := .iaload) (n := 1) rfl rfl) h4 ?_
      have h := Option.some.inj h
      subst h
      exact hR _ _ (jat ok_X5_findings 12 (pc := 20) (i := .ireturn) (n := 1) rfl rfl)
    · have h := (if_neg c).symm.trans h
      refine J_seg ok_X5_findings 6 2 (pc' := 20) (ls' := [(0, .inr (.inr (.inl x0))), (1, .inl x1)]) (st' := [.inl (-1)]) rfl ?_
      have h := Option.some.inj h
      subst h
      exact hR _ _ (jat ok_X5_findings 12 (pc := 20) (i := .ireturn) (n := 1) rfl rfl)
theorem c_X5_findings (l : Launch) (g : GX) (d : Nat) {x0 : Option Nat} {x1 : Int32} {ah : AH} {q : Int32 × AH} (h : f_X5_findings x0 x1 ah = some q) : jM l g (d + 0) md_X5_findings [.inr (.inr (.inl x0)), .inl x1] ah (some (.inl q.1)) q.2 :=
  jM_of (by decide) (Nat.le_of_ble_eq_true rfl) (k_X5_findings d ah q h (fun pc ls hd => J_reti hd rfl (jPV_int _) rfl (Nat.le_refl _) rfl rfl))
def f_X5_digest_b6 (k0 : Option Nat) (s6 : Int64 × Int32) (ah : AH) : Option ((Unit × AH) ⊕ (((Int64) × AH) ⊕ ((Int64 × Int32) × AH))) :=
  if 10 ≤ s6.2 then (some (.inr (.inl (s6.1, ah)))) else (if qO ah k0 5 = true then ((f_X5_count k0 s6.2 ah).bind fun q1 => some (.inr (.inr (((31 * s6.1) + (Int32.toInt64 q1.1), s6.2 + 1), q1.2)))) else none)
set_option maxRecDepth 100000 in
set_option maxHeartbeats 4000000 in
theorem k_X5_digest_b6 {l : Launch} {g : GX} (d : Nat) {Q : jQ} {k0 : Option Nat} (s6 : Int64 × Int32) (ah : AH) (out : (Unit × AH) ⊕ (((Int64) × AH) ⊕ ((Int64 × Int32) × AH))) (h : f_X5_digest_b6 k0 s6 ah = some out) (hR : ∀ q, out = .inl q → jRetN q.1 q.2) (hX : ∀ q, out = .inr (.inl q) → J l g md_X5_digest (jRm (d + 5) md_X5_digest) Q 31 [(0, .inr (.inr (.inl k0))), (1, .inr (.inl q.1))] [] q.2 (0, 0)) (hN : ∀ q, out = .inr (.inr q) → J l g md_X5_digest (jRm (d + 5) md_X5_digest) Q 6 [(0, .inr (.inr (.inl k0))), (1, .inr (.inl q.1.1)), (3, .inl q.1.2)] [] q.2 (0, 0)) : J l g md_X5_digest (jRm (d + 5) md_X5_digest) Q 6 [(0, .inr (.inr (.inl k0))), (1, .inr (.inl s6.1)), (3, .inl s6.2)] [] ah (0, 0) := by
  unfold f_X5_digest_b6 at h
  refine J_seg ok_X5_digest 4 2 (pc' := 9) (ls' := [(0, .inr (.inr (.inl k0))), (1, .inr (.inl s6.1)), (3, .inl s6.2)]) (st' := [.inl 10, .inl s6.2]) rfl ?_
  refine J_ge (jat ok_X5_digest 6 (pc := 9) (i := .if_icmp .ge 22) (n := 3) rfl rfl) (tgt := 31) (by decide) (fun c => ?_) (fun c => ?_)
  · have h := (if_pos c).symm.trans h
    exact J_sub (ls' := [(0, .inr (.inr (.inl k0))), (1, .inr (.inl s6.1))]) [0, 1] rfl (hX (s6.1, ah) (Option.some.inj h).symm)
  · have h := (if_neg c).symm.trans h
    refine J_ldc2 (jat ok_X5_digest 7 (pc := 12) (i := .ldc2_w 306) (n := 3) rfl rfl) lc_RX5_306 ?_
    refine J_seg ok_X5_digest 8 4 (pc' := 19) (ls' := [(0, .inr (.inr (.inl k0))), (1, .inr (.inl s6.1)), (3, .inl s6.2)]) (st' := [.inl s6.2, .inr (.inr (.inl k0)), .inr (.inl (31 * s6.1))]) rfl ?_
    by_cases c3 : qO ah k0 5 = true
    case neg => exact absurd ((if_neg c3).symm.trans h) (by simp)
    have h := (if_pos c3).symm.trans h
    obtain ⟨q1, h2, h⟩ := Option.bind_eq_some_iff.mp h
    refine J_callV (md' := md_X5_count) (As := [.inl s6.2]) (st := [.inr (.inl (31 * s6.1))]) (cs' := (0, 0)) (st' := [.inl q1.1, .inr (.inl (31 * s6.1))]) (jat ok_X5_digest 12 (pc := 19) (i := .invokevirtual 308) (n := 3) rfl rfl) ml_RX5_308 yv_X5_count c3 (c_X5_count l g (d + 0) h2) (jRo_of (by decide)) (Nat.le_of_ble_eq_true rfl) ⟨Nat.le_of_ble_eq_true rfl, Nat.le_of_ble_eq_true rfl⟩ rfl rfl rfl ?_
    refine J_seg ok_X5_digest 13 5 (pc' := 6) (ls' := [(3, .inl (s6.2 + 1)), (1, .inr (.inl ((31 * s6.1) + (Int32.toInt64 q1.1)))), (0, .inr (.inr (.inl k0)))]) (st' := []) rfl ?_
    exact J_sub (ls' := [(0, .inr (.inr (.inl k0))), (1, .inr (.inl ((31 * s6.1) + (Int32.toInt64 q1.1)))), (3, .inl (s6.2 + 1))]) [2, 1, 0] rfl (hN (((31 * s6.1) + (Int32.toInt64 q1.1), s6.2 + 1), q1.2) (Option.some.inj h).symm)
def f_X5_digest_b47 (k0 : Option Nat) (k3 : Int32) (s47 : Int64 × Int32) (ah : AH) : Option ((Unit × AH) ⊕ (((Int64) × AH) ⊕ ((Int64 × Int32) × AH))) :=
  if 9 ≤ s47.2 then (some (.inr (.inl (s47.1, ah)))) else (if qO ah k0 5 = true then ((f_X5_trait k0 k3 s47.2 ah).bind fun q12 => some (.inr (.inr (((31 * s47.1) + (Int32.toInt64 q12.1), s47.2 + 1), q12.2)))) else none)
set_option maxRecDepth 100000 in
set_option maxHeartbeats 4000000 in
theorem k_X5_digest_b47 {l : Launch} {g : GX} (d : Nat) {Q : jQ} {k0 : Option Nat} {k3 : Int32} (s47 : Int64 × Int32) (ah : AH) (out : (Unit × AH) ⊕ (((Int64) × AH) ⊕ ((Int64 × Int32) × AH))) (h : f_X5_digest_b47 k0 k3 s47 ah = some out) (hR : ∀ q, out = .inl q → jRetN q.1 q.2) (hX : ∀ q, out = .inr (.inl q) → J l g md_X5_digest (jRm (d + 5) md_X5_digest) Q 75 [(0, .inr (.inr (.inl k0))), (1, .inr (.inl q.1)), (3, .inl k3)] [] q.2 (0, 0)) (hN : ∀ q, out = .inr (.inr q) → J l g md_X5_digest (jRm (d + 5) md_X5_digest) Q 47 [(0, .inr (.inr (.inl k0))), (1, .inr (.inl q.1.1)), (3, .inl k3), (4, .inl q.1.2)] [] q.2 (0, 0)) : J l g md_X5_digest (jRm (d + 5) md_X5_digest) Q 47 [(0, .inr (.inr (.inl k0))), (1, .inr (.inl s47.1)), (3, .inl k3), (4, .inl s47.2)] [] ah (0, 0) := by
  unfold f_X5_digest_b47 at h
  refine J_seg ok_X5_digest 27 2 (pc' := 51) (ls' := [(0, .inr (.inr (.inl k0))), (1, .inr (.inl s47.1)), (3, .inl k3), (4, .inl s47.2)]) (st' := [.inl 9, .inl s47.2]) rfl ?_
  refine J_ge (jat ok_X5_digest 29 (pc := 51) (i := .if_icmp .ge 24) (n := 3) rfl rfl) (tgt := 75) (by decide) (fun c => ?_) (fun c => ?_)
  · have h := (if_pos c).symm.trans h
    exact J_sub (ls' := [(0, .inr (.inr (.inl k0))), (1, .inr (.inl s47.1)), (3, .inl k3)]) [0, 1, 2] rfl (hX (s47.1, ah) (Option.some.inj h).symm)
  · have h := (if_neg c).symm.trans h
    refine J_ldc2 (jat ok_X5_digest 30 (pc := 54) (i := .ldc2_w 306) (n := 3) rfl rfl) lc_RX5_306 ?_
    refine J_seg ok_X5_digest 31 5 (pc' := 63) (ls' := [(0, .inr (.inr (.inl k0))), (1, .inr (.inl s47.1)), (3, .inl k3), (4, .inl s47.2)]) (st' := [.inl s47.2, .inl k3, .inr (.inr (.inl k0)), .inr (.inl (31 * s47.1))]) rfl ?_
    by_cases c14 : qO ah k0 5 = true
    case neg => exact absurd ((if_neg c14).symm.trans h) (by simp)
    have h := (if_pos c14).symm.trans h
    obtain ⟨q12, h13, h⟩ := Option.bind_eq_some_iff.mp h
    refine J_callV (md' := md_X5_trait) (As := [.inl k3, .inl s47.2]) (st := [.inr (.inl (31 * s47.1))]) (cs' := (0, 0)) (st' := [.inl q12.1, .inr (.inl (31 * s47.1))]) (jat ok_X5_digest 36 (pc := 63) (i := .invokevirtual 132) (n := 3) rfl rfl) ml_RX5_132 yv_X5_trait c14 (c_X5_trait l g (d + 1) h13) (jRo_of (by decide)) (Nat.le_of_ble_eq_true rfl) ⟨Nat.le_of_ble_eq_true rfl, Nat.le_of_ble_eq_true rfl⟩ rfl rfl rfl ?_
    refine J_seg ok_X5_digest 37 5 (pc' := 47) (ls' := [(4, .inl (s47.2 + 1)), (1, .inr (.inl ((31 * s47.1) + (Int32.toInt64 q12.1)))), (0, .inr (.inr (.inl k0))), (3, .inl k3)]) (st' := []) rfl ?_
    exact J_sub (ls' := [(0, .inr (.inr (.inl k0))), (1, .inr (.inl ((31 * s47.1) + (Int32.toInt64 q12.1)))), (3, .inl k3), (4, .inl (s47.2 + 1))]) [2, 1, 3, 0] rfl (hN (((31 * s47.1) + (Int32.toInt64 q12.1), s47.2 + 1), q12.2) (Option.some.inj h).symm)
def f_X5_digest_b33 (k0 : Option Nat) (s33 : Int64 × Int32) (ah : AH) : Option ((Unit × AH) ⊕ (((Int64) × AH) ⊕ ((Int64 × Int32) × AH))) :=
  (gR ah k0 5 8).bind fun v8 => (gI ah v8 1 5).bind fun v10 => if v10 ≤ s33.2 then (some (.inr (.inl (s33.1, ah)))) else ((jloop (f_X5_digest_b47 k0 s33.2) jfuel (s33.1, 0) ah).bind fun q15 => match q15 with | .inl r => none | .inr z17 => some (.inr (.inr ((z17.1, s33.2 + 1), z17.2))))
set_option maxRecDepth 100000 in
set_option maxHeartbeats 4000000 in
theorem k_X5_digest_b33 {l : Launch} {g : GX} (d : Nat) {Q : jQ} {k0 : Option Nat} (s33 : Int64 × Int32) (ah : AH) (out : (Unit × AH) ⊕ (((Int64) × AH) ⊕ ((Int64 × Int32) × AH))) (h : f_X5_digest_b33 k0 s33 ah = some out) (hR : ∀ q, out = .inl q → jRetN q.1 q.2) (hX : ∀ q, out = .inr (.inl q) → J l g md_X5_digest (jRm (d + 5) md_X5_digest) Q 81 [(0, .inr (.inr (.inl k0))), (1, .inr (.inl q.1))] [] q.2 (0, 0)) (hN : ∀ q, out = .inr (.inr q) → J l g md_X5_digest (jRm (d + 5) md_X5_digest) Q 33 [(0, .inr (.inr (.inl k0))), (1, .inr (.inl q.1.1)), (3, .inl q.1.2)] [] q.2 (0, 0)) : J l g md_X5_digest (jRm (d + 5) md_X5_digest) Q 33 [(0, .inr (.inr (.inl k0))), (1, .inr (.inl s33.1)), (3, .inl s33.2)] [] ah (0, 0) := by
  unfold f_X5_digest_b33 at h
  refine J_seg ok_X5_digest 20 2 (pc' := 35) (ls' := [(0, .inr (.inr (.inl k0))), (1, .inr (.inl s33.1)), (3, .inl s33.2)]) (st' := [.inr (.inr (.inl k0)), .inl s33.2]) rfl ?_
  obtain ⟨v8, h9, h⟩ := Option.bind_eq_some_iff.mp h
  refine J_getR (jat ok_X5_digest 22 (pc := 35) (i := .getfield 53) (n := 3) rfl rfl) fl_RX5_53 h9 ?_
  obtain ⟨v10, h11, h⟩ := Option.bind_eq_some_iff.mp h
  refine J_getI (jat ok_X5_digest 23 (pc := 38) (i := .getfield 127) (n := 3) rfl rfl) fl_RX5_127 h11 ?_
  refine J_ge (jat ok_X5_digest 24 (pc := 41) (i := .if_icmp .ge 40) (n := 3) rfl rfl) (tgt := 81) (by decide) (fun c => ?_) (fun c => ?_)
  · have h := (if_pos c).symm.trans h
    exact J_sub (ls' := [(0, .inr (.inr (.inl k0))), (1, .inr (.inl s33.1))]) [0, 1] rfl (hX (s33.1, ah) (Option.some.inj h).symm)
  · have h := (if_neg c).symm.trans h
    refine J_seg ok_X5_digest 25 2 (pc' := 47) (ls' := [(4, .inl 0), (0, .inr (.inr (.inl k0))), (1, .inr (.inl s33.1)), (3, .inl s33.2)]) (st' := []) rfl ?_
    obtain ⟨q15, h16, h⟩ := Option.bind_eq_some_iff.mp h
    refine J_sub (ls' := [(0, .inr (.inr (.inl k0))), (1, .inr (.inl s33.1)), (3, .inl s33.2), (4, .inl 0)]) [1, 2, 3, 0] rfl ?_
    refine J_loop (pE := 75) (lh := fun t18 => [(0, .inr (.inr (.inl k0))), (1, .inr (.inl t18.1)), (3, .inl s33.2), (4, .inl t18.2)]) (lx := fun z17 => [(0, .inr (.inr (.inl k0))), (1, .inr (.inl z17)), (3, .inl s33.2)]) (P := jRetN) (fun s ah out hb hR hX hN => k_X5_digest_b47 d s ah out hb hR hX hN) jfuel (s33.1, 0) _ _ h16 (fun r e => ?_) (fun z17 e => ?_)
    · subst e
      dsimp only at h
      cases h
    · subst e
      dsimp only at h
      refine J_seg ok_X5_digest 42 2 (pc' := 33) (ls' := [(3, .inl (s33.2 + 1)), (0, .inr (.inr (.inl k0))), (1, .inr (.inl z17.1))]) (st' := []) rfl ?_
      exact J_sub (ls' := [(0, .inr (.inr (.inl k0))), (1, .inr (.inl z17.1)), (3, .inl (s33.2 + 1))]) [1, 2, 0] rfl (hN ((z17.1, s33.2 + 1), z17.2) (Option.some.inj h).symm)
def f_X5_digest_b93_j128 (k0 : Option Nat) (k3 : Option Nat) (k4 : Int32) (x5 : Int32) (y0 : Int32) (y1 : Int64) (ah : AH) : Option ((Unit × AH) ⊕ (((Int64) × AH) ⊕ ((Int64 × Int32) × AH))) :=
  some (.inr (.inr ((y1 + (Int32.toInt64 y0), x5 + 1), ah)))
set_option maxRecDepth 100000 in
set_option maxHeartbeats 4000000 in
theorem k_X5_digest_b93_j128 {l : Launch} {g : GX} (d : Nat) {Q : jQ} {k0 : Option Nat} {k3 : Option Nat} {k4 : Int32} {x5 : Int32} {y0 : Int32} {y1 : Int64} (ah : AH) (out : (Unit × AH) ⊕ (((Int64) × AH) ⊕ ((Int64 × Int32) × AH))) (h : f_X5_digest_b93_j128 k0 k3 k4 x5 y0 y1 ah = some out) (hR : ∀ q, out = .inl q → jRetN q.1 q.2) (hX : ∀ q, out = .inr (.inl q) → J l g md_X5_digest (jRm (d + 5) md_X5_digest) Q 137 [(0, .inr (.inr (.inl k0))), (1, .inr (.inl q.1))] [] q.2 (0, 0)) (hN : ∀ q, out = .inr (.inr q) → J l g md_X5_digest (jRm (d + 5) md_X5_digest) Q 93 [(0, .inr (.inr (.inl k0))), (1, .inr (.inl q.1.1)), (3, .inr (.inr (.inl k3))), (4, .inl k4), (5, .inl q.1.2)] [] q.2 (0, 0)) : J l g md_X5_digest (jRm (d + 5) md_X5_digest) Q 128 [(0, .inr (.inr (.inl k0))), (3, .inr (.inr (.inl k3))), (4, .inl k4), (5, .inl x5)] [.inl y0, .inr (.inl y1)] ah (0, 0) := by
  unfold f_X5_digest_b93_j128 at h
  refine J_seg ok_X5_digest 69 5 (pc' := 93) (ls' := [(5, .inl (x5 + 1)), (1, .inr (.inl (y1 + (Int32.toInt64 y0)))), (0, .inr (.inr (.inl k0))), (3, .inr (.inr (.inl k3))), (4, .inl k4)]) (st' := []) rfl ?_
  exact J_sub (ls' := [(0, .inr (.inr (.inl k0))), (1, .inr (.inl (y1 + (Int32.toInt64 y0)))), (3, .inr (.inr (.inl k3))), (4, .inl k4), (5, .inl (x5 + 1))]) [2, 1, 3, 4, 0] rfl (hN ((y1 + (Int32.toInt64 y0), x5 + 1), ah) (Option.some.inj h).symm)
def f_X5_digest_b93 (k0 : Option Nat) (k3 : Option Nat) (k4 : Int32) (s93 : Int64 × Int32) (ah : AH) : Option ((Unit × AH) ⊕ (((Int64) × AH) ⊕ ((Int64 × Int32) × AH))) :=
  if k4 ≤ s93.2 then (some (.inr (.inl (s93.1, ah)))) else ((gE ah k3 s93.2).bind fun v27 => (gI ah v27 4 4).bind fun v29 => if v29 = 0 then (f_X5_digest_b93_j128 k0 k3 k4 s93.2 (-1) (31 * s93.1) ah) else ((gI ah v27 4 3).bind fun v31 => f_X5_digest_b93_j128 k0 k3 k4 s93.2 v31 (31 * s93.1) ah))
set_option maxRecDepth 100000 in
set_option maxHeartbeats 4000000 in
theorem k_X5_digest_b93 {l : Launch} {g : GX} (d : Nat) {Q : jQ} {k0 : Option Nat} {k3 : Option Nat} {k4 : Int32} (s93 : Int64 × Int32) (ah : AH) (out : (Unit × AH) ⊕ (((Int64) × AH) ⊕ ((Int64 × Int32) × AH))) (h : f_X5_digest_b93 k0 k3 k4 s93 ah = some out) (hR : ∀ q, out = .inl q → jRetN q.1 q.2) (hX : ∀ q, out = .inr (.inl q) → J l g md_X5_digest (jRm (d + 5) md_X5_digest) Q 137 [(0, .inr (.inr (.inl k0))), (1, .inr (.inl q.1))] [] q.2 (0, 0)) (hN : ∀ q, out = .inr (.inr q) → J l g md_X5_digest (jRm (d + 5) md_X5_digest) Q 93 [(0, .inr (.inr (.inl k0))), (1, .inr (.inl q.1.1)), (3, .inr (.inr (.inl k3))), (4, .inl k4), (5, .inl q.1.2)] [] q.2 (0, 0)) : J l g md_X5_digest (jRm (d + 5) md_X5_digest) Q 93 [(0, .inr (.inr (.inl k0))), (1, .inr (.inl s93.1)), (3, .inr (.inr (.inl k3))), (4, .inl k4), (5, .inl s93.2)] [] ah (0, 0) := by
  unfold f_X5_digest_b93 at h
  refine J_seg ok_X5_digest 52 2 (pc' := 97) (ls' := [(0, .inr (.inr (.inl k0))), (1, .inr (.inl s93.1)), (3, .inr (.inr (.inl k3))), (4, .inl k4), (5, .inl s93.2)]) (st' := [.inl k4, .inl s93.2]) rfl ?_
  refine J_ge (jat ok_X5_digest 54 (pc := 97) (i := .if_icmp .ge 40) (n := 3) rfl rfl) (tgt := 137) (by decide) (fun c => ?_) (fun c => ?_)
  · have h := (if_pos c).symm.trans h
    exact J_sub (ls' := [(0, .inr (.inr (.inl k0))), (1, .inr (.inl s93.1))]) [0, 1] rfl (hX (s93.1, ah) (Option.some.inj h).symm)
  · have h := (if_neg c).symm.trans h
    refine J_seg ok_X5_digest 55 2 (pc' := 103) (ls' := [(0, .inr (.inr (.inl k0))), (1, .inr (.inl s93.1)), (3, .inr (.inr (.inl k3))), (4, .inl k4), (5, .inl s93.2)]) (st' := [.inl s93.2, .inr (.inr (.inl k3))]) rfl ?_
    obtain ⟨v27, h28, h⟩ := Option.bind_eq_some_iff.mp h
    refine J_aald (jat ok_X5_digest 57 (pc := 103) (i := .aaload) (n := 1) rfl rfl) h28 ?_
    refine J_seg ok_X5_digest 58 1 (pc' := 106) (ls' := [(6, .inr (.inr (.inl v27))), (0, .inr (.inr (.inl k0))), (1, .inr (.inl s93.1)), (3, .inr (.inr (.inl k3))), (4, .inl k4), (5, .inl s93.2)]) (st' := []) rfl ?_
    refine J_ldc2 (jat ok_X5_digest 59 (pc := 106) (i := .ldc2_w 306) (n := 3) rfl rfl) lc_RX5_306 ?_
    refine J_seg ok_X5_digest 60 3 (pc' := 113) (ls' := [(6, .inr (.inr (.inl v27))), (0, .inr (.inr (.inl k0))), (1, .inr (.inl s93.1)), (3, .inr (.inr (.inl k3))), (4, .inl k4), (5, .inl s93.2)]) (st' := [.inr (.inr (.inl v27)), .inr (.inl (31 * s93.1))]) rfl ?_
    obtain ⟨v29, h30, h⟩ := Option.bind_eq_some_iff.mp h
    refine J_getI (jat ok_X5_digest 63 (pc := 113) (i := .getfield 123) (n := 3) rfl rfl) fl_RX5_123 h30 ?_
    refine J_eq0 (jat ok_X5_digest 64 (pc := 116) (i := .ifCond .eq 11) (n := 3) rfl rfl) (tgt := 127) (by decide) (fun c => ?_) (fun c => ?_)
    · have h := (if_pos c).symm.trans h
      refine J_seg ok_X5_digest 68 1 (pc' := 128) (ls' := [(6, .inr (.inr (.inl v27))), (0, .inr (.inr (.inl k0))), (1, .inr (.inl s93.1)), (3, .inr (.inr (.inl k3))), (4, .inl k4), (5, .inl s93.2)]) (st' := [.inl (-1), .inr (.inl (31 * s93.1))]) rfl ?_
      refine J_sub (ls' := [(0, .inr (.inr (.inl k0))), (3, .inr (.inr (.inl k3))), (4, .inl k4), (5, .inl s93.2)]) [1, 3, 4, 5] rfl ?_
      exact k_X5_digest_b93_j128 d _ _ h hR hX hN
    · have h := (if_neg c).symm.trans h
      refine J_seg ok_X5_digest 65 1 (pc' := 121) (ls' := [(6, .inr (.inr (.inl v27))), (0, .inr (.inr (.inl k0))), (1, .inr (.inl s93.1)), (3, .inr (.inr (.inl k3))), (4, .inl k4), (5, .inl s93.2)]) (st' := [.inr (.inr (.inl v27)), .inr (.inl (31 * s93.1))]) rfl ?_
      obtain ⟨v31, h32, h⟩ := Option.bind_eq_some_iff.mp h
      refine J_getI (jat ok_X5_digest 66 (pc := 121) (i := .getfield 172) (n := 3) rfl rfl) fl_RX5_172 h32 ?_
      refine J_seg ok_X5_digest 67 1 (pc' := 128) (ls' := [(6, .inr (.inr (.inl v27))), (0, .inr (.inr (.inl k0))), (1, .inr (.inl s93.1)), (3, .inr (.inr (.inl k3))), (4, .inl k4), (5, .inl s93.2)]) (st' := [.inl v31, .inr (.inl (31 * s93.1))]) rfl ?_
      refine J_sub (ls' := [(0, .inr (.inr (.inl k0))), (3, .inr (.inr (.inl k3))), (4, .inl k4), (5, .inl s93.2)]) [1, 3, 4, 5] rfl ?_
      exact k_X5_digest_b93_j128 d _ _ h hR hX hN
def f_X5_digest_b149 (k0 : Option Nat) (k3 : Option Nat) (k4 : Int32) (s149 : Int64 × Int32) (ah : AH) : Option ((Unit × AH) ⊕ (((Int64) × AH) ⊕ ((Int64 × Int32) × AH))) :=
  if k4 ≤ s149.2 then (some (.inr (.inl (s149.1, ah)))) else ((gE ah k3 s149.2).bind fun v41 => if qO ah v41 2 = true then ((f_X2_mixInto v41 s149.1 ah).bind fun q43 => some (.inr (.inr ((q43.1, s149.2 + 1), q43.2)))) else none)
set_option maxRecDepth 100000 in
set_option maxHeartbeats 4000000 in
theorem k_X5_digest_b149 {l : Launch} {g : GX} (d : Nat) {Q : jQ} {k0 : Option Nat} {k3 : Option Nat} {k4 : Int32} (s149 : Int64 × Int32) (ah : AH) (out : (Unit × AH) ⊕ (((Int64) × AH) ⊕ ((Int64 × Int32) × AH))) (h : f_X5_digest_b149 k0 k3 k4 s149 ah = some out) (hR : ∀ q, out = .inl q → jRetN q.1 q.2) (hX : ∀ q, out = .inr (.inl q) → J l g md_X5_digest (jRm (d + 5) md_X5_digest) Q 175 [(0, .inr (.inr (.inl k0))), (1, .inr (.inl q.1))] [] q.2 (0, 0)) (hN : ∀ q, out = .inr (.inr q) → J l g md_X5_digest (jRm (d + 5) md_X5_digest) Q 149 [(0, .inr (.inr (.inl k0))), (1, .inr (.inl q.1.1)), (3, .inr (.inr (.inl k3))), (4, .inl k4), (5, .inl q.1.2)] [] q.2 (0, 0)) : J l g md_X5_digest (jRm (d + 5) md_X5_digest) Q 149 [(0, .inr (.inr (.inl k0))), (1, .inr (.inl s149.1)), (3, .inr (.inr (.inl k3))), (4, .inl k4), (5, .inl s149.2)] [] ah (0, 0) := by
  unfold f_X5_digest_b149 at h
  refine J_seg ok_X5_digest 82 2 (pc' := 153) (ls' := [(0, .inr (.inr (.inl k0))), (1, .inr (.inl s149.1)), (3, .inr (.inr (.inl k3))), (4, .inl k4), (5, .inl s149.2)]) (st' := [.inl k4, .inl s149.2]) rfl ?_
  refine J_ge (jat ok_X5_digest 84 (pc := 153) (i := .if_icmp .ge 22) (n := 3) rfl rfl) (tgt := 175) (by decide) (fun c => ?_) (fun c => ?_)
  · have h := (if_pos c).symm.trans h
    exact J_sub (ls' := [(0, .inr (.inr (.inl k0))), (1, .inr (.inl s149.1))]) [0, 1] rfl (hX (s149.1, ah) (Option.some.inj h).symm)
  · have h := (if_neg c).symm.trans h
    refine J_seg ok_X5_digest 85 2 (pc' := 159) (ls' := [(0, .inr (.inr (.inl k0))), (1, .inr (.inl s149.1)), (3, .inr (.inr (.inl k3))), (4, .inl k4), (5, .inl s149.2)]) (st' := [.inl s149.2, .inr (.inr (.inl k3))]) rfl ?_
    obtain ⟨v41, h42, h⟩ := Option.bind_eq_some_iff.mp h
    refine J_aald (jat ok_X5_digest 87 (pc := 159) (i := .aaload) (n := 1) rfl rfl) h42 ?_
    refine J_seg ok_X5_digest 88 3 (pc' := 165) (ls' := [(6, .inr (.inr (.inl v41))), (0, .inr (.inr (.inl k0))), (1, .inr (.inl s149.1)), (3, .inr (.inr (.inl k3))), (4, .inl k4), (5, .inl s149.2)]) (st' := [.inr (.inl s149.1), .inr (.inr (.inl v41))]) rfl ?_
    by_cases c45 : qO ah v41 2 = true
    case neg => exact absurd ((if_neg c45).symm.trans h) (by simp)
    have h := (if_pos c45).symm.trans h
    obtain ⟨q43, h44, h⟩ := Option.bind_eq_some_iff.mp h
    refine J_callV (md' := md_X2_mixInto) (As := [.inr (.inl s149.1)]) (st := []) (cs' := (0, 0)) (st' := [.inr (.inl q43.1)]) (jat ok_X5_digest 91 (pc := 165) (i := .invokevirtual 311) (n := 3) rfl rfl) ml_RX5_311 yv_X2_mixInto c45 (c_X2_mixInto l g (d + 2) h44) (jRo_of (by decide)) (Nat.le_of_ble_eq_true rfl) ⟨Nat.le_of_ble_eq_true rfl, Nat.le_of_ble_eq_true rfl⟩ rfl rfl rfl ?_
    refine J_seg ok_X5_digest 92 3 (pc' := 149) (ls' := [(5, .inl (s149.2 + 1)), (1, .inr (.inl q43.1)), (6, .inr (.inr (.inl v41))), (0, .inr (.inr (.inl k0))), (3, .inr (.inr (.inl k3))), (4, .inl k4)]) (st' := []) rfl ?_
    exact J_sub (ls' := [(0, .inr (.inr (.inl k0))), (1, .inr (.inl q43.1)), (3, .inr (.inr (.inl k3))), (4, .inl k4), (5, .inl (s149.2 + 1))]) [3, 1, 4, 5, 0] rfl (hN ((q43.1, s149.2 + 1), q43.2) (Option.some.inj h).symm)
def f_X5_digest_b187 (k3 : Option Nat) (k4 : Int32) (s187 : Int64 × Int32) (ah : AH) : Option ((Unit × AH) ⊕ (((Int64) × AH) ⊕ ((Int64 × Int32) × AH))) :=
  if k4 ≤ s187.2 then (some (.inr (.inl (s187.1, ah)))) else ((gE ah k3 s187.2).bind fun v54 => if qO ah v54 2 = true then ((f_X2_mixInto v54 s187.1 ah).bind fun q56 => some (.inr (.inr ((q56.1, s187.2 + 1), q56.2)))) else none)
set_option maxRecDepth 100000 in
set_option maxHeartbeats 4000000 in
theorem k_X5_digest_b187 {l : Launch} {g : GX} (d : Nat) {Q : jQ} {k3 : Option Nat} {k4 : Int32} (s187 : Int64 × Int32) (ah : AH) (out : (Unit × AH) ⊕ (((Int64) × AH) ⊕ ((Int64 × Int32) × AH))) (h : f_X5_digest_b187 k3 k4 s187 ah = some out) (hR : ∀ q, out = .inl q → jRetN q.1 q.2) (hX : ∀ q, out = .inr (.inl q) → J l g md_X5_digest (jRm (d + 5) md_X5_digest) Q 213 [(1, .inr (.inl q.1))] [] q.2 (0, 0)) (hN : ∀ q, out = .inr (.inr q) → J l g md_X5_digest (jRm (d + 5) md_X5_digest) Q 187 [(1, .inr (.inl q.1.1)), (3, .inr (.inr (.inl k3))), (4, .inl k4), (5, .inl q.1.2)] [] q.2 (0, 0)) : J l g md_X5_digest (jRm (d + 5) md_X5_digest) Q 187 [(1, .inr (.inl s187.1)), (3, .inr (.inr (.inl k3))), (4, .inl k4), (5, .inl s187.2)] [] ah (0, 0) := by
  unfold f_X5_digest_b187 at h
  refine J_seg ok_X5_digest 103 2 (pc' := 191) (ls' := [(1, .inr (.inl s187.1)), (3, .inr (.inr (.inl k3))), (4, .inl k4), (5, .inl s187.2)]) (st' := [.inl k4, .inl s187.2]) rfl ?_
  refine J_ge (jat ok_X5_digest 105 (pc := 191) (i := .if_icmp .ge 22) (n := 3) rfl rfl) (tgt := 213) (by decide) (fun c => ?_) (fun c => ?_)
  · have h := (if_pos c).symm.trans h
    exact J_sub (ls' := [(1, .inr (.inl s187.1))]) [0] rfl (hX (s187.1, ah) (Option.some.inj h).symm)
  · have h := (if_neg c).symm.trans h
    refine J_seg ok_X5_digest 106 2 (pc' := 197) (ls' := [(1, .inr (.inl s187.1)), (3, .inr (.inr (.inl k3))), (4, .inl k4), (5, .inl s187.2)]) (st' := [.inl s187.2, .inr (.inr (.inl k3))]) rfl ?_
    obtain ⟨v54, h55, h⟩ := Option.bind_eq_some_iff.mp h
    refine J_aald (jat ok_X5_digest 108 (pc := 197) (i := .aaload) (n := 1) rfl rfl) h55 ?_
    refine J_seg ok_X5_digest 109 3 (pc' := 203) (ls' := [(6, .inr (.inr (.inl v54))), (1, .inr (.inl s187.1)), (3, .inr (.inr (.inl k3))), (4, .inl k4), (5, .inl s187.2)]) (st' := [.inr (.inl s187.1), .inr (.inr (.inl v54))]) rfl ?_
    by_cases c58 : qO ah v54 2 = true
    case neg => exact absurd ((if_neg c58).symm.trans h) (by simp)
    have h := (if_pos c58).symm.trans h
    obtain ⟨q56, h57, h⟩ := Option.bind_eq_some_iff.mp h
    refine J_callV (md' := md_X2_mixInto) (As := [.inr (.inl s187.1)]) (st := []) (cs' := (0, 0)) (st' := [.inr (.inl q56.1)]) (jat ok_X5_digest 112 (pc := 203) (i := .invokevirtual 311) (n := 3) rfl rfl) ml_RX5_311 yv_X2_mixInto c58 (c_X2_mixInto l g (d + 2) h57) (jRo_of (by decide)) (Nat.le_of_ble_eq_true rfl) ⟨Nat.le_of_ble_eq_true rfl, Nat.le_of_ble_eq_true rfl⟩ rfl rfl rfl ?_
    refine J_seg ok_X5_digest 113 3 (pc' := 187) (ls' := [(5, .inl (s187.2 + 1)), (1, .inr (.inl q56.1)), (6, .inr (.inr (.inl v54))), (3, .inr (.inr (.inl k3))), (4, .inl k4)]) (st' := []) rfl ?_
    exact J_sub (ls' := [(1, .inr (.inl q56.1)), (3, .inr (.inr (.inl k3))), (4, .inl k4), (5, .inl (s187.2 + 1))]) [1, 3, 4, 0] rfl (hN ((q56.1, s187.2 + 1), q56.2) (Option.some.inj h).symm)
def f_X5_digest (x0 : Option Nat) (ah : AH) : Option (Int64 × AH) :=
  (jloop (f_X5_digest_b6 x0) jfuel (17, 0) ah).bind fun q4 => match q4 with | .inl r => none | .inr z6 => (jloop (f_X5_digest_b33 x0) jfuel (z6.1, 0) z6.2).bind fun q19 => match q19 with | .inl r => none | .inr z21 => (gR z21.2 x0 5 4).bind fun v23 => (lA z21.2 v23).bind fun v25 => (jloop (f_X5_digest_b93 x0 v23 v25) jfuel (z21.1, 0) z21.2).bind fun q33 => match q33 with | .inl r => none | .inr z35 => (gR z35.2 x0 5 0).bind fun v37 => (lA z35.2 v37).bind fun v39 => (jloop (f_X5_digest_b149 x0 v37 v39) jfuel (z35.1, 0) z35.2).bind fun q46 => match q46 with | .inl r => none | .inr z48 => (gR z48.2 x0 5 1).bind fun v50 => (lA z48.2 v50).bind fun v52 => (jloop (f_X5_digest_b187 v50 v52) jfuel (z48.1, 0) z48.2).bind fun q59 => match q59 with | .inl r => none | .inr z61 => some (z61.1, z61.2)
set_option maxRecDepth 100000 in
set_option maxHeartbeats 4000000 in
theorem k_X5_digest {l : Launch} {g : GX} (d : Nat) {Q : jQ} {x0 : Option Nat} (ah : AH) (out : Int64 × AH) (h : f_X5_digest x0 ah = some out) (hR : jRetL l g md_X5_digest (jRm (d + 5) md_X5_digest) Q (0, 0) out.1 out.2) : J l g md_X5_digest (jRm (d + 5) md_X5_digest) Q 0 [(0, .inr (.inr (.inl x0)))] [] ah (0, 0) := by
  unfold f_X5_digest at h
  refine J_ldc2 (jat ok_X5_digest 0 (pc := 0) (i := .ldc2_w 304) (n := 3) rfl rfl) lc_RX5_304 ?_
  refine J_seg ok_X5_digest 1 3 (pc' := 6) (ls' := [(3, .inl 0), (1, .inr (.inl 17)), (0, .inr (.inr (.inl x0)))]) (st' := []) rfl ?_
  obtain ⟨q4, h5, h⟩ := Option.bind_eq_some_iff.mp h
  refine J_sub (ls' := [(0, .inr (.inr (.inl x0))), (1, .inr (.inl 17)), (3, .inl 0)]) [2, 1, 0] rfl ?_
  refine J_loop (pE := 31) (lh := fun t7 => [(0, .inr (.inr (.inl x0))), (1, .inr (.inl t7.1)), (3, .inl t7.2)]) (lx := fun z6 => [(0, .inr (.inr (.inl x0))), (1, .inr (.inl z6))]) (P := jRetN) (fun s ah out hb hR hX hN => k_X5_digest_b6 d s ah out hb hR hX hN) jfuel (17, 0) _ _ h5 (fun r e => ?_) (fun z6 e => ?_)
  · subst e
    dsimp only at h
    cases h
  · subst e
    dsimp only at h
    refine J_seg ok_X5_digest 18 2 (pc' := 33) (ls' := [(3, .inl 0), (0, .inr (.inr (.inl x0))), (1, .inr (.inl z6.1))]) (st' := []) rfl ?_
    obtain ⟨q19, h20, h⟩ := Option.bind_eq_some_iff.mp h
    refine J_sub (ls' := [(0, .inr (.inr (.inl x0))), (1, .inr (.inl z6.1)), (3, .inl 0)]) [1, 2, 0] rfl ?_
    refine J_loop (pE := 81) (lh := fun t22 => [(0, .inr (.inr (.inl x0))), (1, .inr (.inl t22.1)), (3, .inl t22.2)]) (lx := fun z21 => [(0, .inr (.inr (.inl x0))), (1, .inr (.inl z21))]) (P := jRetN) (fun s ah out hb hR hX hN => k_X5_digest_b33 d s ah out hb hR hX hN) jfuel (z6.1, 0) _ _ h20 (fun r e => ?_) (fun z21 e => ?_)
    · subst e
      dsimp only at h
      cases h
    · subst e
      dsimp only at h
      refine J_seg ok_X5_digest 44 1 (pc' := 82) (ls' := [(0, .inr (.inr (.inl x0))), (1, .inr (.inl z21.1))]) (st' := [.inr (.inr (.inl x0))]) rfl ?_
      obtain ⟨v23, h24, h⟩ := Option.bind_eq_some_iff.mp h
      refine J_getR (jat ok_X5_digest 45 (pc := 82) (i := .getfield 32) (n := 3) rfl rfl) fl_RX5_32 h24 ?_
      refine J_seg ok_X5_digest 46 2 (pc' := 87) (ls' := [(3, .inr (.inr (.inl v23))), (0, .inr (.inr (.inl x0))), (1, .inr (.inl z21.1))]) (st' := [.inr (.inr (.inl v23))]) rfl ?_
      obtain ⟨v25, h26, h⟩ := Option.bind_eq_some_iff.mp h
      refine J_alen (jat ok_X5_digest 48 (pc := 87) (i := .arraylength) (n := 1) rfl rfl) h26 ?_
      refine J_seg ok_X5_digest 49 3 (pc' := 93) (ls' := [(5, .inl 0), (4, .inl v25), (3, .inr (.inr (.inl v23))), (0, .inr (.inr (.inl x0))), (1, .inr (.inl z21.1))]) (st' := []) rfl ?_
      obtain ⟨q33, h34, h⟩ := Option.bind_eq_some_iff.mp h
      refine J_sub (ls' := [(0, .inr (.inr (.inl x0))), (1, .inr (.inl z21.1)), (3, .inr (.inr (.inl v23))), (4, .inl v25), (5, .inl 0)]) [3, 4, 2, 1, 0] rfl ?_
      refine J_loop (pE := 137) (lh := fun t36 => [(0, .inr (.inr (.inl x0))), (1, .inr (.inl t36.1)), (3, .inr (.inr (.inl v23))), (4, .inl v25), (5, .inl t36.2)]) (lx := fun z35 => [(0, .inr (.inr (.inl x0))), (1, .inr (.inl z35))]) (P := jRetN) (fun s ah out hb hR hX hN => k_X5_digest_b93 d s ah out hb hR hX hN) jfuel (z21.1, 0) _ _ h34 (fun r e => ?_) (fun z35 e => ?_)
      · subst e
        dsimp only at h
        cases h
      · subst e
        dsimp only at h
        refine J_seg ok_X5_digest 74 1 (pc' := 138) (ls' := [(0, .inr (.inr (.inl x0))), (1, .inr (.inl z35.1))]) (st' := [.inr (.inr (.inl x0))]) rfl ?_
        obtain ⟨v37, h38, h⟩ := Option.bind_eq_some_iff.mp h
        refine J_getR (jat ok_X5_digest 75 (pc := 138) (i := .getfield 11) (n := 3) rfl rfl) fl_RX5_11 h38 ?_
        refine J_seg ok_X5_digest 76 2 (pc' := 143) (ls' := [(3, .inr (.inr (.inl v37))), (0, .inr (.inr (.inl x0))), (1, .inr (.inl z35.1))]) (st' := [.inr (.inr (.inl v37))]) rfl ?_
        obtain ⟨v39, h40, h⟩ := Option.bind_eq_some_iff.mp h
        refine J_alen (jat ok_X5_digest 78 (pc := 143) (i := .arraylength) (n := 1) rfl rfl) h40 ?_
        refine J_seg ok_X5_digest 79 3 (pc' := 149) (ls' := [(5, .inl 0), (4, .inl v39), (3, .inr (.inr (.inl v37))), (0, .inr (.inr (.inl x0))), (1, .inr (.inl z35.1))]) (st' := []) rfl ?_
        obtain ⟨q46, h47, h⟩ := Option.bind_eq_some_iff.mp h
        refine J_sub (ls' := [(0, .inr (.inr (.inl x0))), (1, .inr (.inl z35.1)), (3, .inr (.inr (.inl v37))), (4, .inl v39), (5, .inl 0)]) [3, 4, 2, 1, 0] rfl ?_
        refine J_loop (pE := 175) (lh := fun t49 => [(0, .inr (.inr (.inl x0))), (1, .inr (.inl t49.1)), (3, .inr (.inr (.inl v37))), (4, .inl v39), (5, .inl t49.2)]) (lx := fun z48 => [(0, .inr (.inr (.inl x0))), (1, .inr (.inl z48))]) (P := jRetN) (fun s ah out hb hR hX hN => k_X5_digest_b149 d s ah out hb hR hX hN) jfuel (z35.1, 0) _ _ h47 (fun r e => ?_) (fun z48 e => ?_)
        · subst e
          dsimp only at h
          cases h
        · subst e
          dsimp only at h
          refine J_seg ok_X5_digest 95 1 (pc' := 176) (ls' := [(0, .inr (.inr (.inl x0))), (1, .inr (.inl z48.1))]) (st' := [.inr (.inr (.inl x0))]) rfl ?_
          obtain ⟨v50, h51, h⟩ := Option.bind_eq_some_iff.mp h
          refine J_getR (jat ok_X5_digest 96 (pc := 176) (i := .getfield 15) (n := 3) rfl rfl) fl_RX5_15 h51 ?_
          refine J_seg ok_X5_digest 97 2 (pc' := 181) (ls' := [(3, .inr (.inr (.inl v50))), (0, .inr (.inr (.inl x0))), (1, .inr (.inl z48.1))]) (st' := [.inr (.inr (.inl v50))]) rfl ?_
          obtain ⟨v52, h53, h⟩ := Option.bind_eq_some_iff.mp h
          refine J_alen (jat ok_X5_digest 99 (pc := 181) (i := .arraylength) (n := 1) rfl rfl) h53 ?_
          refine J_seg ok_X5_digest 100 3 (pc' := 187) (ls' := [(5, .inl 0), (4, .inl v52), (3, .inr (.inr (.inl v50))), (0, .inr (.inr (.inl x0))), (1, .inr (.inl z48.1))]) (st' := []) rfl ?_
          obtain ⟨q59, h60, h⟩ := Option.bind_eq_some_iff.mp h
          refine J_sub (ls' := [(1, .inr (.inl z48.1)), (3, .inr (.inr (.inl v50))), (4, .inl v52), (5, .inl 0)]) [4, 2, 1, 0] rfl ?_
          refine J_loop (pE := 213) (lh := fun t62 => [(1, .inr (.inl t62.1)), (3, .inr (.inr (.inl v50))), (4, .inl v52), (5, .inl t62.2)]) (lx := fun z61 => [(1, .inr (.inl z61))]) (P := jRetN) (fun s ah out hb hR hX hN => k_X5_digest_b187 d s ah out hb hR hX hN) jfuel (z48.1, 0) _ _ h60 (fun r e => ?_) (fun z61 e => ?_)
          · subst e
            dsimp only at h
            cases h
          · subst e
            dsimp only at h
            refine J_seg ok_X5_digest 116 1 (pc' := 214) (ls' := [(1, .inr (.inl z61.1))]) (st' := [.inr (.inl z61.1)]) rfl ?_
            have h := Option.some.inj h
            subst h
            exact hR _ _ (jat ok_X5_digest 117 (pc := 214) (i := .lreturn) (n := 1) rfl rfl)
theorem c_X5_digest (l : Launch) (g : GX) (d : Nat) {x0 : Option Nat} {ah : AH} {q : Int64 × AH} (h : f_X5_digest x0 ah = some q) : jM l g (d + 5) md_X5_digest [.inr (.inr (.inl x0))] ah (some (.inr (.inl q.1))) q.2 :=
  jM_of (by decide) (Nat.le_of_ble_eq_true rfl) (k_X5_digest d ah q h (fun pc ls hd => J_retl hd rfl rfl (Nat.le_refl _) rfl rfl))
def f_X6_init (x0 : Nat) (ah : AH) : Option (Unit × AH) :=
  (sF (ah ++ [.inl (List.replicate (Int32.toNatClampNeg 3120) 0)]) (some x0) 6 0 (.inr (.inr (.inl (some ah.length))))).bind fun a1 => (sF (a1 ++ [.inl (List.replicate (Int32.toNatClampNeg 6) 0)]) (some x0) 6 2 (.inr (.inr (.inl (some a1.length))))).bind fun a3 => (sF (a3 ++ [.inl (List.replicate (Int32.toNatClampNeg 6) 0)]) (some x0) 6 3 (.inr (.inr (.inl (some a3.length))))).bind fun a5 => (sF (a5 ++ [.inl (List.replicate (Int32.toNatClampNeg 6) 0)]) (some x0) 6 4 (.inr (.inr (.inl (some a5.length))))).bind fun a7 => (sF (a7 ++ [.inl (List.replicate (Int32.toNatClampNeg 6) 0)]) (some x0) 6 5 (.inr (.inr (.inl (some a7.length))))).bind fun a9 => (sA (a9 ++ [.inl (List.replicate (Int32.toNatClampNeg 6) 0)]) (some a9.length) 0 (-1)).bind fun a11 => (sA a11 (some a9.length) 1 (-1)).bind fun a13 => (sA a13 (some a9.length) 2 (-1)).bind fun a15 => (sA a15 (some a9.length) 3 (-1)).bind fun a17 => (sA a17 (some a9.length) 4 (-1)).bind fun a19 => (sA a19 (some a9.length) 5 (-1)).bind fun a21 => (sF a21 (some x0) 6 7 (.inr (.inr (.inl (some a9.length))))).bind fun a23 => (sF (a23 ++ [.inl (List.replicate (Int32.toNatClampNeg 240) 0)]) (some x0) 6 8 (.inr (.inr (.inl (some a23.length))))).bind fun a25 => (sA (a25 ++ [.inl (List.replicate (Int32.toNatClampNeg 4) 0)]) (some a25.length) 0 (-1)).bind fun a27 => (sA a27 (some a25.length) 1 (-1)).bind fun a29 => (sA a29 (some a25.length) 2 (-1)).bind fun a31 => (sA a31 (some a25.length) 3 (-1)).bind fun a33 => (sF a33 (some x0) 6 9 (.inr (.inr (.inl (some a25.length))))).bind fun a35 => (sF (a35 ++ [.inl (List.replicate (Int32.toNatClampNeg 240) 0)]) (some x0) 6 10 (.inr (.inr (.inl (some a35.length))))).bind fun a37 => (sF a37 (some x0) 6 13 (.inr (.inl 1))).bind fun a39 => (sF (a39 ++ [.inl (List.replicate (Int32.toNatClampNeg 6) 0)]) (some x0) 6 15 (.inr (.inr (.inl (some a39.length))))).bind fun a41 => (sF (a41 ++ [.inl (List.replicate (Int32.toNatClampNeg 30) 0)]) (some x0) 6 19 (.inr (.inr (.inl (some a41.length))))).bind fun a43 => (sF (a43 ++ [.inl (List.replicate (Int32.toNatClampNeg 6) 0)]) (some x0) 6 21 (.inr (.inr (.inl (some a43.length))))).bind fun a45 => (sF (a45 ++ [.inl (List.replicate (Int32.toNatClampNeg 6) 0)]) (some x0) 6 23 (.inr (.inr (.inl (some a45.length))))).bind fun a47 => (sF (a47 ++ [.inl (List.replicate (Int32.toNatClampNeg 6) 0)]) (some x0) 6 24 (.inr (.inr (.inl (some a47.length))))).bind fun a49 => (sF (a49 ++ [.inl (List.replicate (Int32.toNatClampNeg 265) 0)]) (some x0) 6 25 (.inr (.inr (.inl (some a49.length))))).bind fun a51 => (sF (a51 ++ [.inl (List.replicate (Int32.toNatClampNeg 64) 0)]) (some x0) 6 27 (.inr (.inr (.inl (some a51.length))))).bind fun a53 => (gR a53 (some x0) 6 0).bind fun v55 => (sA a53 v55 780 (-1)).bind fun a57 => (gR a57 (some x0) 6 0).bind fun v59 => (sA a57 v59 1560 (-1)).bind fun a61 => (gR a61 (some x0) 6 0).bind fun v63 => (sA a61 v63 2340 (-1)).bind fun a65 => some ((), a65)
set_option maxRecDepth 100000 in
set_option maxHeartbeats 4000000 in
theorem k_X6_init {l : Launch} {g : GX} (d : Nat) {Q : jQ} {x0 : Nat} (ah : AH) (out : Unit × AH) (h : f_X6_init x0 ah = some out) (hR : jRetV l g md_X6_init (jRm (d + 1) md_X6_init) Q (16, 4017) out.1 out.2) : J l g md_X6_init (jRm (d + 1) md_X6_init) Q 0 [(0, .inr (.inr (.inl (some x0))))] [] ah (0, 0) := by
  unfold f_X6_init at h
  refine J_seg ok_X6_init 0 1 (pc' := 1) (ls' := [(0, .inr (.inr (.inl (some x0))))]) (st' := [.inr (.inr (.inl (some x0)))]) rfl ?_
  refine J_obj (jat ok_X6_init 1 (pc := 1) (i := .invokespecial 1) (n := 3) rfl rfl) mo_RX6_1 oi_i oi_c ⟨by show 1 ≤ d + 1; omega, by show 20 ≤ 64 * (d + 1); omega⟩ (Nat.le_of_ble_eq_true rfl) ?_
  refine J_seg ok_X6_init 2 2 (pc' := 8) (ls' := [(0, .inr (.inr (.inl (some x0))))]) (st' := [.inl 3120, .inr (.inr (.inl (some x0)))]) rfl ?_
  refine J_newA (cs' := (1, 3120)) (jat ok_X6_init 4 (pc := 8) (i := .newarray .int) (n := 2) rfl rfl) (by decide) (by decide) ac_int (by decide) ⟨Nat.le_of_ble_eq_true rfl, Nat.le_of_ble_eq_true rfl⟩ ?_
  obtain ⟨a1, h2, h⟩ := Option.bind_eq_some_iff.mp h
  refine J_put (jat ok_X6_init 5 (pc := 10) (i := .putfield 7) (n := 3) rfl rfl) fp_RX6_7_i (jPV_arr _ _) h2 ?_
  refine J_seg ok_X6_init 6 2 (pc' := 16) (ls' := [(0, .inr (.inr (.inl (some x0))))]) (st' := [.inl 6, .inr (.inr (.inl (some x0)))]) rfl ?_
  refine J_newA (cs' := (2, 3126)) (jat ok_X6_init 8 (pc := 16) (i := .newarray .int) (n := 2) rfl rfl) (by decide) (by decide) ac_int (by decide) ⟨Nat.le_of_ble_eq_true rfl, Nat.le_of_ble_eq_true rfl⟩ ?_
  obtain ⟨a3, h4, h⟩ := Option.bind_eq_some_iff.mp h
  refine J_put (jat ok_X6_init 9 (pc := 18) (i := .putfield 13) (n := 3) rfl rfl) fp_RX6_13_i (jPV_arr _ _) h4 ?_
  refine J_seg ok_X6_init 10 2 (pc' := 24) (ls' := [(0, .inr (.inr (.inl (some x0))))]) (st' := [.inl 6, .inr (.inr (.inl (some x0)))]) rfl ?_
  refine J_newA (cs' := (3, 3132)) (jat ok_X6_init 12 (pc := 24) (i := .newarray .int) (n := 2) rfl rfl) (by decide) (by decide) ac_int (by decide) ⟨Nat.le_of_ble_eq_true rfl, Nat.le_of_ble_eq_true rfl⟩ ?_
  obtain ⟨a5, h6, h⟩ := Option.bind_eq_some_iff.mp h
  refine J_put (jat ok_X6_init 13 (pc := 26) (i := .putfield 16) (n := 3) rfl rfl) fp_RX6_16_i (jPV_arr _ _) h6 ?_
  refine J_seg ok_X6_init 14 2 (pc' := 32) (ls' := [(0, .inr (.inr (.inl (some x0))))]) (st' := [.inl 6, .inr (.inr (.inl (some x0)))]) rfl ?_
  refine J_newA (cs' := (4, 3138)) (jat ok_X6_init 16 (pc := 32) (i := .newarray .int) (n := 2) rfl rfl) (by decide) (by decide) ac_int (by decide) ⟨Nat.le_of_ble_eq_true rfl, Nat.le_of_ble_eq_true rfl⟩ ?_
  obtain ⟨a7, h8, h⟩ := Option.bind_eq_some_iff.mp h
  refine J_put (jat ok_X6_init 17 (pc := 34) (i := .putfield 19) (n := 3) rfl rfl) fp_RX6_19_i (jPV_arr _ _) h8 ?_
  refine J_seg ok_X6_init 18 2 (pc' := 40) (ls' := [(0, .inr (.inr (.inl (some x0))))]) (st' := [.inl 6, .inr (.inr (.inl (some x0)))]) rfl ?_
  refine J_newA (cs' := (5, 3144)) (jat ok_X6_init 20 (pc := 40) (i := .newarray .int) (n := 2) rfl rfl) (by decide) (by decide) ac_int (by decide) ⟨Nat.le_of_ble_eq_true rfl, Nat.le_of_ble_eq_true rfl⟩ ?_
  obtain ⟨a9, h10, h⟩ := Option.bind_eq_some_iff.mp h
  refine J_put (jat ok_X6_init 21 (pc := 42) (i := .putfield 22) (n := 3) rfl rfl) fp_RX6_22_i (jPV_arr _ _) h10 ?_
  refine J_seg ok_X6_init 22 2 (pc' := 48) (ls' := [(0, .inr (.inr (.inl (some x0))))]) (st' := [.inl 6, .inr (.inr (.inl (some x0)))]) rfl ?_
  refine J_newA (cs' := (6, 3150)) (jat ok_X6_init 24 (pc := 48) (i := .newarray .int) (n := 2) rfl rfl) (by decide) (by decide) ac_int (by decide) ⟨Nat.le_of_ble_eq_true rfl, Nat.le_of_ble_eq_true rfl⟩ ?_
  refine J_seg ok_X6_init 25 3 (pc' := 53) (ls' := [(0, .inr (.inr (.inl (some x0))))]) (st' := [.inl (-1), .inl 0, .inr (.inr (.inl (some a9.length))), .inr (.inr (.inl (some a9.length))), .inr (.inr (.inl (some x0)))]) rfl ?_
  obtain ⟨a11, h12, h⟩ := Option.bind_eq_some_iff.mp h
  refine J_iast (jat ok_X6_init 28 (pc := 53) (i := .iastore) (n := 1) rfl rfl) h12 ?_
  refine J_seg ok_X6_init 29 3 (pc' := 57) (ls' := [(0, .inr (.inr (.inl (some x0))))]) (st' := [.inl (-1), .inl 1, .inr (.inr (.inl (some a9.length))), .inr (.inr (.inl (some a9.length))), .inr (.inr (.inl (some x0)))]) rfl ?_
  obtain ⟨a13, h14, h⟩ := Option.bind_eq_some_iff.mp h
  refine J_iast (jat ok_X6_init 32 (pc := 57) (i := .iastore) (n := 1) rfl rfl) h14 ?_
  refine J_seg ok_X6_init 33 3 (pc' := 61) (ls' := [(0, .inr (.inr (.inl (some x0))))]) (st' := [.inl (-1), .inl 2, .inr (.inr (.inl (some a9.length))), .inr (.inr (.inl (some a9.length))), .inr (.inr (.inl (some x0)))]) rfl ?_
  obtain ⟨a15, h16, h⟩ := Option.bind_eq_some_iff.mp h
  refine J_iast (jat ok_X6_init 36 (pc := 61) (i := .iastore) (n := 1) rfl rfl) h16 ?_
  refine J_seg ok_X6_init 37 3 (pc' := 65) (ls' := [(0, .inr (.inr (.inl (some x0))))]) (st' := [.inl (-1), .inl 3, .inr (.inr (.inl (some a9.length))), .inr (.inr (.inl (some a9.length))), .inr (.inr (.inl (some x0)))]) rfl ?_
  obtain ⟨a17, h18, h⟩ := Option.bind_eq_some_iff.mp h
  refine J_iast (jat ok_X6_init 40 (pc := 65) (i := .iastore) (n := 1) rfl rfl) h18 ?_
  refine J_seg ok_X6_init 41 3 (pc' := 69) (ls' := [(0, .inr (.inr (.inl (some x0))))]) (st' := [.inl (-1), .inl 4, .inr (.inr (.inl (some a9.length))), .inr (.inr (.inl (some a9.length))), .inr (.inr (.inl (some x0)))]) rfl ?_
  obtain ⟨a19, h20, h⟩ := Option.bind_eq_some_iff.mp h
  refine J_iast (jat ok_X6_init 44 (pc := 69) (i := .iastore) (n := 1) rfl rfl) h20 ?_
  refine J_seg ok_X6_init 45 3 (pc' := 73) (ls' := [(0, .inr (.inr (.inl (some x0))))]) (st' := [.inl (-1), .inl 5, .inr (.inr (.inl (some a9.length))), .inr (.inr (.inl (some a9.length))), .inr (.inr (.inl (some x0)))]) rfl ?_
  obtain ⟨a21, h22, h⟩ := Option.bind_eq_some_iff.mp h
  refine J_iast (jat ok_X6_init 48 (pc := 73) (i := .iastore) (n := 1) rfl rfl) h22 ?_
  obtain ⟨a23, h24, h⟩ := Option.bind_eq_some_iff.mp h
  refine J_put (jat ok_X6_init 49 (pc := 74) (i := .putfield 25) (n := 3) rfl rfl) fp_RX6_25_i (jPV_arr _ _) h24 ?_
  refine J_seg ok_X6_init 50 2 (pc' := 81) (ls' := [(0, .inr (.inr (.inl (some x0))))]) (st' := [.inl 240, .inr (.inr (.inl (some x0)))]) rfl ?_
  refine J_newA (cs' := (7, 3390)) (jat ok_X6_init 52 (pc := 81) (i := .newarray .int) (n := 2) rfl rfl) (by decide) (by decide) ac_int (by decide) ⟨Nat.le_of_ble_eq_true rfl, Nat.le_of_ble_eq_true rfl⟩ ?_
  obtain ⟨a25, h26, h⟩ := Option.bind_eq_some_iff.mp h
  refine J_put (jat ok_X6_init 53 (pc := 83) (i := .putfield 28) (n := 3) rfl rfl) fp_RX6_28_i (jPV_arr _ _) h26 ?_
  refine J_seg ok_X6_init 54 2 (pc' := 88) (ls' := [(0, .inr (.inr (.inl (some x0))))]) (st' := [.inl 4, .inr (.inr (.inl (some x0)))]) rfl ?_
  refine J_newA (cs' := (8, 3394)) (jat ok_X6_init 56 (pc := 88) (i := .newarray .int) (n := 2) rfl rfl) (by decide) (by decide) ac_int (by decide) ⟨Nat.le_of_ble_eq_true rfl, Nat.le_of_ble_eq_true rfl⟩ ?_
  refine J_seg ok_X6_init 57 3 (pc' := 93) (ls' := [(0, .inr (.inr (.inl (some x0))))]) (st' := [.inl (-1), .inl 0, .inr (.inr (.inl (some a25.length))), .inr (.inr (.inl (some a25.length))), .inr (.inr (.inl (some x0)))]) rfl ?_
  obtain ⟨a27, h28, h⟩ := Option.bind_eq_some_iff.mp h
  refine J_iast (jat ok_X6_init 60 (pc := 93) (i := .iastore) (n := 1) rfl rfl) h28 ?_
  refine J_seg ok_X6_init 61 3 (pc' := 97) (ls' := [(0, .inr (.inr (.inl (some x0))))]) (st' := [.inl (-1), .inl 1, .inr (.inr (.inl (some a25.length))), .inr (.inr (.inl (some a25.length))), .inr (.inr (.inl (some x0)))]) rfl ?_
  obtain ⟨a29, h30, h⟩ := Option.bind_eq_some_iff.mp h
  refine J_iast (jat ok_X6_init 64 (pc := 97) (i := .iastore) (n := 1) rfl rfl) h30 ?_
  refine J_seg ok_X6_init 65 3 (pc' := 101) (ls' := [(0, .inr (.inr (.inl (some x0))))]) (st' := [.inl (-1), .inl 2, .inr (.inr (.inl (some a25.length))), .inr (.inr (.inl (some a25.length))), .inr (.inr (.inl (some x0)))]) rfl ?_
  obtain ⟨a31, h32, h⟩ := Option.bind_eq_some_iff.mp h
  refine J_iast (jat ok_X6_init 68 (pc := 101) (i := .iastore) (n := 1) rfl rfl) h32 ?_
  refine J_seg ok_X6_init 69 3 (pc' := 105) (ls' := [(0, .inr (.inr (.inl (some x0))))]) (st' := [.inl (-1), .inl 3, .inr (.inr (.inl (some a25.length))), .inr (.inr (.inl (some a25.length))), .inr (.inr (.inl (some x0)))]) rfl ?_
  obtain ⟨a33, h34, h⟩ := Option.bind_eq_some_iff.mp h
  refine J_iast (jat ok_X6_init 72 (pc := 105) (i := .iastore) (n := 1) rfl rfl) h34 ?_
  obtain ⟨a35, h36, h⟩ := Option.bind_eq_some_iff.mp h
  refine J_put (jat ok_X6_init 73 (pc := 106) (i := .putfield 31) (n := 3) rfl rfl) fp_RX6_31_i (jPV_arr _ _) h36 ?_
  refine J_seg ok_X6_init 74 2 (pc' := 113) (ls' := [(0, .inr (.inr (.inl (some x0))))]) (st' := [.inl 240, .inr (.inr (.inl (some x0)))]) rfl ?_
  refine J_newA (cs' := (9, 3634)) (jat ok_X6_init 76 (pc := 113) (i := .newarray .int) (n := 2) rfl rfl) (by decide) (by decide) ac_int (by decide) ⟨Nat.le_of_ble_eq_true rfl, Nat.le_of_ble_eq_true rfl⟩ ?_
  obtain ⟨a37, h38, h⟩ := Option.bind_eq_some_iff.mp h
  refine J_put (jat ok_X6_init 77 (pc := 115) (i := .putfield 34) (n := 3) rfl rfl) fp_RX6_34_i (jPV_arr _ _) h38 ?_
  refine J_seg ok_X6_init 78 2 (pc' := 120) (ls' := [(0, .inr (.inr (.inl (some x0))))]) (st' := [.inr (.inl 1), .inr (.inr (.inl (some x0)))]) rfl ?_
  obtain ⟨a39, h40, h⟩ := Option.bind_eq_some_iff.mp h
  refine J_put (jat ok_X6_init 80 (pc := 120) (i := .putfield 37) (n := 3) rfl rfl) (fp_RX6_37 _) (jPV_long _) h40 ?_
  refine J_seg ok_X6_init 81 2 (pc' := 126) (ls' := [(0, .inr (.inr (.inl (some x0))))]) (st' := [.inl 6, .inr (.inr (.inl (some x0)))]) rfl ?_
  refine J_newA (cs' := (10, 3640)) (jat ok_X6_init 83 (pc := 126) (i := .newarray .int) (n := 2) rfl rfl) (by decide) (by decide) ac_int (by decide) ⟨Nat.le_of_ble_eq_true rfl, Nat.le_of_ble_eq_true rfl⟩ ?_
  obtain ⟨a41, h42, h⟩ := Option.bind_eq_some_iff.mp h
  refine J_put (jat ok_X6_init 84 (pc := 128) (i := .putfield 41) (n := 3) rfl rfl) fp_RX6_41_i (jPV_arr _ _) h42 ?_
  refine J_seg ok_X6_init 85 2 (pc' := 134) (ls' := [(0, .inr (.inr (.inl (some x0))))]) (st' := [.inl 30, .inr (.inr (.inl (some x0)))]) rfl ?_
  refine J_newA (cs' := (11, 3670)) (jat ok_X6_init 87 (pc := 134) (i := .newarray .int) (n := 2) rfl rfl) (by decide) (by decide) ac_int (by decide) ⟨Nat.le_of_ble_eq_true rfl, Nat.le_of_ble_eq_true rfl⟩ ?_
  obtain ⟨a43, h44, h⟩ := Option.bind_eq_some_iff.mp h
  refine J_put (jat ok_X6_init 88 (pc := 136) (i := .putfield 44) (n := 3) rfl rfl) fp_RX6_44_i (jPV_arr _ _) h44 ?_
  refine J_seg ok_X6_init 89 2 (pc' := 142) (ls' := [(0, .inr (.inr (.inl (some x0))))]) (st' := [.inl 6, .inr (.inr (.inl (some x0)))]) rfl ?_
  refine J_newA (cs' := (12, 3676)) (jat ok_X6_init 91 (pc := 142) (i := .newarray .int) (n := 2) rfl rfl) (by decide) (by decide) ac_int (by decide) ⟨Nat.le_of_ble_eq_true rfl, Nat.le_of_ble_eq_true rfl⟩ ?_
  obtain ⟨a45, h46, h⟩ := Option.bind_eq_some_iff.mp h
  refine J_put (jat ok_X6_init 92 (pc := 144) (i := .putfield 47) (n := 3) rfl rfl) fp_RX6_47_i (jPV_arr _ _) h46 ?_
  refine J_seg ok_X6_init 93 2 (pc' := 150) (ls' := [(0, .inr (.inr (.inl (some x0))))]) (st' := [.inl 6, .inr (.inr (.inl (some x0)))]) rfl ?_
  refine J_newA (cs' := (13, 3682)) (jat ok_X6_init 95 (pc := 150) (i := .newarray .int) (n := 2) rfl rfl) (by decide) (by decide) ac_int (by decide) ⟨Nat.le_of_ble_eq_true rfl, Nat.le_of_ble_eq_true rfl⟩ ?_
  obtain ⟨a47, h48, h⟩ := Option.bind_eq_some_iff.mp h
  refine J_put (jat ok_X6_init 96 (pc := 152) (i := .putfield 50) (n := 3) rfl rfl) fp_RX6_50_i (jPV_arr _ _) h48 ?_
  refine J_seg ok_X6_init 97 2 (pc' := 158) (ls' := [(0, .inr (.inr (.inl (some x0))))]) (st' := [.inl 6, .inr (.inr (.inl (some x0)))]) rfl ?_
  refine J_newA (cs' := (14, 3688)) (jat ok_X6_init 99 (pc := 158) (i := .newarray .int) (n := 2) rfl rfl) (by decide) (by decide) ac_int (by decide) ⟨Nat.le_of_ble_eq_true rfl, Nat.le_of_ble_eq_true rfl⟩ ?_
  obtain ⟨a49, h50, h⟩ := Option.bind_eq_some_iff.mp h
  refine J_put (jat ok_X6_init 100 (pc := 160) (i := .putfield 53) (n := 3) rfl rfl) fp_RX6_53_i (jPV_arr _ _) h50 ?_
  refine J_seg ok_X6_init 101 2 (pc' := 167) (ls' := [(0, .inr (.inr (.inl (some x0))))]) (st' := [.inl 265, .inr (.inr (.inl (some x0)))]) rfl ?_
  refine J_newA (cs' := (15, 3953)) (jat ok_X6_init 103 (pc := 167) (i := .newarray .int) (n := 2) rfl rfl) (by decide) (by decide) ac_int (by decide) ⟨Nat.le_of_ble_eq_true rfl, Nat.le_of_ble_eq_true rfl⟩ ?_
  obtain ⟨a51, h52, h⟩ := Option.bind_eq_some_iff.mp h
  refine J_put (jat ok_X6_init 104 (pc := 169) (i := .putfield 56) (n := 3) rfl rfl) fp_RX6_56_i (jPV_arr _ _) h52 ?_
  refine J_seg ok_X6_init 105 2 (pc' := 175) (ls' := [(0, .inr (.inr (.inl (some x0))))]) (st' := [.inl 64, .inr (.inr (.inl (some x0)))]) rfl ?_
  refine J_newA (cs' := (16, 4017)) (jat ok_X6_init 107 (pc := 175) (i := .newarray .int) (n := 2) rfl rfl) (by decide) (by decide) ac_int (by decide) ⟨Nat.le_of_ble_eq_true rfl, Nat.le_of_ble_eq_true rfl⟩ ?_
  obtain ⟨a53, h54, h⟩ := Option.bind_eq_some_iff.mp h
  refine J_put (jat ok_X6_init 108 (pc := 177) (i := .putfield 59) (n := 3) rfl rfl) fp_RX6_59_i (jPV_arr _ _) h54 ?_
  refine J_seg ok_X6_init 109 4 (pc' := 184) (ls' := [(1, .inl 1), (0, .inr (.inr (.inl (some x0))))]) (st' := [.inl 4, .inl 1]) rfl ?_
  refine J_ge (jat ok_X6_init 113 (pc := 184) (i := .if_icmp .ge 22) (n := 3) rfl rfl) (tgt := 206) (by decide) (fun c => absurd c (by decide)) (fun _ => ?_)
  refine J_seg ok_X6_init 114 1 (pc' := 188) (ls' := [(1, .inl 1), (0, .inr (.inr (.inl (some x0))))]) (st' := [.inr (.inr (.inl (some x0)))]) rfl ?_
  obtain ⟨v55, h56, h⟩ := Option.bind_eq_some_iff.mp h
  refine J_getR (jat ok_X6_init 115 (pc := 188) (i := .getfield 7) (n := 3) rfl rfl) fl_RX6_7 h56 ?_
  refine J_seg ok_X6_init 116 6 (pc' := 199) (ls' := [(1, .inl 1), (0, .inr (.inr (.inl (some x0))))]) (st' := [.inl (-1), .inl 780, .inr (.inr (.inl v55))]) rfl ?_
  obtain ⟨a57, h58, h⟩ := Option.bind_eq_some_iff.mp h
  refine J_iast (jat ok_X6_init 122 (pc := 199) (i := .iastore) (n := 1) rfl rfl) h58 ?_
  refine J_seg ok_X6_init 123 2 (pc' := 182) (ls' := [(1, .inl 2), (0, .inr (.inr (.inl (some x0))))]) (st' := []) rfl ?_
  refine J_seg ok_X6_init 111 2 (pc' := 184) (ls' := [(1, .inl 2), (0, .inr (.inr (.inl (some x0))))]) (st' := [.inl 4, .inl 2]) rfl ?_
  refine J_ge (jat ok_X6_init 113 (pc := 184) (i := .if_icmp .ge 22) (n := 3) rfl rfl) (tgt := 206) (by decide) (fun c => absurd c (by decide)) (fun _ => ?_)
  refine J_seg ok_X6_init 114 1 (pc' := 188) (ls' := [(1, .inl 2), (0, .inr (.inr (.inl (some x0))))]) (st' := [.inr (.inr (.inl (some x0)))]) rfl ?_
  obtain ⟨v59, h60, h⟩ := Option.bind_eq_some_iff.mp h
  refine J_getR (jat ok_X6_init 115 (pc := 188) (i := .getfield 7) (n := 3) rfl rfl) fl_RX6_7 h60 ?_
  refine J_seg ok_X6_init 116 6 (pc' := 199) (ls' := [(1, .inl 2), (0, .inr (.inr (.inl (some x0))))]) (st' := [.inl (-1), .inl 1560, .inr (.inr (.inl v59))]) rfl ?_
  obtain ⟨a61, h62, h⟩ := Option.bind_eq_some_iff.mp h
  refine J_iast (jat ok_X6_init 122 (pc := 199) (i := .iastore) (n := 1) rfl rfl) h62 ?_
  refine J_seg ok_X6_init 123 2 (pc' := 182) (ls' := [(1, .inl 3), (0, .inr (.inr (.inl (some x0))))]) (st' := []) rfl ?_
  refine J_seg ok_X6_init 111 2 (pc' := 184) (ls' := [(1, .inl 3), (0, .inr (.inr (.inl (some x0))))]) (st' := [.inl 4, .inl 3]) rfl ?_
  refine J_ge (jat ok_X6_init 113 (pc := 184) (i := .if_icmp .ge 22) (n := 3) rfl rfl) (tgt := 206) (by decide) (fun c => absurd c (by decide)) (fun _ => ?_)
  refine J_seg ok_X6_init 114 1 (pc' := 188) (ls' := [(1, .inl 3), (0, .inr (.inr (.inl (some x0))))]) (st' := [.inr (.inr (.inl (some x0)))]) rfl ?_
  obtain ⟨v63, h64, h⟩ := Option.bind_eq_some_iff.mp h
  refine J_getR (jat ok_X6_init 115 (pc := 188) (i := .getfield 7) (n := 3) rfl rfl) fl_RX6_7 h64 ?_
  refine J_seg ok_X6_init 116 6 (pc' := 199) (ls' := [(1, .inl 3), (0, .inr (.inr (.inl (some x0))))]) (st' := [.inl (-1), .inl 2340, .inr (.inr (.inl v63))]) rfl ?_
  obtain ⟨a65, h66, h⟩ := Option.bind_eq_some_iff.mp h
  refine J_iast (jat ok_X6_init 122 (pc := 199) (i := .iastore) (n := 1) rfl rfl) h66 ?_
  refine J_seg ok_X6_init 123 2 (pc' := 182) (ls' := [(1, .inl 4), (0, .inr (.inr (.inl (some x0))))]) (st' := []) rfl ?_
  refine J_seg ok_X6_init 111 2 (pc' := 184) (ls' := [(1, .inl 4), (0, .inr (.inr (.inl (some x0))))]) (st' := [.inl 4, .inl 4]) rfl ?_
  refine J_ge (jat ok_X6_init 113 (pc := 184) (i := .if_icmp .ge 22) (n := 3) rfl rfl) (tgt := 206) (by decide) (fun _ => ?_) (fun c => absurd (by decide) c)
  have h := Option.some.inj h
  subst h
  exact hR _ _ (jat ok_X6_init 125 (pc := 206) (i := .return_) (n := 1) rfl rfl)
theorem c_X6_init (l : Launch) (g : GX) (d : Nat) {x0 : Nat} {ah : AH} {q : Unit × AH} (h : f_X6_init x0 ah = some q) : jM l g (d + 1) md_X6_init [.inr (.inr (.inl (some x0)))] ah none q.2 :=
  jM_of (by decide) (Nat.le_of_ble_eq_true rfl) (k_X6_init d ah q h (fun pc ls hd => J_retv hd rfl rfl (Nat.le_refl _) rfl rfl))
