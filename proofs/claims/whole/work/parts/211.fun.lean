def f_X6_bits_b4 (k0 : Int32) (s4 : Int32 × Int32) (ah : AH) : Option ((Unit × AH) ⊕ (((Int32) × AH) ⊕ ((Int32 × Int32) × AH))) :=
  if 6 ≤ s4.2 then (some (.inr (.inl (s4.1, ah)))) else (some (.inr (.inr ((s4.1 + ((k0 >>> (s4.2 &&& 31)) &&& 1), s4.2 + 1), ah))))
set_option maxRecDepth 100000 in
set_option maxHeartbeats 4000000 in
theorem k_X6_bits_b4 {l : Launch} {g : GX} (d : Nat) {Q : jQ} {k0 : Int32} (s4 : Int32 × Int32) (ah : AH) (out : (Unit × AH) ⊕ (((Int32) × AH) ⊕ ((Int32 × Int32) × AH))) (h : f_X6_bits_b4 k0 s4 ah = some out) (hR : ∀ q, out = .inl q → jRetN q.1 q.2) (hX : ∀ q, out = .inr (.inl q) → J l g md_X6_bits (jRm (d + 0) md_X6_bits) Q 24 [(1, .inl q.1)] [] q.2 (0, 0)) (hN : ∀ q, out = .inr (.inr q) → J l g md_X6_bits (jRm (d + 0) md_X6_bits) Q 4 [(0, .inl k0), (1, .inl q.1.1), (2, .inl q.1.2)] [] q.2 (0, 0)) : J l g md_X6_bits (jRm (d + 0) md_X6_bits) Q 4 [(0, .inl k0), (1, .inl s4.1), (2, .inl s4.2)] [] ah (0, 0) := by
  unfold f_X6_bits_b4 at h
  refine J_seg ok_X6_bits 4 2 (pc' := 7) (ls' := [(0, .inl k0), (1, .inl s4.1), (2, .inl s4.2)]) (st' := [.inl 6, .inl s4.2]) rfl ?_
  refine J_ge (jat ok_X6_bits 6 (pc := 7) (i := .if_icmp .ge 17) (n := 3) rfl rfl) (tgt := 24) (by decide) (fun c => ?_) (fun c => ?_)
  · have h := (if_pos c).symm.trans h
    exact J_sub (ls' := [(1, .inl s4.1)]) [1] rfl (hX (s4.1, ah) (Option.some.inj h).symm)
  · have h := (if_neg c).symm.trans h
    refine J_seg ok_X6_bits 7 10 (pc' := 4) (ls' := [(2, .inl (s4.2 + 1)), (1, .inl (s4.1 + ((k0 >>> (s4.2 &&& 31)) &&& 1))), (0, .inl k0)]) (st' := []) rfl ?_
    exact J_sub (ls' := [(0, .inl k0), (1, .inl (s4.1 + ((k0 >>> (s4.2 &&& 31)) &&& 1))), (2, .inl (s4.2 + 1))]) [2, 1, 0] rfl (hN ((s4.1 + ((k0 >>> (s4.2 &&& 31)) &&& 1), s4.2 + 1), ah) (Option.some.inj h).symm)
def f_X6_bits (x0 : Int32) (ah : AH) : Option (Int32 × AH) :=
  (jloop (f_X6_bits_b4 x0) jfuel (0, 0) ah).bind fun q1 => match q1 with | .inl r => none | .inr z3 => some (z3.1, z3.2)
set_option maxRecDepth 100000 in
set_option maxHeartbeats 4000000 in
theorem k_X6_bits {l : Launch} {g : GX} (d : Nat) {Q : jQ} {x0 : Int32} (ah : AH) (out : Int32 × AH) (h : f_X6_bits x0 ah = some out) (hR : jRetI l g md_X6_bits (jRm (d + 0) md_X6_bits) Q (0, 0) out.1 out.2) : J l g md_X6_bits (jRm (d + 0) md_X6_bits) Q 0 [(0, .inl x0)] [] ah (0, 0) := by
  unfold f_X6_bits at h
  refine J_seg ok_X6_bits 0 4 (pc' := 4) (ls' := [(2, .inl 0), (1, .inl 0), (0, .inl x0)]) (st' := []) rfl ?_
  obtain ⟨q1, h2, h⟩ := Option.bind_eq_some_iff.mp h
  refine J_sub (ls' := [(0, .inl x0), (1, .inl 0), (2, .inl 0)]) [2, 1, 0] rfl ?_
  refine J_loop (pE := 24) (lh := fun t4 => [(0, .inl x0), (1, .inl t4.1), (2, .inl t4.2)]) (lx := fun z3 => [(1, .inl z3)]) (P := jRetN) (fun s ah out hb hR hX hN => k_X6_bits_b4 d s ah out hb hR hX hN) jfuel (0, 0) _ _ h2 (fun r e => ?_) (fun z3 e => ?_)
  · subst e
    dsimp only at h
    cases h
  · subst e
    dsimp only at h
    refine J_seg ok_X6_bits 17 1 (pc' := 25) (ls' := [(1, .inl z3.1)]) (st' := [.inl z3.1]) rfl ?_
    have h := Option.some.inj h
    subst h
    exact hR _ _ (jat ok_X6_bits 18 (pc := 25) (i := .ireturn) (n := 1) rfl rfl)
theorem c_X6_bits (l : Launch) (g : GX) (d : Nat) {x0 : Int32} {ah : AH} {q : Int32 × AH} (h : f_X6_bits x0 ah = some q) : jM l g (d + 0) md_X6_bits [.inl x0] ah (some (.inl q.1)) q.2 :=
  jM_of (by decide) (Nat.le_of_ble_eq_true rfl) (k_X6_bits d ah q h (fun pc ls hd => J_reti hd rfl (jPV_int _) rfl (Nat.le_refl _) rfl rfl))
def f_X6_in (x0 : Int64) (x2 : Int64) (x4 : Int64) (ah : AH) : Option (Int32 × AH) :=
  if (lg_cmp x0 x2) < 0 then (some (0, ah)) else (if 0 < (lg_cmp x0 x4) then (some (0, ah)) else (some (1, ah)))
set_option maxRecDepth 100000 in
set_option maxHeartbeats 4000000 in
theorem k_X6_in {l : Launch} {g : GX} (d : Nat) {Q : jQ} {x0 : Int64} {x2 : Int64} {x4 : Int64} (ah : AH) (out : Int32 × AH) (h : f_X6_in x0 x2 x4 ah = some out) (hR : jRetZ l g md_X6_in (jRm (d + 0) md_X6_in) Q (0, 0) out.1 out.2) : J l g md_X6_in (jRm (d + 0) md_X6_in) Q 0 [(0, .inr (.inl x0)), (2, .inr (.inl x2)), (4, .inr (.inl x4))] [] ah (0, 0) := by
  unfold f_X6_in at h
  refine J_seg ok_X6_in 0 3 (pc' := 3) (ls' := [(0, .inr (.inl x0)), (2, .inr (.inl x2)), (4, .inr (.inl x4))]) (st' := [.inl (lg_cmp x0 x2)]) rfl ?_
  refine J_lt0 (jat ok_X6_in 3 (pc := 3) (i := .ifCond .lt 14) (n := 3) rfl rfl) (tgt := 17) (by decide) (fun c => ?_) (fun c => ?_)
  · have h := (if_pos c).symm.trans h
    refine J_seg ok_X6_in 10 1 (pc' := 18) (ls' := [(0, .inr (.inl x0)), (2, .inr (.inl x2)), (4, .inr (.inl x4))]) (st' := [.inl 0]) rfl ?_
    have h := Option.some.inj h
    subst h
    exact hR _ _ (jat ok_X6_in 11 (pc := 18) (i := .ireturn) (n := 1) rfl rfl) (Or.inl rfl)
  · have h := (if_neg c).symm.trans h
    refine J_seg ok_X6_in 4 3 (pc' := 10) (ls' := [(0, .inr (.inl x0)), (2, .inr (.inl x2)), (4, .inr (.inl x4))]) (st' := [.inl (lg_cmp x0 x4)]) rfl ?_
    refine J_gt0 (jat ok_X6_in 7 (pc := 10) (i := .ifCond .gt 7) (n := 3) rfl rfl) (tgt := 17) (by decide) (fun c => ?_) (fun c => ?_)
    · have h := (if_pos c).symm.trans h
      refine J_seg ok_X6_in 10 1 (pc' := 18) (ls' := [(0, .inr (.inl x0)), (2, .inr (.inl x2)), (4, .inr (.inl x4))]) (st' := [.inl 0]) rfl ?_
      have h := Option.some.inj h
      subst h
      exact hR _ _ (jat ok_X6_in 11 (pc := 18) (i := .ireturn) (n := 1) rfl rfl) (Or.inl rfl)
    · have h := (if_neg c).symm.trans h
      refine J_seg ok_X6_in 8 2 (pc' := 18) (ls' := [(0, .inr (.inl x0)), (2, .inr (.inl x2)), (4, .inr (.inl x4))]) (st' := [.inl 1]) rfl ?_
      have h := Option.some.inj h
      subst h
      exact hR _ _ (jat ok_X6_in 11 (pc := 18) (i := .ireturn) (n := 1) rfl rfl) (Or.inr rfl)
theorem c_X6_in (l : Launch) (g : GX) (d : Nat) {x0 : Int64} {x2 : Int64} {x4 : Int64} {ah : AH} {q : Int32 × AH} (h : f_X6_in x0 x2 x4 ah = some q) : jM l g (d + 0) md_X6_in [.inr (.inl x0), .inr (.inl x2), .inr (.inl x4)] ah (some (.inl q.1)) q.2 :=
  jM_of (by decide) (Nat.le_of_ble_eq_true rfl) (k_X6_in d ah q h (fun pc ls hd c => J_reti hd rfl (jPV_z c) rfl (Nat.le_refl _) rfl rfl))
def f_X6_has (x0 : Int32) (x1 : Int32) (ah : AH) : Option (Int32 × AH) :=
  if ((x0 >>> (x1 &&& 31)) &&& 1) = 1 then (some (1, ah)) else (some (0, ah))
set_option maxRecDepth 100000 in
set_option maxHeartbeats 4000000 in
theorem k_X6_has {l : Launch} {g : GX} (d : Nat) {Q : jQ} {x0 : Int32} {x1 : Int32} (ah : AH) (out : Int32 × AH) (h : f_X6_has x0 x1 ah = some out) (hR : jRetZ l g md_X6_has (jRm (d + 0) md_X6_has) Q (0, 0) out.1 out.2) : J l g md_X6_has (jRm (d + 0) md_X6_has) Q 0 [(0, .inl x0), (1, .inl x1)] [] ah (0, 0) := by
  unfold f_X6_has at h
  refine J_seg ok_X6_has 0 6 (pc' := 6) (ls' := [(0, .inl x0), (1, .inl x1)]) (st' := [.inl 1, .inl ((x0 >>> (x1 &&& 31)) &&& 1)]) rfl ?_
  refine J_ne (jat ok_X6_has 6 (pc := 6) (i := .if_icmp .ne 7) (n := 3) rfl rfl) (tgt := 13) (by decide) (fun c => ?_) (fun c => ?_)
  · have h := (if_neg c).symm.trans h
    refine J_seg ok_X6_has 9 1 (pc' := 14) (ls' := [(0, .inl x0), (1, .inl x1)]) (st' := [.inl 0]) rfl ?_
    have h := Option.some.inj h
    subst h
    exact hR _ _ (jat ok_X6_has 10 (pc := 14) (i := .ireturn) (n := 1) rfl rfl) (Or.inl rfl)
  · have h := (if_pos c).symm.trans h
    refine J_seg ok_X6_has 7 2 (pc' := 14) (ls' := [(0, .inl x0), (1, .inl x1)]) (st' := [.inl 1]) rfl ?_
    have h := Option.some.inj h
    subst h
    exact hR _ _ (jat ok_X6_has 10 (pc := 14) (i := .ireturn) (n := 1) rfl rfl) (Or.inr rfl)
theorem c_X6_has (l : Launch) (g : GX) (d : Nat) {x0 : Int32} {x1 : Int32} {ah : AH} {q : Int32 × AH} (h : f_X6_has x0 x1 ah = some q) : jM l g (d + 0) md_X6_has [.inl x0, .inl x1] ah (some (.inl q.1)) q.2 :=
  jM_of (by decide) (Nat.le_of_ble_eq_true rfl) (k_X6_has d ah q h (fun pc ls hd c => J_reti hd rfl (jPV_z c) rfl (Nat.le_refl _) rfl rfl))
def f_X6_find (x0 : Option Nat) (x1 : Int32) (ah : AH) : Option (Int32 × AH) :=
  (sF ah x0 6 14 (.inl x1)).bind fun a1 => (gR a1 x0 6 15).bind fun v3 => (gA a1 v3 x1).bind fun v5 => (sA a1 v3 x1 (v5 + 1)).bind fun a7 => some ((-3), a7)
set_option maxRecDepth 100000 in
set_option maxHeartbeats 4000000 in
theorem k_X6_find {l : Launch} {g : GX} (d : Nat) {Q : jQ} {x0 : Option Nat} {x1 : Int32} (ah : AH) (out : Int32 × AH) (h : f_X6_find x0 x1 ah = some out) (hR : jRetI l g md_X6_find (jRm (d + 0) md_X6_find) Q (0, 0) out.1 out.2) : J l g md_X6_find (jRm (d + 0) md_X6_find) Q 0 [(0, .inr (.inr (.inl x0))), (1, .inl x1)] [] ah (0, 0) := by
  unfold f_X6_find at h
  refine J_seg ok_X6_find 0 2 (pc' := 2) (ls' := [(0, .inr (.inr (.inl x0))), (1, .inl x1)]) (st' := [.inl x1, .inr (.inr (.inl x0))]) rfl ?_
  obtain ⟨a1, h2, h⟩ := Option.bind_eq_some_iff.mp h
  refine J_put (jat ok_X6_find 2 (pc := 2) (i := .putfield 62) (n := 3) rfl rfl) (fp_RX6_62 _) (jPV_int _) h2 ?_
  refine J_seg ok_X6_find 3 1 (pc' := 6) (ls' := [(0, .inr (.inr (.inl x0))), (1, .inl x1)]) (st' := [.inr (.inr (.inl x0))]) rfl ?_
  obtain ⟨v3, h4, h⟩ := Option.bind_eq_some_iff.mp h
  refine J_getR (jat ok_X6_find 4 (pc := 6) (i := .getfield 41) (n := 3) rfl rfl) fl_RX6_41 h4 ?_
  refine J_seg ok_X6_find 5 2 (pc' := 11) (ls' := [(0, .inr (.inr (.inl x0))), (1, .inl x1)]) (st' := [.inl x1, .inr (.inr (.inl v3)), .inl x1, .inr (.inr (.inl v3))]) rfl ?_
  obtain ⟨v5, h6, h⟩ := Option.bind_eq_some_iff.mp h
  refine J_iald (jat ok_X6_find 7 (pc := 11) (i := .iaload) (n := 1) rfl rfl) h6 ?_
  refine J_seg ok_X6_find 8 2 (pc' := 14) (ls' := [(0, .inr (.inr (.inl x0))), (1, .inl x1)]) (st' := [.inl (v5 + 1), .inl x1, .inr (.inr (.inl v3))]) rfl ?_
  obtain ⟨a7, h8, h⟩ := Option.bind_eq_some_iff.mp h
  refine J_iast (jat ok_X6_find 10 (pc := 14) (i := .iastore) (n := 1) rfl rfl) h8 ?_
  refine J_seg ok_X6_find 11 1 (pc' := 17) (ls' := [(0, .inr (.inr (.inl x0))), (1, .inl x1)]) (st' := [.inl (-3)]) rfl ?_
  have h := Option.some.inj h
  subst h
  exact hR _ _ (jat ok_X6_find 12 (pc := 17) (i := .ireturn) (n := 1) rfl rfl)
theorem c_X6_find (l : Launch) (g : GX) (d : Nat) {x0 : Option Nat} {x1 : Int32} {ah : AH} {q : Int32 × AH} (h : f_X6_find x0 x1 ah = some q) : jM l g (d + 0) md_X6_find [.inr (.inr (.inl x0)), .inl x1] ah (some (.inl q.1)) q.2 :=
  jM_of (by decide) (Nat.le_of_ble_eq_true rfl) (k_X6_find d ah q h (fun pc ls hd => J_reti hd rfl (jPV_int _) rfl (Nat.le_refl _) rfl rfl))
def f_X6_tell (x0 : Option Nat) (x1 : Int32) (ah : AH) : Option (Int32 × AH) :=
  (sF ah x0 6 11 (.inl x1)).bind fun a1 => some (1, a1)
set_option maxRecDepth 100000 in
set_option maxHeartbeats 4000000 in
theorem k_X6_tell {l : Launch} {g : GX} (d : Nat) {Q : jQ} {x0 : Option Nat} {x1 : Int32} (ah : AH) (out : Int32 × AH) (h : f_X6_tell x0 x1 ah = some out) (hR : jRetI l g md_X6_tell (jRm (d + 0) md_X6_tell) Q (0, 0) out.1 out.2) : J l g md_X6_tell (jRm (d + 0) md_X6_tell) Q 0 [(0, .inr (.inr (.inl x0))), (1, .inl x1)] [] ah (0, 0) := by
  unfold f_X6_tell at h
  refine J_seg ok_X6_tell 0 2 (pc' := 2) (ls' := [(0, .inr (.inr (.inl x0))), (1, .inl x1)]) (st' := [.inl x1, .inr (.inr (.inl x0))]) rfl ?_
  obtain ⟨a1, h2, h⟩ := Option.bind_eq_some_iff.mp h
  refine J_put (jat ok_X6_tell 2 (pc := 2) (i := .putfield 66) (n := 3) rfl rfl) (fp_RX6_66 _) (jPV_int _) h2 ?_
  refine J_seg ok_X6_tell 3 1 (pc' := 6) (ls' := [(0, .inr (.inr (.inl x0))), (1, .inl x1)]) (st' := [.inl 1]) rfl ?_
  have h := Option.some.inj h
  subst h
  exact hR _ _ (jat ok_X6_tell 4 (pc := 6) (i := .ireturn) (n := 1) rfl rfl)
theorem c_X6_tell (l : Launch) (g : GX) (d : Nat) {x0 : Option Nat} {x1 : Int32} {ah : AH} {q : Int32 × AH} (h : f_X6_tell x0 x1 ah = some q) : jM l g (d + 0) md_X6_tell [.inr (.inr (.inl x0)), .inl x1] ah (some (.inl q.1)) q.2 :=
  jM_of (by decide) (Nat.le_of_ble_eq_true rfl) (k_X6_tell d ah q h (fun pc ls hd => J_reti hd rfl (jPV_int _) rfl (Nat.le_refl _) rfl rfl))
def f_X6_isRow (x0 : Int32) (ah : AH) : Option (Int32 × AH) :=
  (f_X6_in (Int32.toInt64 x0) 0 5 ah).bind fun q1 => if q1.1 = 0 ∨ q1.1 = 1 then some (q1.1, q1.2) else none
set_option maxRecDepth 100000 in
set_option maxHeartbeats 4000000 in
theorem k_X6_isRow {l : Launch} {g : GX} (d : Nat) {Q : jQ} {x0 : Int32} (ah : AH) (out : Int32 × AH) (h : f_X6_isRow x0 ah = some out) (hR : jRetZ l g md_X6_isRow (jRm (d + 1) md_X6_isRow) Q (0, 0) out.1 out.2) : J l g md_X6_isRow (jRm (d + 1) md_X6_isRow) Q 0 [(0, .inl x0)] [] ah (0, 0) := by
  unfold f_X6_isRow at h
  refine J_seg ok_X6_isRow 0 3 (pc' := 3) (ls' := [(0, .inl x0)]) (st' := [.inr (.inl 0), .inr (.inl (Int32.toInt64 x0))]) rfl ?_
  refine J_ldc2 (jat ok_X6_isRow 3 (pc := 3) (i := .ldc2_w 69) (n := 3) rfl rfl) lc_RX6_69 ?_
  obtain ⟨q1, h2, h⟩ := Option.bind_eq_some_iff.mp h
  refine J_callS (md' := md_X6_in) (As := [.inr (.inl (Int32.toInt64 x0)), .inr (.inl 0), .inr (.inl 5)]) (st := []) (cs' := (0, 0)) (st' := [.inl q1.1]) (jat ok_X6_isRow 4 (pc := 6) (i := .invokestatic 71) (n := 3) rfl rfl) (Or.inl ml_RX6_71) ys_X6_in (c_X6_in l g (d + 0) h2) (jRo_of (by decide)) (Nat.le_of_ble_eq_true rfl) ⟨Nat.le_of_ble_eq_true rfl, Nat.le_of_ble_eq_true rfl⟩ rfl rfl rfl ?_
  by_cases c : q1.1 = 0 ∨ q1.1 = 1
  · have h := (if_pos c).symm.trans h
    have h := Option.some.inj h
    subst h
    exact hR _ _ (jat ok_X6_isRow 5 (pc := 9) (i := .ireturn) (n := 1) rfl rfl) c
  · have h := (if_neg c).symm.trans h
    cases h
theorem c_X6_isRow (l : Launch) (g : GX) (d : Nat) {x0 : Int32} {ah : AH} {q : Int32 × AH} (h : f_X6_isRow x0 ah = some q) : jM l g (d + 1) md_X6_isRow [.inl x0] ah (some (.inl q.1)) q.2 :=
  jM_of (by decide) (Nat.le_of_ble_eq_true rfl) (k_X6_isRow d ah q h (fun pc ls hd c => J_reti hd rfl (jPV_z c) rfl (Nat.le_refl _) rfl rfl))
def f_X6_isText (x0 : Int32) (ah : AH) : Option (Int32 × AH) :=
  (f_X6_in (Int32.toInt64 x0) 0 3 ah).bind fun q1 => if q1.1 = 0 ∨ q1.1 = 1 then some (q1.1, q1.2) else none
set_option maxRecDepth 100000 in
set_option maxHeartbeats 4000000 in
theorem k_X6_isText {l : Launch} {g : GX} (d : Nat) {Q : jQ} {x0 : Int32} (ah : AH) (out : Int32 × AH) (h : f_X6_isText x0 ah = some out) (hR : jRetZ l g md_X6_isText (jRm (d + 1) md_X6_isText) Q (0, 0) out.1 out.2) : J l g md_X6_isText (jRm (d + 1) md_X6_isText) Q 0 [(0, .inl x0)] [] ah (0, 0) := by
  unfold f_X6_isText at h
  refine J_seg ok_X6_isText 0 3 (pc' := 3) (ls' := [(0, .inl x0)]) (st' := [.inr (.inl 0), .inr (.inl (Int32.toInt64 x0))]) rfl ?_
  refine J_ldc2 (jat ok_X6_isText 3 (pc := 3) (i := .ldc2_w 75) (n := 3) rfl rfl) lc_RX6_75 ?_
  obtain ⟨q1, h2, h⟩ := Option.bind_eq_some_iff.mp h
  refine J_callS (md' := md_X6_in) (As := [.inr (.inl (Int32.toInt64 x0)), .inr (.inl 0), .inr (.inl 3)]) (st := []) (cs' := (0, 0)) (st' := [.inl q1.1]) (jat ok_X6_isText 4 (pc := 6) (i := .invokestatic 71) (n := 3) rfl rfl) (Or.inl ml_RX6_71) ys_X6_in (c_X6_in l g (d + 0) h2) (jRo_of (by decide)) (Nat.le_of_ble_eq_true rfl) ⟨Nat.le_of_ble_eq_true rfl, Nat.le_of_ble_eq_true rfl⟩ rfl rfl rfl ?_
  by_cases c : q1.1 = 0 ∨ q1.1 = 1
  · have h := (if_pos c).symm.trans h
    have h := Option.some.inj h
    subst h
    exact hR _ _ (jat ok_X6_isText 5 (pc := 9) (i := .ireturn) (n := 1) rfl rfl) c
  · have h := (if_neg c).symm.trans h
    cases h
theorem c_X6_isText (l : Launch) (g : GX) (d : Nat) {x0 : Int32} {ah : AH} {q : Int32 × AH} (h : f_X6_isText x0 ah = some q) : jM l g (d + 1) md_X6_isText [.inl x0] ah (some (.inl q.1)) q.2 :=
  jM_of (by decide) (Nat.le_of_ble_eq_true rfl) (k_X6_isText d ah q h (fun pc ls hd c => J_reti hd rfl (jPV_z c) rfl (Nat.le_refl _) rfl rfl))
def f_X6_makeRow_b9 (k0 : Option Nat) (k1 : Int32) (s9 : Int32) (ah : AH) : Option ((Unit × AH) ⊕ (((Unit) × AH) ⊕ ((Int32) × AH))) :=
  if 40 ≤ s9 then (some (.inr (.inl ((), ah)))) else ((gR ah k0 6 8).bind fun v5 => (sA ah v5 ((40 * k1) + s9) 0).bind fun a7 => some (.inr (.inr (s9 + 1, a7))))
set_option maxRecDepth 100000 in
set_option maxHeartbeats 4000000 in
theorem k_X6_makeRow_b9 {l : Launch} {g : GX} (d : Nat) {Q : jQ} {k0 : Option Nat} {k1 : Int32} (s9 : Int32) (ah : AH) (out : (Unit × AH) ⊕ (((Unit) × AH) ⊕ ((Int32) × AH))) (h : f_X6_makeRow_b9 k0 k1 s9 ah = some out) (hR : ∀ q, out = .inl q → jRetN q.1 q.2) (hX : ∀ q, out = .inr (.inl q) → J l g md_X6_makeRow (jRm (d + 0) md_X6_makeRow) Q 33 [] [] q.2 (0, 0)) (hN : ∀ q, out = .inr (.inr q) → J l g md_X6_makeRow (jRm (d + 0) md_X6_makeRow) Q 9 [(0, .inr (.inr (.inl k0))), (1, .inl k1), (3, .inl q.1)] [] q.2 (0, 0)) : J l g md_X6_makeRow (jRm (d + 0) md_X6_makeRow) Q 9 [(0, .inr (.inr (.inl k0))), (1, .inl k1), (3, .inl s9)] [] ah (0, 0) := by
  unfold f_X6_makeRow_b9 at h
  refine J_seg ok_X6_makeRow 7 2 (pc' := 12) (ls' := [(0, .inr (.inr (.inl k0))), (1, .inl k1), (3, .inl s9)]) (st' := [.inl 40, .inl s9]) rfl ?_
  refine J_ge (jat ok_X6_makeRow 9 (pc := 12) (i := .if_icmp .ge 21) (n := 3) rfl rfl) (tgt := 33) (by decide) (fun c => ?_) (fun c => ?_)
  · have h := (if_pos c).symm.trans h
    exact J_sub (ls' := []) [] rfl (hX ((), ah) (Option.some.inj h).symm)
  · have h := (if_neg c).symm.trans h
    refine J_seg ok_X6_makeRow 10 1 (pc' := 16) (ls' := [(0, .inr (.inr (.inl k0))), (1, .inl k1), (3, .inl s9)]) (st' := [.inr (.inr (.inl k0))]) rfl ?_
    obtain ⟨v5, h6, h⟩ := Option.bind_eq_some_iff.mp h
    refine J_getR (jat ok_X6_makeRow 11 (pc := 16) (i := .getfield 28) (n := 3) rfl rfl) fl_RX6_28 h6 ?_
    refine J_seg ok_X6_makeRow 12 6 (pc' := 26) (ls' := [(0, .inr (.inr (.inl k0))), (1, .inl k1), (3, .inl s9)]) (st' := [.inl 0, .inl ((40 * k1) + s9), .inr (.inr (.inl v5))]) rfl ?_
    obtain ⟨a7, h8, h⟩ := Option.bind_eq_some_iff.mp h
    refine J_iast (jat ok_X6_makeRow 18 (pc := 26) (i := .iastore) (n := 1) rfl rfl) h8 ?_
    refine J_seg ok_X6_makeRow 19 2 (pc' := 9) (ls' := [(3, .inl (s9 + 1)), (0, .inr (.inr (.inl k0))), (1, .inl k1)]) (st' := []) rfl ?_
    exact J_sub (ls' := [(0, .inr (.inr (.inl k0))), (1, .inl k1), (3, .inl (s9 + 1))]) [1, 2, 0] rfl (hN (s9 + 1, a7) (Option.some.inj h).symm)
def f_X6_makeRow (x0 : Option Nat) (x1 : Int32) (x2 : Int32) (ah : AH) : Option (Unit × AH) :=
  (gR ah x0 6 7).bind fun v1 => (sA ah v1 x1 x2).bind fun a3 => (jloop (f_X6_makeRow_b9 x0 x1) jfuel 0 a3).bind fun q9 => match q9 with | .inl r => none | .inr z11 => some ((), z11.2)
set_option maxRecDepth 100000 in
set_option maxHeartbeats 4000000 in
theorem k_X6_makeRow {l : Launch} {g : GX} (d : Nat) {Q : jQ} {x0 : Option Nat} {x1 : Int32} {x2 : Int32} (ah : AH) (out : Unit × AH) (h : f_X6_makeRow x0 x1 x2 ah = some out) (hR : jRetV l g md_X6_makeRow (jRm (d + 0) md_X6_makeRow) Q (0, 0) out.1 out.2) : J l g md_X6_makeRow (jRm (d + 0) md_X6_makeRow) Q 0 [(0, .inr (.inr (.inl x0))), (1, .inl x1), (2, .inl x2)] [] ah (0, 0) := by
  unfold f_X6_makeRow at h
  refine J_seg ok_X6_makeRow 0 1 (pc' := 1) (ls' := [(0, .inr (.inr (.inl x0))), (1, .inl x1), (2, .inl x2)]) (st' := [.inr (.inr (.inl x0))]) rfl ?_
  obtain ⟨v1, h2, h⟩ := Option.bind_eq_some_iff.mp h
  refine J_getR (jat ok_X6_makeRow 1 (pc := 1) (i := .getfield 25) (n := 3) rfl rfl) fl_RX6_25 h2 ?_
  refine J_seg ok_X6_makeRow 2 2 (pc' := 6) (ls' := [(0, .inr (.inr (.inl x0))), (1, .inl x1), (2, .inl x2)]) (st' := [.inl x2, .inl x1, .inr (.inr (.inl v1))]) rfl ?_
  obtain ⟨a3, h4, h⟩ := Option.bind_eq_some_iff.mp h
  refine J_iast (jat ok_X6_makeRow 4 (pc := 6) (i := .iastore) (n := 1) rfl rfl) h4 ?_
  refine J_seg ok_X6_makeRow 5 2 (pc' := 9) (ls' := [(3, .inl 0), (0, .inr (.inr (.inl x0))), (1, .inl x1), (2, .inl x2)]) (st' := []) rfl ?_
  obtain ⟨q9, h10, h⟩ := Option.bind_eq_some_iff.mp h
  refine J_sub (ls' := [(0, .inr (.inr (.inl x0))), (1, .inl x1), (3, .inl 0)]) [1, 2, 0] rfl ?_
  refine J_loop (pE := 33) (lh := fun t12 => [(0, .inr (.inr (.inl x0))), (1, .inl x1), (3, .inl t12)]) (lx := fun z11 => []) (P := jRetN) (fun s ah out hb hR hX hN => k_X6_makeRow_b9 d s ah out hb hR hX hN) jfuel 0 _ _ h10 (fun r e => ?_) (fun z11 e => ?_)
  · subst e
    dsimp only at h
    cases h
  · subst e
    dsimp only at h
    have h := Option.some.inj h
    subst h
    exact hR _ _ (jat ok_X6_makeRow 21 (pc := 33) (i := .return_) (n := 1) rfl rfl)
theorem c_X6_makeRow (l : Launch) (g : GX) (d : Nat) {x0 : Option Nat} {x1 : Int32} {x2 : Int32} {ah : AH} {q : Unit × AH} (h : f_X6_makeRow x0 x1 x2 ah = some q) : jM l g (d + 0) md_X6_makeRow [.inr (.inr (.inl x0)), .inl x1, .inl x2] ah none q.2 :=
  jM_of (by decide) (Nat.le_of_ble_eq_true rfl) (k_X6_makeRow d ah q h (fun pc ls hd => J_retv hd rfl rfl (Nat.le_refl _) rfl rfl))
def f_X6_row (x0 : Option Nat) (x1 : Int32) (x2 : Int32) (ah : AH) : Option (Int32 × AH) :=
  (f_X6_isRow x1 ah).bind fun q1 => if q1.1 = 0 then (some ((-1), q1.2)) else (if x2 ≤ 40 then (if 0 ≤ x2 then (if qO q1.2 x0 6 = true then ((f_X6_makeRow x0 x1 x2 q1.2).bind fun q3 => some (x2, q3.2)) else none) else (if qO q1.2 x0 6 = true then ((f_X6_find x0 5 q1.2).bind fun q6 => some (q6.1, q6.2)) else none)) else (some ((-1), q1.2)))
set_option maxRecDepth 100000 in
set_option maxHeartbeats 4000000 in
theorem k_X6_row {l : Launch} {g : GX} (d : Nat) {Q : jQ} {x0 : Option Nat} {x1 : Int32} {x2 : Int32} (ah : AH) (out : Int32 × AH) (h : f_X6_row x0 x1 x2 ah = some out) (hR : jRetI l g md_X6_row (jRm (d + 2) md_X6_row) Q (0, 0) out.1 out.2) : J l g md_X6_row (jRm (d + 2) md_X6_row) Q 0 [(0, .inr (.inr (.inl x0))), (1, .inl x1), (2, .inl x2)] [] ah (0, 0) := by
  unfold f_X6_row at h
  refine J_seg ok_X6_row 0 1 (pc' := 1) (ls' := [(0, .inr (.inr (.inl x0))), (1, .inl x1), (2, .inl x2)]) (st' := [.inl x1]) rfl ?_
  obtain ⟨q1, h2, h⟩ := Option.bind_eq_some_iff.mp h
  refine J_callS (md' := md_X6_isRow) (As := [.inl x1]) (st := []) (cs' := (0, 0)) (st' := [.inl q1.1]) (jat ok_X6_row 1 (pc := 1) (i := .invokestatic 77) (n := 3) rfl rfl) (Or.inl ml_RX6_77) ys_X6_isRow (c_X6_isRow l g (d + 0) h2) (jRo_of (by decide)) (Nat.le_of_ble_eq_true rfl) ⟨Nat.le_of_ble_eq_true rfl, Nat.le_of_ble_eq_true rfl⟩ rfl rfl rfl ?_
  refine J_eq0 (jat ok_X6_row 2 (pc := 4) (i := .ifCond .eq 9) (n := 3) rfl rfl) (tgt := 13) (by decide) (fun c => ?_) (fun c => ?_)
  · have h := (if_pos c).symm.trans h
    refine J_seg ok_X6_row 6 1 (pc' := 14) (ls' := [(0, .inr (.inr (.inl x0))), (1, .inl x1), (2, .inl x2)]) (st' := [.inl (-1)]) rfl ?_
    have h := Option.some.inj h
    subst h
    exact hR _ _ (jat ok_X6_row 7 (pc := 14) (i := .ireturn) (n := 1) rfl rfl)
  · have h := (if_neg c).symm.trans h
    refine J_seg ok_X6_row 3 2 (pc' := 10) (ls' := [(0, .inr (.inr (.inl x0))), (1, .inl x1), (2, .inl x2)]) (st' := [.inl 40, .inl x2]) rfl ?_
    refine J_le (jat ok_X6_row 5 (pc := 10) (i := .if_icmp .le 5) (n := 3) rfl rfl) (tgt := 15) (by decide) (fun c => ?_) (fun c => ?_)
    · have h := (if_pos c).symm.trans h
      refine J_seg ok_X6_row 8 1 (pc' := 16) (ls' := [(0, .inr (.inr (.inl x0))), (1, .inl x1), (2, .inl x2)]) (st' := [.inl x2]) rfl ?_
      refine J_ge0 (jat ok_X6_row 9 (pc := 16) (i := .ifCond .ge 9) (n := 3) rfl rfl) (tgt := 25) (by decide) (fun c => ?_) (fun c => ?_)
      · have h := (if_pos c).symm.trans h
        refine J_seg ok_X6_row 14 3 (pc' := 28) (ls' := [(0, .inr (.inr (.inl x0))), (1, .inl x1), (2, .inl x2)]) (st' := [.inl x2, .inl x1, .inr (.inr (.inl x0))]) rfl ?_
        by_cases c5 : qO q1.2 x0 6 = true
        case neg => exact absurd ((if_neg c5).symm.trans h) (by simp)
        have h := (if_pos c5).symm.trans h
        obtain ⟨q3, h4, h⟩ := Option.bind_eq_some_iff.mp h
        refine J_callV (md' := md_X6_makeRow) (As := [.inl x1, .inl x2]) (st := []) (cs' := (0, 0)) (st' := []) (jat ok_X6_row 17 (pc := 28) (i := .invokevirtual 85) (n := 3) rfl rfl) ml_RX6_85 yv_X6_makeRow c5 (c_X6_makeRow l g (d + 1) h4) (jRo_of (by decide)) (Nat.le_of_ble_eq_true rfl) ⟨Nat.le_of_ble_eq_true rfl, Nat.le_of_ble_eq_true rfl⟩ rfl rfl rfl ?_
        refine J_seg ok_X6_row 18 1 (pc' := 32) (ls' := [(0, .inr (.inr (.inl x0))), (1, .inl x1), (2, .inl x2)]) (st' := [.inl x2]) rfl ?_
        have h := Option.some.inj h
        subst h
        exact hR _ _ (jat ok_X6_row 19 (pc := 32) (i := .ireturn) (n := 1) rfl rfl)
      · have h := (if_neg c).symm.trans h
        refine J_seg ok_X6_row 10 2 (pc' := 21) (ls' := [(0, .inr (.inr (.inl x0))), (1, .inl x1), (2, .inl x2)]) (st' := [.inl 5, .inr (.inr (.inl x0))]) rfl ?_
        by_cases c8 : qO q1.2 x0 6 = true
        case neg => exact absurd ((if_neg c8).symm.trans h) (by simp)
        have h := (if_pos c8).symm.trans h
        obtain ⟨q6, h7, h⟩ := Option.bind_eq_some_iff.mp h
        refine J_callV (md' := md_X6_find) (As := [.inl 5]) (st := []) (cs' := (0, 0)) (st' := [.inl q6.1]) (jat ok_X6_row 12 (pc := 21) (i := .invokevirtual 81) (n := 3) rfl rfl) ml_RX6_81 yv_X6_find c8 (c_X6_find l g (d + 1) h7) (jRo_of (by decide)) (Nat.le_of_ble_eq_true rfl) ⟨Nat.le_of_ble_eq_true rfl, Nat.le_of_ble_eq_true rfl⟩ rfl rfl rfl ?_
        have h := Option.some.inj h
        subst h
        exact hR _ _ (jat ok_X6_row 13 (pc := 24) (i := .ireturn) (n := 1) rfl rfl)
    · have h := (if_neg c).symm.trans h
      refine J_seg ok_X6_row 6 1 (pc' := 14) (ls' := [(0, .inr (.inr (.inl x0))), (1, .inl x1), (2, .inl x2)]) (st' := [.inl (-1)]) rfl ?_
      have h := Option.some.inj h
      subst h
      exact hR _ _ (jat ok_X6_row 7 (pc := 14) (i := .ireturn) (n := 1) rfl rfl)
theorem c_X6_row (l : Launch) (g : GX) (d : Nat) {x0 : Option Nat} {x1 : Int32} {x2 : Int32} {ah : AH} {q : Int32 × AH} (h : f_X6_row x0 x1 x2 ah = some q) : jM l g (d + 2) md_X6_row [.inr (.inr (.inl x0)), .inl x1, .inl x2] ah (some (.inl q.1)) q.2 :=
  jM_of (by decide) (Nat.le_of_ble_eq_true rfl) (k_X6_row d ah q h (fun pc ls hd => J_reti hd rfl (jPV_int _) rfl (Nat.le_refl _) rfl rfl))
def f_X6_refused (x0 : Option Nat) (x1 : Int32) (x2 : Int32) (ah : AH) : Option (Int32 × AH) :=
  (f_X6_isRow x1 ah).bind fun q1 => if q1.1 = 0 then (some ((-1), q1.2)) else ((gR q1.2 x0 6 7).bind fun v3 => (gA q1.2 v3 x1).bind fun v5 => if 0 ≤ v5 then ((gR q1.2 x0 6 7).bind fun v7 => (gA q1.2 v7 x1).bind fun v9 => (f_X6_in (Int32.toInt64 x2) 0 (Int32.toInt64 (v9 - 1)) q1.2).bind fun q11 => if q11.1 = 0 then (if qO q11.2 x0 6 = true then ((f_X6_find x0 2 q11.2).bind fun q13 => some (q13.1, q13.2)) else none) else (some (0, q11.2))) else (if qO q1.2 x0 6 = true then ((f_X6_find x0 1 q1.2).bind fun q16 => some (q16.1, q16.2)) else none))
set_option maxRecDepth 100000 in
set_option maxHeartbeats 4000000 in
theorem k_X6_refused {l : Launch} {g : GX} (d : Nat) {Q : jQ} {x0 : Option Nat} {x1 : Int32} {x2 : Int32} (ah : AH) (out : Int32 × AH) (h : f_X6_refused x0 x1 x2 ah = some out) (hR : jRetI l g md_X6_refused (jRm (d + 2) md_X6_refused) Q (0, 0) out.1 out.2) : J l g md_X6_refused (jRm (d + 2) md_X6_refused) Q 0 [(0, .inr (.inr (.inl x0))), (1, .inl x1), (2, .inl x2)] [] ah (0, 0) := by
  unfold f_X6_refused at h
  refine J_seg ok_X6_refused 0 1 (pc' := 1) (ls' := [(0, .inr (.inr (.inl x0))), (1, .inl x1), (2, .inl x2)]) (st' := [.inl x1]) rfl ?_
  obtain ⟨q1, h2, h⟩ := Option.bind_eq_some_iff.mp h
  refine J_callS (md' := md_X6_isRow) (As := [.inl x1]) (st := []) (cs' := (0, 0)) (st' := [.inl q1.1]) (jat ok_X6_refused 1 (pc := 1) (i := .invokestatic 77) (n := 3) rfl rfl) (Or.inl ml_RX6_77) ys_X6_isRow (c_X6_isRow l g (d + 0) h2) (jRo_of (by decide)) (Nat.le_of_ble_eq_true rfl) ⟨Nat.le_of_ble_eq_true rfl, Nat.le_of_ble_eq_true rfl⟩ rfl rfl rfl ?_
  refine J_ne0 (jat ok_X6_refused 2 (pc := 4) (i := .ifCond .ne 7) (n := 3) rfl rfl) (tgt := 11) (by decide) (fun c => ?_) (fun c => ?_)
  · have h := (if_neg c).symm.trans h
    refine J_seg ok_X6_refused 5 1 (pc' := 12) (ls' := [(0, .inr (.inr (.inl x0))), (1, .inl x1), (2, .inl x2)]) (st' := [.inr (.inr (.inl x0))]) rfl ?_
    obtain ⟨v3, h4, h⟩ := Option.bind_eq_some_iff.mp h
    refine J_getR (jat ok_X6_refused 6 (pc := 12) (i := .getfield 25) (n := 3) rfl rfl) fl_RX6_25 h4 ?_
    refine J_seg ok_X6_refused 7 1 (pc' := 16) (ls' := [(0, .inr (.inr (.inl x0))), (1, .inl x1), (2, .inl x2)]) (st' := [.inl x1, .inr (.inr (.inl v3))]) rfl ?_
    obtain ⟨v5, h6, h⟩ := Option.bind_eq_some_iff.mp h
    refine J_iald (jat ok_X6_refused 8 (pc := 16) (i := .iaload) (n := 1) rfl rfl) h6 ?_
    refine J_ge0 (jat ok_X6_refused 9 (pc := 17) (i := .ifCond .ge 11) (n := 3) rfl rfl) (tgt := 28) (by decide) (fun c => ?_) (fun c => ?_)
    · have h := (if_pos c).symm.trans h
      refine J_seg ok_X6_refused 14 4 (pc' := 32) (ls' := [(0, .inr (.inr (.inl x0))), (1, .inl x1), (2, .inl x2)]) (st' := [.inr (.inr (.inl x0)), .inr (.inl 0), .inr (.inl (Int32.toInt64 x2))]) rfl ?_
      obtain ⟨v7, h8, h⟩ := Option.bind_eq_some_iff.mp h
      refine J_getR (jat ok_X6_refused 18 (pc := 32) (i := .getfield 25) (n := 3) rfl rfl) fl_RX6_25 h8 ?_
      refine J_seg ok_X6_refused 19 1 (pc' := 36) (ls' := [(0, .inr (.inr (.inl x0))), (1, .inl x1), (2, .inl x2)]) (st' := [.inl x1, .inr (.inr (.inl v7)), .inr (.inl 0), .inr (.inl (Int32.toInt64 x2))]) rfl ?_
      obtain ⟨v9, h10, h⟩ := Option.bind_eq_some_iff.mp h
      refine J_iald (jat ok_X6_refused 20 (pc := 36) (i := .iaload) (n := 1) rfl rfl) h10 ?_
      refine J_seg ok_X6_refused 21 3 (pc' := 40) (ls' := [(0, .inr (.inr (.inl x0))), (1, .inl x1), (2, .inl x2)]) (st' := [.inr (.inl (Int32.toInt64 (v9 - 1))), .inr (.inl 0), .inr (.inl (Int32.toInt64 x2))]) rfl ?_
      obtain ⟨q11, h12, h⟩ := Option.bind_eq_some_iff.mp h
      refine J_callS (md' := md_X6_in) (As := [.inr (.inl (Int32.toInt64 x2)), .inr (.inl 0), .inr (.inl (Int32.toInt64 (v9 - 1)))]) (st := []) (cs' := (0, 0)) (st' := [.inl q11.1]) (jat ok_X6_refused 24 (pc := 40) (i := .invokestatic 71) (n := 3) rfl rfl) (Or.inl ml_RX6_71) ys_X6_in (c_X6_in l g (d + 1) h12) (jRo_of (by decide)) (Nat.le_of_ble_eq_true rfl) ⟨Nat.le_of_ble_eq_true rfl, Nat.le_of_ble_eq_true rfl⟩ rfl rfl rfl ?_
      refine J_eq0 (jat ok_X6_refused 25 (pc := 43) (i := .ifCond .eq 7) (n := 3) rfl rfl) (tgt := 50) (by decide) (fun c => ?_) (fun c => ?_)
      · have h := (if_pos c).symm.trans h
        refine J_seg ok_X6_refused 28 2 (pc' := 52) (ls' := [(0, .inr (.inr (.inl x0))), (1, .inl x1), (2, .inl x2)]) (st' := [.inl 2, .inr (.inr (.inl x0))]) rfl ?_
        by_cases c15 : qO q11.2 x0 6 = true
        case neg => exact absurd ((if_neg c15).symm.trans h) (by simp)
        have h := (if_pos c15).symm.trans h
        obtain ⟨q13, h14, h⟩ := Option.bind_eq_some_iff.mp h
        refine J_callV (md' := md_X6_find) (As := [.inl 2]) (st := []) (cs' := (0, 0)) (st' := [.inl q13.1]) (jat ok_X6_refused 30 (pc := 52) (i := .invokevirtual 81) (n := 3) rfl rfl) ml_RX6_81 yv_X6_find c15 (c_X6_find l g (d + 1) h14) (jRo_of (by decide)) (Nat.le_of_ble_eq_true rfl) ⟨Nat.le_of_ble_eq_true rfl, Nat.le_of_ble_eq_true rfl⟩ rfl rfl rfl ?_
        have h := Option.some.inj h
        subst h
        exact hR _ _ (jat ok_X6_refused 31 (pc := 55) (i := .ireturn) (n := 1) rfl rfl)
      · have h := (if_neg c).symm.trans h
        refine J_seg ok_X6_refused 26 2 (pc' := 55) (ls' := [(0, .inr (.inr (.inl x0))), (1, .inl x1), (2, .inl x2)]) (st' := [.inl 0]) rfl ?_
        have h := Option.some.inj h
        subst h
        exact hR _ _ (jat ok_X6_refused 31 (pc := 55) (i := .ireturn) (n := 1) rfl rfl)
    · have h := (if_neg c).symm.trans h
      refine J_seg ok_X6_refused 10 2 (pc' := 22) (ls' := [(0, .inr (.inr (.inl x0))), (1, .inl x1), (2, .inl x2)]) (st' := [.inl 1, .inr (.inr (.inl x0))]) rfl ?_
      by_cases c18 : qO q1.2 x0 6 = true
      case neg => exact absurd ((if_neg c18).symm.trans h) (by simp)
      have h := (if_pos c18).symm.trans h
      obtain ⟨q16, h17, h⟩ := Option.bind_eq_some_iff.mp h
      refine J_callV (md' := md_X6_find) (As := [.inl 1]) (st := []) (cs' := (0, 0)) (st' := [.inl q16.1]) (jat ok_X6_refused 12 (pc := 22) (i := .invokevirtual 81) (n := 3) rfl rfl) ml_RX6_81 yv_X6_find c18 (c_X6_find l g (d + 1) h17) (jRo_of (by decide)) (Nat.le_of_ble_eq_true rfl) ⟨Nat.le_of_ble_eq_true rfl, Nat.le_of_ble_eq_true rfl⟩ rfl rfl rfl ?_
      refine J_seg ok_X6_refused 13 1 (pc' := 55) (ls' := [(0, .inr (.inr (.inl x0))), (1, .inl x1), (2, .inl x2)]) (st' := [.inl q16.1]) rfl ?_
      have h := Option.some.inj h
      subst h
      exact hR _ _ (jat ok_X6_refused 31 (pc := 55) (i := .ireturn) (n := 1) rfl rfl)
  · have h := (if_pos c).symm.trans h
    refine J_seg ok_X6_refused 3 2 (pc' := 55) (ls' := [(0, .inr (.inr (.inl x0))), (1, .inl x1), (2, .inl x2)]) (st' := [.inl (-1)]) rfl ?_
    have h := Option.some.inj h
    subst h
    exact hR _ _ (jat ok_X6_refused 31 (pc := 55) (i := .ireturn) (n := 1) rfl rfl)
theorem c_X6_refused (l : Launch) (g : GX) (d : Nat) {x0 : Option Nat} {x1 : Int32} {x2 : Int32} {ah : AH} {q : Int32 × AH} (h : f_X6_refused x0 x1 x2 ah = some q) : jM l g (d + 2) md_X6_refused [.inr (.inr (.inl x0)), .inl x1, .inl x2] ah (some (.inl q.1)) q.2 :=
  jM_of (by decide) (Nat.le_of_ble_eq_true rfl) (k_X6_refused d ah q h (fun pc ls hd => J_reti hd rfl (jPV_int _) rfl (Nat.le_refl _) rfl rfl))
def f_X6_lay (x0 : Option Nat) (x1 : Int32) (x2 : Int32) (x3 : Int32) (ah : AH) : Option (Int32 × AH) :=
  if qO ah x0 6 = true then ((f_X6_refused x0 x1 x2 ah).bind fun q1 => if q1.1 = 0 then ((gR q1.2 x0 6 8).bind fun v4 => (gA q1.2 v4 ((40 * x1) + x2)).bind fun v6 => (gR q1.2 x0 6 8).bind fun v8 => (sA q1.2 v8 ((40 * x1) + x2) x3).bind fun a10 => if qO a10 x0 6 = true then ((f_X6_tell x0 v6 a10).bind fun q12 => some (q12.1, q12.2)) else none) else (some (q1.1, q1.2))) else none
set_option maxRecDepth 100000 in
set_option maxHeartbeats 4000000 in
theorem k_X6_lay {l : Launch} {g : GX} (d : Nat) {Q : jQ} {x0 : Option Nat} {x1 : Int32} {x2 : Int32} {x3 : Int32} (ah : AH) (out : Int32 × AH) (h : f_X6_lay x0 x1 x2 x3 ah = some out) (hR : jRetI l g md_X6_lay (jRm (d + 3) md_X6_lay) Q (0, 0) out.1 out.2) : J l g md_X6_lay (jRm (d + 3) md_X6_lay) Q 0 [(0, .inr (.inr (.inl x0))), (1, .inl x1), (2, .inl x2), (3, .inl x3)] [] ah (0, 0) := by
  unfold f_X6_lay at h
  refine J_seg ok_X6_lay 0 3 (pc' := 3) (ls' := [(0, .inr (.inr (.inl x0))), (1, .inl x1), (2, .inl x2), (3, .inl x3)]) (st' := [.inl x2, .inl x1, .inr (.inr (.inl x0))]) rfl ?_
  by_cases c3 : qO ah x0 6 = true
  case neg => exact absurd ((if_neg c3).symm.trans h) (by simp)
  have h := (if_pos c3).symm.trans h
  obtain ⟨q1, h2, h⟩ := Option.bind_eq_some_iff.mp h
  refine J_callV (md' := md_X6_refused) (As := [.inl x1, .inl x2]) (st := []) (cs' := (0, 0)) (st' := [.inl q1.1]) (jat ok_X6_lay 3 (pc := 3) (i := .invokevirtual 89) (n := 3) rfl rfl) ml_RX6_89 yv_X6_refused c3 (c_X6_refused l g (d + 0) h2) (jRo_of (by decide)) (Nat.le_of_ble_eq_true rfl) ⟨Nat.le_of_ble_eq_true rfl, Nat.le_of_ble_eq_true rfl⟩ rfl rfl rfl ?_
  refine J_seg ok_X6_lay 4 2 (pc' := 10) (ls' := [(4, .inl q1.1), (0, .inr (.inr (.inl x0))), (1, .inl x1), (2, .inl x2), (3, .inl x3)]) (st' := [.inl q1.1]) rfl ?_
  refine J_eq0 (jat ok_X6_lay 6 (pc := 10) (i := .ifCond .eq 6) (n := 3) rfl rfl) (tgt := 16) (by decide) (fun c => ?_) (fun c => ?_)
  · have h := (if_pos c).symm.trans h
    refine J_seg ok_X6_lay 9 1 (pc' := 17) (ls' := [(4, .inl q1.1), (0, .inr (.inr (.inl x0))), (1, .inl x1), (2, .inl x2), (3, .inl x3)]) (st' := [.inr (.inr (.inl x0))]) rfl ?_
    obtain ⟨v4, h5, h⟩ := Option.bind_eq_some_iff.mp h
    refine J_getR (jat ok_X6_lay 10 (pc := 17) (i := .getfield 28) (n := 3) rfl rfl) fl_RX6_28 h5 ?_
    refine J_seg ok_X6_lay 11 5 (pc' := 26) (ls' := [(4, .inl q1.1), (0, .inr (.inr (.inl x0))), (1, .inl x1), (2, .inl x2), (3, .inl x3)]) (st' := [.inl ((40 * x1) + x2), .inr (.inr (.inl v4))]) rfl ?_
    obtain ⟨v6, h7, h⟩ := Option.bind_eq_some_iff.mp h
    refine J_iald (jat ok_X6_lay 16 (pc := 26) (i := .iaload) (n := 1) rfl rfl) h7 ?_
    refine J_seg ok_X6_lay 17 2 (pc' := 30) (ls' := [(5, .inl v6), (4, .inl q1.1), (0, .inr (.inr (.inl x0))), (1, .inl x1), (2, .inl x2), (3, .inl x3)]) (st' := [.inr (.inr (.inl x0))]) rfl ?_
    obtain ⟨v8, h9, h⟩ := Option.bind_eq_some_iff.mp h
    refine J_getR (jat ok_X6_lay 19 (pc := 30) (i := .getfield 28) (n := 3) rfl rfl) fl_RX6_28 h9 ?_
    refine J_seg ok_X6_lay 20 6 (pc' := 40) (ls' := [(5, .inl v6), (4, .inl q1.1), (0, .inr (.inr (.inl x0))), (1, .inl x1), (2, .inl x2), (3, .inl x3)]) (st' := [.inl x3, .inl ((40 * x1) + x2), .inr (.inr (.inl v8))]) rfl ?_
    obtain ⟨a10, h11, h⟩ := Option.bind_eq_some_iff.mp h
    refine J_iast (jat ok_X6_lay 26 (pc := 40) (i := .iastore) (n := 1) rfl rfl) h11 ?_
    refine J_seg ok_X6_lay 27 2 (pc' := 44) (ls' := [(5, .inl v6), (4, .inl q1.1), (0, .inr (.inr (.inl x0))), (1, .inl x1), (2, .inl x2), (3, .inl x3)]) (st' := [.inl v6, .inr (.inr (.inl x0))]) rfl ?_
    by_cases c14 : qO a10 x0 6 = true
    case neg => exact absurd ((if_neg c14).symm.trans h) (by simp)
    have h := (if_pos c14).symm.trans h
    obtain ⟨q12, h13, h⟩ := Option.bind_eq_some_iff.mp h
    refine J_callV (md' := md_X6_tell) (As := [.inl v6]) (st := []) (cs' := (0, 0)) (st' := [.inl q12.1]) (jat ok_X6_lay 29 (pc := 44) (i := .invokevirtual 93) (n := 3) rfl rfl) ml_RX6_93 yv_X6_tell c14 (c_X6_tell l g (d + 2) h13) (jRo_of (by decide)) (Nat.le_of_ble_eq_true rfl) ⟨Nat.le_of_ble_eq_true rfl, Nat.le_of_ble_eq_true rfl⟩ rfl rfl rfl ?_
    have h := Option.some.inj h
    subst h
    exact hR _ _ (jat ok_X6_lay 30 (pc := 47) (i := .ireturn) (n := 1) rfl rfl)
  · have h := (if_neg c).symm.trans h
    refine J_seg ok_X6_lay 7 1 (pc' := 15) (ls' := [(4, .inl q1.1), (0, .inr (.inr (.inl x0))), (1, .inl x1), (2, .inl x2), (3, .inl x3)]) (st' := [.inl q1.1]) rfl ?_
    have h := Option.some.inj h
    subst h
    exact hR _ _ (jat ok_X6_lay 8 (pc := 15) (i := .ireturn) (n := 1) rfl rfl)
theorem c_X6_lay (l : Launch) (g : GX) (d : Nat) {x0 : Option Nat} {x1 : Int32} {x2 : Int32} {x3 : Int32} {ah : AH} {q : Int32 × AH} (h : f_X6_lay x0 x1 x2 x3 ah = some q) : jM l g (d + 3) md_X6_lay [.inr (.inr (.inl x0)), .inl x1, .inl x2, .inl x3] ah (some (.inl q.1)) q.2 :=
  jM_of (by decide) (Nat.le_of_ble_eq_true rfl) (k_X6_lay d ah q h (fun pc ls hd => J_reti hd rfl (jPV_int _) rfl (Nat.le_refl _) rfl rfl))
def f_X6_at (x0 : Option Nat) (x1 : Int32) (x2 : Int32) (ah : AH) : Option (Int32 × AH) :=
  if qO ah x0 6 = true then ((f_X6_refused x0 x1 x2 ah).bind fun q1 => if q1.1 = 0 then ((gR q1.2 x0 6 8).bind fun v4 => (gA q1.2 v4 ((40 * x1) + x2)).bind fun v6 => if qO q1.2 x0 6 = true then ((f_X6_tell x0 v6 q1.2).bind fun q8 => some (q8.1, q8.2)) else none) else (some (q1.1, q1.2))) else none
set_option maxRecDepth 100000 in
set_option maxHeartbeats 4000000 in
theorem k_X6_at {l : Launch} {g : GX} (d : Nat) {Q : jQ} {x0 : Option Nat} {x1 : Int32} {x2 : Int32} (ah : AH) (out : Int32 × AH) (h : f_X6_at x0 x1 x2 ah = some out) (hR : jRetI l g md_X6_at (jRm (d + 3) md_X6_at) Q (0, 0) out.1 out.2) : J l g md_X6_at (jRm (d + 3) md_X6_at) Q 0 [(0, .inr (.inr (.inl x0))), (1, .inl x1), (2, .inl x2)] [] ah (0, 0) := by
  unfold f_X6_at at h
  refine J_seg ok_X6_at 0 3 (pc' := 3) (ls' := [(0, .inr (.inr (.inl x0))), (1, .inl x1), (2, .inl x2)]) (st' := [.inl x2, .inl x1, .inr (.inr (.inl x0))]) rfl ?_
  by_cases c3 : qO ah x0 6 = true
  case neg => exact absurd ((if_neg c3).symm.trans h) (by simp)
  have h := (if_pos c3).symm.trans h
  obtain ⟨q1, h2, h⟩ := Option.bind_eq_some_iff.mp h
  refine J_callV (md' := md_X6_refused) (As := [.inl x1, .inl x2]) (st := []) (cs' := (0, 0)) (st' := [.inl q1.1]) (jat ok_X6_at 3 (pc := 3) (i := .invokevirtual 89) (n := 3) rfl rfl) ml_RX6_89 yv_X6_refused c3 (c_X6_refused l g (d + 0) h2) (jRo_of (by decide)) (Nat.le_of_ble_eq_true rfl) ⟨Nat.le_of_ble_eq_true rfl, Nat.le_of_ble_eq_true rfl⟩ rfl rfl rfl ?_
  refine J_seg ok_X6_at 4 2 (pc' := 8) (ls' := [(3, .inl q1.1), (0, .inr (.inr (.inl x0))), (1, .inl x1), (2, .inl x2)]) (st' := [.inl q1.1]) rfl ?_
  refine J_eq0 (jat ok_X6_at 6 (pc := 8) (i := .ifCond .eq 7) (n := 3) rfl rfl) (tgt := 15) (by decide) (fun c => ?_) (fun c => ?_)
  · have h := (if_pos c).symm.trans h
    refine J_seg ok_X6_at 9 2 (pc' := 17) (ls' := [(3, .inl q1.1), (0, .inr (.inr (.inl x0))), (1, .inl x1), (2, .inl x2)]) (st' := [.inr (.inr (.inl x0)), .inr (.inr (.inl x0))]) rfl ?_
    obtain ⟨v4, h5, h⟩ := Option.bind_eq_some_iff.mp h
    refine J_getR (jat ok_X6_at 11 (pc := 17) (i := .getfield 28) (n := 3) rfl rfl) fl_RX6_28 h5 ?_
    refine J_seg ok_X6_at 12 5 (pc' := 26) (ls' := [(3, .inl q1.1), (0, .inr (.inr (.inl x0))), (1, .inl x1), (2, .inl x2)]) (st' := [.inl ((40 * x1) + x2), .inr (.inr (.inl v4)), .inr (.inr (.inl x0))]) rfl ?_
    obtain ⟨v6, h7, h⟩ := Option.bind_eq_some_iff.mp h
    refine J_iald (jat ok_X6_at 17 (pc := 26) (i := .iaload) (n := 1) rfl rfl) h7 ?_
    by_cases c10 : qO q1.2 x0 6 = true
    case neg => exact absurd ((if_neg c10).symm.trans h) (by simp)
    have h := (if_pos c10).symm.trans h
    obtain ⟨q8, h9, h⟩ := Option.bind_eq_some_iff.mp h
    refine J_callV (md' := md_X6_tell) (As := [.inl v6]) (st := []) (cs' := (0, 0)) (st' := [.inl q8.1]) (jat ok_X6_at 18 (pc := 27) (i := .invokevirtual 93) (n := 3) rfl rfl) ml_RX6_93 yv_X6_tell c10 (c_X6_tell l g (d + 2) h9) (jRo_of (by decide)) (Nat.le_of_ble_eq_true rfl) ⟨Nat.le_of_ble_eq_true rfl, Nat.le_of_ble_eq_true rfl⟩ rfl rfl rfl ?_
    have h := Option.some.inj h
    subst h
    exact hR _ _ (jat ok_X6_at 19 (pc := 30) (i := .ireturn) (n := 1) rfl rfl)
  · have h := (if_neg c).symm.trans h
    refine J_seg ok_X6_at 7 2 (pc' := 30) (ls' := [(3, .inl q1.1), (0, .inr (.inr (.inl x0))), (1, .inl x1), (2, .inl x2)]) (st' := [.inl q1.1]) rfl ?_
    have h := Option.some.inj h
    subst h
    exact hR _ _ (jat ok_X6_at 19 (pc := 30) (i := .ireturn) (n := 1) rfl rfl)
theorem c_X6_at (l : Launch) (g : GX) (d : Nat) {x0 : Option Nat} {x1 : Int32} {x2 : Int32} {ah : AH} {q : Int32 × AH} (h : f_X6_at x0 x1 x2 ah = some q) : jM l g (d + 3) md_X6_at [.inr (.inr (.inl x0)), .inl x1, .inl x2] ah (some (.inl q.1)) q.2 :=
  jM_of (by decide) (Nat.le_of_ble_eq_true rfl) (k_X6_at d ah q h (fun pc ls hd => J_reti hd rfl (jPV_int _) rfl (Nat.le_refl _) rfl rfl))
def f_X6_tear (x0 : Option Nat) (x1 : Int32) (ah : AH) : Option (Int32 × AH) :=
  (f_X6_isRow x1 ah).bind fun q1 => if q1.1 = 0 then (some ((-1), q1.2)) else ((gR q1.2 x0 6 7).bind fun v3 => (gA q1.2 v3 x1).bind fun v5 => if 0 ≤ v5 then ((gR q1.2 x0 6 7).bind fun v7 => (sA q1.2 v7 x1 (-1)).bind fun a9 => some (1, a9)) else (if qO q1.2 x0 6 = true then ((f_X6_find x0 1 q1.2).bind fun q11 => some (q11.1, q11.2)) else none))
set_option maxRecDepth 100000 in
set_option maxHeartbeats 4000000 in
theorem k_X6_tear {l : Launch} {g : GX} (d : Nat) {Q : jQ} {x0 : Option Nat} {x1 : Int32} (ah : AH) (out : Int32 × AH) (h : f_X6_tear x0 x1 ah = some out) (hR : jRetI l g md_X6_tear (jRm (d + 2) md_X6_tear) Q (0, 0) out.1 out.2) : J l g md_X6_tear (jRm (d + 2) md_X6_tear) Q 0 [(0, .inr (.inr (.inl x0))), (1, .inl x1)] [] ah (0, 0) := by
  unfold f_X6_tear at h
  refine J_seg ok_X6_tear 0 1 (pc' := 1) (ls' := [(0, .inr (.inr (.inl x0))), (1, .inl x1)]) (st' := [.inl x1]) rfl ?_
  obtain ⟨q1, h2, h⟩ := Option.bind_eq_some_iff.mp h
  refine J_callS (md' := md_X6_isRow) (As := [.inl x1]) (st := []) (cs' := (0, 0)) (st' := [.inl q1.1]) (jat ok_X6_tear 1 (pc := 1) (i := .invokestatic 77) (n := 3) rfl rfl) (Or.inl ml_RX6_77) ys_X6_isRow (c_X6_isRow l g (d + 0) h2) (jRo_of (by decide)) (Nat.le_of_ble_eq_true rfl) ⟨Nat.le_of_ble_eq_true rfl, Nat.le_of_ble_eq_true rfl⟩ rfl rfl rfl ?_
  refine J_ne0 (jat ok_X6_tear 2 (pc := 4) (i := .ifCond .ne 5) (n := 3) rfl rfl) (tgt := 9) (by decide) (fun c => ?_) (fun c => ?_)
  · have h := (if_neg c).symm.trans h
    refine J_seg ok_X6_tear 5 1 (pc' := 10) (ls' := [(0, .inr (.inr (.inl x0))), (1, .inl x1)]) (st' := [.inr (.inr (.inl x0))]) rfl ?_
    obtain ⟨v3, h4, h⟩ := Option.bind_eq_some_iff.mp h
    refine J_getR (jat ok_X6_tear 6 (pc := 10) (i := .getfield 25) (n := 3) rfl rfl) fl_RX6_25 h4 ?_
    refine J_seg ok_X6_tear 7 1 (pc' := 14) (ls' := [(0, .inr (.inr (.inl x0))), (1, .inl x1)]) (st' := [.inl x1, .inr (.inr (.inl v3))]) rfl ?_
    obtain ⟨v5, h6, h⟩ := Option.bind_eq_some_iff.mp h
    refine J_iald (jat ok_X6_tear 8 (pc := 14) (i := .iaload) (n := 1) rfl rfl) h6 ?_
    refine J_ge0 (jat ok_X6_tear 9 (pc := 15) (i := .ifCond .ge 9) (n := 3) rfl rfl) (tgt := 24) (by decide) (fun c => ?_) (fun c => ?_)
    · have h := (if_pos c).symm.trans h
      refine J_seg ok_X6_tear 14 1 (pc' := 25) (ls' := [(0, .inr (.inr (.inl x0))), (1, .inl x1)]) (st' := [.inr (.inr (.inl x0))]) rfl ?_
      obtain ⟨v7, h8, h⟩ := Option.bind_eq_some_iff.mp h
      refine J_getR (jat ok_X6_tear 15 (pc := 25) (i := .getfield 25) (n := 3) rfl rfl) fl_RX6_25 h8 ?_
      refine J_seg ok_X6_tear 16 2 (pc' := 30) (ls' := [(0, .inr (.inr (.inl x0))), (1, .inl x1)]) (st' := [.inl (-1), .inl x1, .inr (.inr (.inl v7))]) rfl ?_
      obtain ⟨a9, h10, h⟩ := Option.bind_eq_some_iff.mp h
      refine J_iast (jat ok_X6_tear 18 (pc := 30) (i := .iastore) (n := 1) rfl rfl) h10 ?_
      refine J_seg ok_X6_tear 19 1 (pc' := 32) (ls' := [(0, .inr (.inr (.inl x0))), (1, .inl x1)]) (st' := [.inl 1]) rfl ?_
      have h := Option.some.inj h
      subst h
      exact hR _ _ (jat ok_X6_tear 20 (pc := 32) (i := .ireturn) (n := 1) rfl rfl)
    · have h := (if_neg c).symm.trans h
      refine J_seg ok_X6_tear 10 2 (pc' := 20) (ls' := [(0, .inr (.inr (.inl x0))), (1, .inl x1)]) (st' := [.inl 1, .inr (.inr (.inl x0))]) rfl ?_
      by_cases c13 : qO q1.2 x0 6 = true
      case neg => exact absurd ((if_neg c13).symm.trans h) (by simp)
      have h := (if_pos c13).symm.trans h
      obtain ⟨q11, h12, h⟩ := Option.bind_eq_some_iff.mp h
      refine J_callV (md' := md_X6_find) (As := [.inl 1]) (st := []) (cs' := (0, 0)) (st' := [.inl q11.1]) (jat ok_X6_tear 12 (pc := 20) (i := .invokevirtual 81) (n := 3) rfl rfl) ml_RX6_81 yv_X6_find c13 (c_X6_find l g (d + 1) h12) (jRo_of (by decide)) (Nat.le_of_ble_eq_true rfl) ⟨Nat.le_of_ble_eq_true rfl, Nat.le_of_ble_eq_true rfl⟩ rfl rfl rfl ?_
      have h := Option.some.inj h
      subst h
      exact hR _ _ (jat ok_X6_tear 13 (pc := 23) (i := .ireturn) (n := 1) rfl rfl)
  · have h := (if_pos c).symm.trans h
    refine J_seg ok_X6_tear 3 1 (pc' := 8) (ls' := [(0, .inr (.inr (.inl x0))), (1, .inl x1)]) (st' := [.inl (-1)]) rfl ?_
    have h := Option.some.inj h
    subst h
    exact hR _ _ (jat ok_X6_tear 4 (pc := 8) (i := .ireturn) (n := 1) rfl rfl)
theorem c_X6_tear (l : Launch) (g : GX) (d : Nat) {x0 : Option Nat} {x1 : Int32} {ah : AH} {q : Int32 × AH} (h : f_X6_tear x0 x1 ah = some q) : jM l g (d + 2) md_X6_tear [.inr (.inr (.inl x0)), .inl x1] ah (some (.inl q.1)) q.2 :=
  jM_of (by decide) (Nat.le_of_ble_eq_true rfl) (k_X6_tear d ah q h (fun pc ls hd => J_reti hd rfl (jPV_int _) rfl (Nat.le_refl _) rfl rfl))
def f_X6_isSpan (x0 : Option Nat) (x1 : Int32) (x2 : Int32) (x3 : Int32) (ah : AH) : Option (Int32 × AH) :=
  if x2 < 0 then (some (0, ah)) else ((gR ah x0 6 7).bind fun v1 => (gA ah v1 x1).bind fun v3 => if 0 < (lg_cmp ((Int32.toInt64 x2) + (Int32.toInt64 x3)) (Int32.toInt64 v3)) then (some (0, ah)) else (some (1, ah)))
set_option maxRecDepth 100000 in
set_option maxHeartbeats 4000000 in
theorem k_X6_isSpan {l : Launch} {g : GX} (d : Nat) {Q : jQ} {x0 : Option Nat} {x1 : Int32} {x2 : Int32} {x3 : Int32} (ah : AH) (out : Int32 × AH) (h : f_X6_isSpan x0 x1 x2 x3 ah = some out) (hR : jRetZ l g md_X6_isSpan (jRm (d + 0) md_X6_isSpan) Q (0, 0) out.1 out.2) : J l g md_X6_isSpan (jRm (d + 0) md_X6_isSpan) Q 0 [(0, .inr (.inr (.inl x0))), (1, .inl x1), (2, .inl x2), (3, .inl x3)] [] ah (0, 0) := by
  unfold f_X6_isSpan at h
  refine J_seg ok_X6_isSpan 0 1 (pc' := 1) (ls' := [(0, .inr (.inr (.inl x0))), (1, .inl x1), (2, .inl x2), (3, .inl x3)]) (st' := [.inl x2]) rfl ?_
  refine J_lt0 (jat ok_X6_isSpan 1 (pc := 1) (i := .ifCond .lt 23) (n := 3) rfl rfl) (tgt := 24) (by decide) (fun c => ?_) (fun c => ?_)
  · have h := (if_pos c).symm.trans h
    refine J_seg ok_X6_isSpan 16 1 (pc' := 25) (ls' := [(0, .inr (.inr (.inl x0))), (1, .inl x1), (2, .inl x2), (3, .inl x3)]) (st' := [.inl 0]) rfl ?_
    have h := Option.some.inj h
    subst h
    exact hR _ _ (jat ok_X6_isSpan 17 (pc := 25) (i := .ireturn) (n := 1) rfl rfl) (Or.inl rfl)
  · have h := (if_neg c).symm.trans h
    refine J_seg ok_X6_isSpan 2 6 (pc' := 10) (ls' := [(0, .inr (.inr (.inl x0))), (1, .inl x1), (2, .inl x2), (3, .inl x3)]) (st' := [.inr (.inr (.inl x0)), .inr (.inl ((Int32.toInt64 x2) + (Int32.toInt64 x3)))]) rfl ?_
    obtain ⟨v1, h2, h⟩ := Option.bind_eq_some_iff.mp h
    refine J_getR (jat ok_X6_isSpan 8 (pc := 10) (i := .getfield 25) (n := 3) rfl rfl) fl_RX6_25 h2 ?_
    refine J_seg ok_X6_isSpan 9 1 (pc' := 14) (ls' := [(0, .inr (.inr (.inl x0))), (1, .inl x1), (2, .inl x2), (3, .inl x3)]) (st' := [.inl x1, .inr (.inr (.inl v1)), .inr (.inl ((Int32.toInt64 x2) + (Int32.toInt64 x3)))]) rfl ?_
    obtain ⟨v3, h4, h⟩ := Option.bind_eq_some_iff.mp h
    refine J_iald (jat ok_X6_isSpan 10 (pc := 14) (i := .iaload) (n := 1) rfl rfl) h4 ?_
    refine J_seg ok_X6_isSpan 11 2 (pc' := 17) (ls' := [(0, .inr (.inr (.inl x0))), (1, .inl x1), (2, .inl x2), (3, .inl x3)]) (st' := [.inl (lg_cmp ((Int32.toInt64 x2) + (Int32.toInt64 x3)) (Int32.toInt64 v3))]) rfl ?_
    refine J_gt0 (jat ok_X6_isSpan 13 (pc := 17) (i := .ifCond .gt 7) (n := 3) rfl rfl) (tgt := 24) (by decide) (fun c => ?_) (fun c => ?_)
    · have h := (if_pos c).symm.trans h
      refine J_seg ok_X6_isSpan 16 1 (pc' := 25) (ls' := [(0, .inr (.inr (.inl x0))), (1, .inl x1), (2, .inl x2), (3, .inl x3)]) (st' := [.inl 0]) rfl ?_
      have h := Option.some.inj h
      subst h
      exact hR _ _ (jat ok_X6_isSpan 17 (pc := 25) (i := .ireturn) (n := 1) rfl rfl) (Or.inl rfl)
    · have h := (if_neg c).symm.trans h
      refine J_seg ok_X6_isSpan 14 2 (pc' := 25) (ls' := [(0, .inr (.inr (.inl x0))), (1, .inl x1), (2, .inl x2), (3, .inl x3)]) (st' := [.inl 1]) rfl ?_
      have h := Option.some.inj h
      subst h
      exact hR _ _ (jat ok_X6_isSpan 17 (pc := 25) (i := .ireturn) (n := 1) rfl rfl) (Or.inr rfl)
theorem c_X6_isSpan (l : Launch) (g : GX) (d : Nat) {x0 : Option Nat} {x1 : Int32} {x2 : Int32} {x3 : Int32} {ah : AH} {q : Int32 × AH} (h : f_X6_isSpan x0 x1 x2 x3 ah = some q) : jM l g (d + 0) md_X6_isSpan [.inr (.inr (.inl x0)), .inl x1, .inl x2, .inl x3] ah (some (.inl q.1)) q.2 :=
  jM_of (by decide) (Nat.le_of_ble_eq_true rfl) (k_X6_isSpan d ah q h (fun pc ls hd c => J_reti hd rfl (jPV_z c) rfl (Nat.le_refl _) rfl rfl))
def f_X6_copy_j45 (x0 : Option Nat) (ah : AH) : Option (Int32 × AH) :=
  if qO ah x0 6 = true then ((f_X6_find x0 1 ah).bind fun q9 => some (q9.1, q9.2)) else none
set_option maxRecDepth 100000 in
set_option maxHeartbeats 4000000 in
theorem k_X6_copy_j45 {l : Launch} {g : GX} (d : Nat) {Q : jQ} {x0 : Option Nat} (ah : AH) (out : Int32 × AH) (h : f_X6_copy_j45 x0 ah = some out) (hR : jRetI l g md_X6_copy (jRm (d + 2) md_X6_copy) Q (0, 0) out.1 out.2) : J l g md_X6_copy (jRm (d + 2) md_X6_copy) Q 45 [(0, .inr (.inr (.inl x0)))] [] ah (0, 0) := by
  unfold f_X6_copy_j45 at h
  refine J_seg ok_X6_copy 24 2 (pc' := 47) (ls' := [(0, .inr (.inr (.inl x0)))]) (st' := [.inl 1, .inr (.inr (.inl x0))]) rfl ?_
  by_cases c11 : qO ah x0 6 = true
  case neg => exact absurd ((if_neg c11).symm.trans h) (by simp)
  have h := (if_pos c11).symm.trans h
  obtain ⟨q9, h10, h⟩ := Option.bind_eq_some_iff.mp h
  refine J_callV (md' := md_X6_find) (As := [.inl 1]) (st := []) (cs' := (0, 0)) (st' := [.inl q9.1]) (jat ok_X6_copy 26 (pc := 47) (i := .invokevirtual 81) (n := 3) rfl rfl) ml_RX6_81 yv_X6_find c11 (c_X6_find l g (d + 1) h10) (jRo_of (by decide)) (Nat.le_of_ble_eq_true rfl) ⟨Nat.le_of_ble_eq_true rfl, Nat.le_of_ble_eq_true rfl⟩ rfl rfl rfl ?_
  have h := Option.some.inj h
  subst h
  exact hR _ _ (jat ok_X6_copy 27 (pc := 50) (i := .ireturn) (n := 1) rfl rfl)
def f_X6_copy_j74 (x0 : Option Nat) (ah : AH) : Option (Int32 × AH) :=
  if qO ah x0 6 = true then ((f_X6_find x0 2 ah).bind fun q19 => some (q19.1, q19.2)) else none
set_option maxRecDepth 100000 in
set_option maxHeartbeats 4000000 in
theorem k_X6_copy_j74 {l : Launch} {g : GX} (d : Nat) {Q : jQ} {x0 : Option Nat} (ah : AH) (out : Int32 × AH) (h : f_X6_copy_j74 x0 ah = some out) (hR : jRetI l g md_X6_copy (jRm (d + 2) md_X6_copy) Q (0, 0) out.1 out.2) : J l g md_X6_copy (jRm (d + 2) md_X6_copy) Q 74 [(0, .inr (.inr (.inl x0)))] [] ah (0, 0) := by
  unfold f_X6_copy_j74 at h
  refine J_seg ok_X6_copy 40 2 (pc' := 76) (ls' := [(0, .inr (.inr (.inl x0)))]) (st' := [.inl 2, .inr (.inr (.inl x0))]) rfl ?_
  by_cases c21 : qO ah x0 6 = true
  case neg => exact absurd ((if_neg c21).symm.trans h) (by simp)
  have h := (if_pos c21).symm.trans h
  obtain ⟨q19, h20, h⟩ := Option.bind_eq_some_iff.mp h
  refine J_callV (md' := md_X6_find) (As := [.inl 2]) (st := []) (cs' := (0, 0)) (st' := [.inl q19.1]) (jat ok_X6_copy 42 (pc := 76) (i := .invokevirtual 81) (n := 3) rfl rfl) ml_RX6_81 yv_X6_find c21 (c_X6_find l g (d + 1) h20) (jRo_of (by decide)) (Nat.le_of_ble_eq_true rfl) ⟨Nat.le_of_ble_eq_true rfl, Nat.le_of_ble_eq_true rfl⟩ rfl rfl rfl ?_
  have h := Option.some.inj h
  subst h
  exact hR _ _ (jat ok_X6_copy 43 (pc := 79) (i := .ireturn) (n := 1) rfl rfl)
def f_X6_copy_b96_j120 (k0 : Option Nat) (k1 : Int32) (k2 : Int32) (k3 : Int32) (k4 : Int32) (k5 : Int32) (k6 : Int32) (x7 : Int32) (y0 : Int32) (ah : AH) : Option ((Unit × AH) ⊕ (((Unit) × AH) ⊕ ((Int32) × AH))) :=
  (gR ah k0 6 8).bind fun v25 => (gR ah k0 6 8).bind fun v27 => (gA ah v27 (((40 * k1) + k2) + y0)).bind fun v29 => (sA ah v25 (((40 * k3) + k4) + y0) v29).bind fun a31 => some (.inr (.inr (x7 + 1, a31)))
set_option maxRecDepth 100000 in
set_option maxHeartbeats 4000000 in
theorem k_X6_copy_b96_j120 {l : Launch} {g : GX} (d : Nat) {Q : jQ} {k0 : Option Nat} {k1 : Int32} {k2 : Int32} {k3 : Int32} {k4 : Int32} {k5 : Int32} {k6 : Int32} {x7 : Int32} {y0 : Int32} (ah : AH) (out : (Unit × AH) ⊕ (((Unit) × AH) ⊕ ((Int32) × AH))) (h : f_X6_copy_b96_j120 k0 k1 k2 k3 k4 k5 k6 x7 y0 ah = some out) (hR : ∀ q, out = .inl q → jRetN q.1 q.2) (hX : ∀ q, out = .inr (.inl q) → J l g md_X6_copy (jRm (d + 2) md_X6_copy) Q 157 [] [] q.2 (0, 0)) (hN : ∀ q, out = .inr (.inr q) → J l g md_X6_copy (jRm (d + 2) md_X6_copy) Q 96 [(0, .inr (.inr (.inl k0))), (1, .inl k1), (2, .inl k2), (3, .inl k3), (4, .inl k4), (5, .inl k5), (6, .inl k6), (7, .inl q.1)] [] q.2 (0, 0)) : J l g md_X6_copy (jRm (d + 2) md_X6_copy) Q 120 [(0, .inr (.inr (.inl k0))), (1, .inl k1), (2, .inl k2), (3, .inl k3), (4, .inl k4), (5, .inl k5), (6, .inl k6), (7, .inl x7)] [.inl y0] ah (0, 0) := by
  unfold f_X6_copy_b96_j120 at h
  refine J_seg ok_X6_copy 65 2 (pc' := 123) (ls' := [(8, .inl y0), (0, .inr (.inr (.inl k0))), (1, .inl k1), (2, .inl k2), (3, .inl k3), (4, .inl k4), (5, .inl k5), (6, .inl k6), (7, .inl x7)]) (st' := [.inr (.inr (.inl k0))]) rfl ?_
  obtain ⟨v25, h26, h⟩ := Option.bind_eq_some_iff.mp h
  refine J_getR (jat ok_X6_copy 67 (pc := 123) (i := .getfield 28) (n := 3) rfl rfl) fl_RX6_28 h26 ?_
  refine J_seg ok_X6_copy 68 8 (pc' := 137) (ls' := [(8, .inl y0), (0, .inr (.inr (.inl k0))), (1, .inl k1), (2, .inl k2), (3, .inl k3), (4, .inl k4), (5, .inl k5), (6, .inl k6), (7, .inl x7)]) (st' := [.inr (.inr (.inl k0)), .inl (((40 * k3) + k4) + y0), .inr (.inr (.inl v25))]) rfl ?_
  obtain ⟨v27, h28, h⟩ := Option.bind_eq_some_iff.mp h
  refine J_getR (jat ok_X6_copy 76 (pc := 137) (i := .getfield 28) (n := 3) rfl rfl) fl_RX6_28 h28 ?_
  refine J_seg ok_X6_copy 77 7 (pc' := 149) (ls' := [(8, .inl y0), (0, .inr (.inr (.inl k0))), (1, .inl k1), (2, .inl k2), (3, .inl k3), (4, .inl k4), (5, .inl k5), (6, .inl k6), (7, .inl x7)]) (st' := [.inl (((40 * k1) + k2) + y0), .inr (.inr (.inl v27)), .inl (((40 * k3) + k4) + y0), .inr (.inr (.inl v25))]) rfl ?_
  obtain ⟨v29, h30, h⟩ := Option.bind_eq_some_iff.mp h
  refine J_iald (jat ok_X6_copy 84 (pc := 149) (i := .iaload) (n := 1) rfl rfl) h30 ?_
  obtain ⟨a31, h32, h⟩ := Option.bind_eq_some_iff.mp h
  refine J_iast (jat ok_X6_copy 85 (pc := 150) (i := .iastore) (n := 1) rfl rfl) h32 ?_
  refine J_seg ok_X6_copy 86 2 (pc' := 96) (ls' := [(7, .inl (x7 + 1)), (8, .inl y0), (0, .inr (.inr (.inl k0))), (1, .inl k1), (2, .inl k2), (3, .inl k3), (4, .inl k4), (5, .inl k5), (6, .inl k6)]) (st' := []) rfl ?_
  exact J_sub (ls' := [(0, .inr (.inr (.inl k0))), (1, .inl k1), (2, .inl k2), (3, .inl k3), (4, .inl k4), (5, .inl k5), (6, .inl k6), (7, .inl (x7 + 1))]) [2, 3, 4, 5, 6, 7, 8, 0] rfl (hN (x7 + 1, a31) (Option.some.inj h).symm)
def f_X6_copy_b96 (k0 : Option Nat) (k1 : Int32) (k2 : Int32) (k3 : Int32) (k4 : Int32) (k5 : Int32) (k6 : Int32) (s96 : Int32) (ah : AH) : Option ((Unit × AH) ⊕ (((Unit) × AH) ⊕ ((Int32) × AH))) :=
  if k5 ≤ s96 then (some (.inr (.inl ((), ah)))) else (if k6 = 0 then (f_X6_copy_b96_j120 k0 k1 k2 k3 k4 k5 k6 s96 s96 ah) else (f_X6_copy_b96_j120 k0 k1 k2 k3 k4 k5 k6 s96 ((k5 - 1) - s96) ah))
set_option maxRecDepth 100000 in
set_option maxHeartbeats 4000000 in
theorem k_X6_copy_b96 {l : Launch} {g : GX} (d : Nat) {Q : jQ} {k0 : Option Nat} {k1 : Int32} {k2 : Int32} {k3 : Int32} {k4 : Int32} {k5 : Int32} {k6 : Int32} (s96 : Int32) (ah : AH) (out : (Unit × AH) ⊕ (((Unit) × AH) ⊕ ((Int32) × AH))) (h : f_X6_copy_b96 k0 k1 k2 k3 k4 k5 k6 s96 ah = some out) (hR : ∀ q, out = .inl q → jRetN q.1 q.2) (hX : ∀ q, out = .inr (.inl q) → J l g md_X6_copy (jRm (d + 2) md_X6_copy) Q 157 [] [] q.2 (0, 0)) (hN : ∀ q, out = .inr (.inr q) → J l g md_X6_copy (jRm (d + 2) md_X6_copy) Q 96 [(0, .inr (.inr (.inl k0))), (1, .inl k1), (2, .inl k2), (3, .inl k3), (4, .inl k4), (5, .inl k5), (6, .inl k6), (7, .inl q.1)] [] q.2 (0, 0)) : J l g md_X6_copy (jRm (d + 2) md_X6_copy) Q 96 [(0, .inr (.inr (.inl k0))), (1, .inl k1), (2, .inl k2), (3, .inl k3), (4, .inl k4), (5, .inl k5), (6, .inl k6), (7, .inl s96)] [] ah (0, 0) := by
  unfold f_X6_copy_b96 at h
  refine J_seg ok_X6_copy 53 2 (pc' := 100) (ls' := [(0, .inr (.inr (.inl k0))), (1, .inl k1), (2, .inl k2), (3, .inl k3), (4, .inl k4), (5, .inl k5), (6, .inl k6), (7, .inl s96)]) (st' := [.inl k5, .inl s96]) rfl ?_
  refine J_ge (jat ok_X6_copy 55 (pc := 100) (i := .if_icmp .ge 57) (n := 3) rfl rfl) (tgt := 157) (by decide) (fun c => ?_) (fun c => ?_)
  · have h := (if_pos c).symm.trans h
    exact J_sub (ls' := []) [] rfl (hX ((), ah) (Option.some.inj h).symm)
  · have h := (if_neg c).symm.trans h
    refine J_seg ok_X6_copy 56 1 (pc' := 105) (ls' := [(0, .inr (.inr (.inl k0))), (1, .inl k1), (2, .inl k2), (3, .inl k3), (4, .inl k4), (5, .inl k5), (6, .inl k6), (7, .inl s96)]) (st' := [.inl k6]) rfl ?_
    refine J_eq0 (jat ok_X6_copy 57 (pc := 105) (i := .ifCond .eq 13) (n := 3) rfl rfl) (tgt := 118) (by decide) (fun c => ?_) (fun c => ?_)
    · have h := (if_pos c).symm.trans h
      refine J_seg ok_X6_copy 64 1 (pc' := 120) (ls' := [(0, .inr (.inr (.inl k0))), (1, .inl k1), (2, .inl k2), (3, .inl k3), (4, .inl k4), (5, .inl k5), (6, .inl k6), (7, .inl s96)]) (st' := [.inl s96]) rfl ?_
      refine J_sub (ls' := [(0, .inr (.inr (.inl k0))), (1, .inl k1), (2, .inl k2), (3, .inl k3), (4, .inl k4), (5, .inl k5), (6, .inl k6), (7, .inl s96)]) [0, 1, 2, 3, 4, 5, 6, 7] rfl ?_
      exact k_X6_copy_b96_j120 d _ _ h hR hX hN
    · have h := (if_neg c).symm.trans h
      refine J_seg ok_X6_copy 58 6 (pc' := 120) (ls' := [(0, .inr (.inr (.inl k0))), (1, .inl k1), (2, .inl k2), (3, .inl k3), (4, .inl k4), (5, .inl k5), (6, .inl k6), (7, .inl s96)]) (st' := [.inl ((k5 - 1) - s96)]) rfl ?_
      refine J_sub (ls' := [(0, .inr (.inr (.inl k0))), (1, .inl k1), (2, .inl k2), (3, .inl k3), (4, .inl k4), (5, .inl k5), (6, .inl k6), (7, .inl s96)]) [0, 1, 2, 3, 4, 5, 6, 7] rfl ?_
      exact k_X6_copy_b96_j120 d _ _ h hR hX hN
def f_X6_copy (x0 : Option Nat) (x1 : Int32) (x2 : Int32) (x3 : Int32) (x4 : Int32) (x5 : Int32) (ah : AH) : Option (Int32 × AH) :=
  (f_X6_isRow x1 ah).bind fun q1 => if q1.1 = 0 then (some ((-1), q1.2)) else ((f_X6_isRow x3 q1.2).bind fun q3 => if q3.1 = 0 then (some ((-1), q3.2)) else (if 0 ≤ x5 then ((gR q3.2 x0 6 7).bind fun v5 => (gA q3.2 v5 x1).bind fun v7 => if v7 < 0 then (f_X6_copy_j45 x0 q3.2) else ((gR q3.2 x0 6 7).bind fun v12 => (gA q3.2 v12 x3).bind fun v14 => if 0 ≤ v14 then (if qO q3.2 x0 6 = true then ((f_X6_isSpan x0 x1 x2 x5 q3.2).bind fun q16 => if q16.1 = 0 then (f_X6_copy_j74 x0 q16.2) else (if qO q16.2 x0 6 = true then ((f_X6_isSpan x0 x3 x4 x5 q16.2).bind fun q22 => if q22.1 = 0 then (f_X6_copy_j74 x0 q22.2) else (if x4 ≤ x2 then ((jloop (f_X6_copy_b96 x0 x1 x2 x3 x4 x5 0) jfuel 0 q22.2).bind fun q33 => match q33 with | .inl r => none | .inr z35 => some (1, z35.2)) else ((jloop (f_X6_copy_b96 x0 x1 x2 x3 x4 x5 1) jfuel 0 q22.2).bind fun q37 => match q37 with | .inl r => none | .inr z39 => some (1, z39.2)))) else none)) else none) else (f_X6_copy_j45 x0 q3.2))) else (if qO q3.2 x0 6 = true then ((f_X6_find x0 5 q3.2).bind fun q41 => some (q41.1, q41.2)) else none)))
set_option maxRecDepth 100000 in
set_option maxHeartbeats 4000000 in
theorem k_X6_copy {l : Launch} {g : GX} (d : Nat) {Q : jQ} {x0 : Option Nat} {x1 : Int32} {x2 : Int32} {x3 : Int32} {x4 : Int32} {x5 : Int32} (ah : AH) (out : Int32 × AH) (h : f_X6_copy x0 x1 x2 x3 x4 x5 ah = some out) (hR : jRetI l g md_X6_copy (jRm (d + 2) md_X6_copy) Q (0, 0) out.1 out.2) : J l g md_X6_copy (jRm (d + 2) md_X6_copy) Q 0 [(0, .inr (.inr (.inl x0))), (1, .inl x1), (2, .inl x2), (3, .inl x3), (4, .inl x4), (5, .inl x5)] [] ah (0, 0) := by
  unfold f_X6_copy at h
  refine J_seg ok_X6_copy 0 1 (pc' := 1) (ls' := [(0, .inr (.inr (.inl x0))), (1, .inl x1), (2, .inl x2), (3, .inl x3), (4, .inl x4), (5, .inl x5)]) (st' := [.inl x1]) rfl ?_
  obtain ⟨q1, h2, h⟩ := Option.bind_eq_some_iff.mp h
  refine J_callS (md' := md_X6_isRow) (As := [.inl x1]) (st := []) (cs' := (0, 0)) (st' := [.inl q1.1]) (jat ok_X6_copy 1 (pc := 1) (i := .invokestatic 77) (n := 3) rfl rfl) (Or.inl ml_RX6_77) ys_X6_isRow (c_X6_isRow l g (d + 0) h2) (jRo_of (by decide)) (Nat.le_of_ble_eq_true rfl) ⟨Nat.le_of_ble_eq_true rfl, Nat.le_of_ble_eq_true rfl⟩ rfl rfl rfl ?_
  refine J_eq0 (jat ok_X6_copy 2 (pc := 4) (i := .ifCond .eq 10) (n := 3) rfl rfl) (tgt := 14) (by decide) (fun c => ?_) (fun c => ?_)
  · have h := (if_pos c).symm.trans h
    refine J_seg ok_X6_copy 6 1 (pc' := 15) (ls' := [(0, .inr (.inr (.inl x0))), (1, .inl x1), (2, .inl x2), (3, .inl x3), (4, .inl x4), (5, .inl x5)]) (st' := [.inl (-1)]) rfl ?_
    have h := Option.some.inj h
    subst h
    exact hR _ _ (jat ok_X6_copy 7 (pc := 15) (i := .ireturn) (n := 1) rfl rfl)
  · have h := (if_neg c).symm.trans h
    refine J_seg ok_X6_copy 3 1 (pc' := 8) (ls' := [(0, .inr (.inr (.inl x0))), (1, .inl x1), (2, .inl x2), (3, .inl x3), (4, .inl x4), (5, .inl x5)]) (st' := [.inl x3]) rfl ?_
    obtain ⟨q3, h4, h⟩ := Option.bind_eq_some_iff.mp h
    refine J_callS (md' := md_X6_isRow) (As := [.inl x3]) (st := []) (cs' := (0, 0)) (st' := [.inl q3.1]) (jat ok_X6_copy 4 (pc := 8) (i := .invokestatic 77) (n := 3) rfl rfl) (Or.inl ml_RX6_77) ys_X6_isRow (c_X6_isRow l g (d + 0) h4) (jRo_of (by decide)) (Nat.le_of_ble_eq_true rfl) ⟨Nat.le_of_ble_eq_true rfl, Nat.le_of_ble_eq_true rfl⟩ rfl rfl rfl ?_
    refine J_ne0 (jat ok_X6_copy 5 (pc := 11) (i := .ifCond .ne 5) (n := 3) rfl rfl) (tgt := 16) (by decide) (fun c => ?_) (fun c => ?_)
    · have h := (if_neg c).symm.trans h
      refine J_seg ok_X6_copy 8 1 (pc' := 18) (ls' := [(0, .inr (.inr (.inl x0))), (1, .inl x1), (2, .inl x2), (3, .inl x3), (4, .inl x4), (5, .inl x5)]) (st' := [.inl x5]) rfl ?_
      refine J_ge0 (jat ok_X6_copy 9 (pc := 18) (i := .ifCond .ge 9) (n := 3) rfl rfl) (tgt := 27) (by decide) (fun c => ?_) (fun c => ?_)
      · have h := (if_pos c).symm.trans h
        refine J_seg ok_X6_copy 14 1 (pc' := 28) (ls' := [(0, .inr (.inr (.inl x0))), (1, .inl x1), (2, .inl x2), (3, .inl x3), (4, .inl x4), (5, .inl x5)]) (st' := [.inr (.inr (.inl x0))]) rfl ?_
        obtain ⟨v5, h6, h⟩ := Option.bind_eq_some_iff.mp h
        refine J_getR (jat ok_X6_copy 15 (pc := 28) (i := .getfield 25) (n := 3) rfl rfl) fl_RX6_25 h6 ?_
        refine J_seg ok_X6_copy 16 1 (pc' := 32) (ls' := [(0, .inr (.inr (.inl x0))), (1, .inl x1), (2, .inl x2), (3, .inl x3), (4, .inl x4), (5, .inl x5)]) (st' := [.inl x1, .inr (.inr (.inl v5))]) rfl ?_
        obtain ⟨v7, h8, h⟩ := Option.bind_eq_some_iff.mp h
        refine J_iald (jat ok_X6_copy 17 (pc := 32) (i := .iaload) (n := 1) rfl rfl) h8 ?_
        refine J_lt0 (jat ok_X6_copy 18 (pc := 33) (i := .ifCond .lt 12) (n := 3) rfl rfl) (tgt := 45) (by decide) (fun c => ?_) (fun c => ?_)
        · have h := (if_pos c).symm.trans h
          refine J_sub (ls' := [(0, .inr (.inr (.inl x0)))]) [0] rfl ?_
          exact k_X6_copy_j45 d _ _ h hR
        · have h := (if_neg c).symm.trans h
          refine J_seg ok_X6_copy 19 1 (pc' := 37) (ls' := [(0, .inr (.inr (.inl x0))), (1, .inl x1), (2, .inl x2), (3, .inl x3), (4, .inl x4), (5, .inl x5)]) (st' := [.inr (.inr (.inl x0))]) rfl ?_
          obtain ⟨v12, h13, h⟩ := Option.bind_eq_some_iff.mp h
          refine J_getR (jat ok_X6_copy 20 (pc := 37) (i := .getfield 25) (n := 3) rfl rfl) fl_RX6_25 h13 ?_
          refine J_seg ok_X6_copy 21 1 (pc' := 41) (ls' := [(0, .inr (.inr (.inl x0))), (1, .inl x1), (2, .inl x2), (3, .inl x3), (4, .inl x4), (5, .inl x5)]) (st' := [.inl x3, .inr (.inr (.inl v12))]) rfl ?_
          obtain ⟨v14, h15, h⟩ := Option.bind_eq_some_iff.mp h
          refine J_iald (jat ok_X6_copy 22 (pc := 41) (i := .iaload) (n := 1) rfl rfl) h15 ?_
          refine J_ge0 (jat ok_X6_copy 23 (pc := 42) (i := .ifCond .ge 9) (n := 3) rfl rfl) (tgt := 51) (by decide) (fun c => ?_) (fun c => ?_)
          · have h := (if_pos c).symm.trans h
            refine J_seg ok_X6_copy 28 4 (pc' := 56) (ls' := [(0, .inr (.inr (.inl x0))), (1, .inl x1), (2, .inl x2), (3, .inl x3), (4, .inl x4), (5, .inl x5)]) (st' := [.inl x5, .inl x2, .inl x1, .inr (.inr (.inl x0))]) rfl ?_
            by_cases c18 : qO q3.2 x0 6 = true
            case neg => exact absurd ((if_neg c18).symm.trans h) (by simp)
            have h := (if_pos c18).symm.trans h
            obtain ⟨q16, h17, h⟩ := Option.bind_eq_some_iff.mp h
            refine J_callV (md' := md_X6_isSpan) (As := [.inl x1, .inl x2, .inl x5]) (st := []) (cs' := (0, 0)) (st' := [.inl q16.1]) (jat ok_X6_copy 32 (pc := 56) (i := .invokevirtual 96) (n := 3) rfl rfl) ml_RX6_96 yv_X6_isSpan c18 (c_X6_isSpan l g (d + 1) h17) (jRo_of (by decide)) (Nat.le_of_ble_eq_true rfl) ⟨Nat.le_of_ble_eq_true rfl, Nat.le_of_ble_eq_true rfl⟩ rfl rfl rfl ?_
            refine J_eq0 (jat ok_X6_copy 33 (pc := 59) (i := .ifCond .eq 15) (n := 3) rfl rfl) (tgt := 74) (by decide) (fun c => ?_) (fun c => ?_)
            · have h := (if_pos c).symm.trans h
              refine J_sub (ls' := [(0, .inr (.inr (.inl x0)))]) [0] rfl ?_
              exact k_X6_copy_j74 d _ _ h hR
            · have h := (if_neg c).symm.trans h
              refine J_seg ok_X6_copy 34 4 (pc' := 68) (ls' := [(0, .inr (.inr (.inl x0))), (1, .inl x1), (2, .inl x2), (3, .inl x3), (4, .inl x4), (5, .inl x5)]) (st' := [.inl x5, .inl x4, .inl x3, .inr (.inr (.inl x0))]) rfl ?_
              by_cases c24 : qO q16.2 x0 6 = true
              case neg => exact absurd ((if_neg c24).symm.trans h) (by simp)
              have h := (if_pos c24).symm.trans h
              obtain ⟨q22, h23, h⟩ := Option.bind_eq_some_iff.mp h
              refine J_callV (md' := md_X6_isSpan) (As := [.inl x3, .inl x4, .inl x5]) (st := []) (cs' := (0, 0)) (st' := [.inl q22.1]) (jat ok_X6_copy 38 (pc := 68) (i := .invokevirtual 96) (n := 3) rfl rfl) ml_RX6_96 yv_X6_isSpan c24 (c_X6_isSpan l g (d + 1) h23) (jRo_of (by decide)) (Nat.le_of_ble_eq_true rfl) ⟨Nat.le_of_ble_eq_true rfl, Nat.le_of_ble_eq_true rfl⟩ rfl rfl rfl ?_
              refine J_ne0 (jat ok_X6_copy 39 (pc := 71) (i := .ifCond .ne 9) (n := 3) rfl rfl) (tgt := 80) (by decide) (fun c => ?_) (fun c => ?_)
              · have h := (if_neg c).symm.trans h
                refine J_seg ok_X6_copy 44 2 (pc' := 83) (ls' := [(0, .inr (.inr (.inl x0))), (1, .inl x1), (2, .inl x2), (3, .inl x3), (4, .inl x4), (5, .inl x5)]) (st' := [.inl x4, .inl x2]) rfl ?_
                refine J_ge (jat ok_X6_copy 46 (pc := 83) (i := .if_icmp .ge 7) (n := 3) rfl rfl) (tgt := 90) (by decide) (fun c => ?_) (fun c => ?_)
                · have h := (if_pos c).symm.trans h
                  refine J_seg ok_X6_copy 49 4 (pc' := 96) (ls' := [(7, .inl 0), (6, .inl 0), (0, .inr (.inr (.inl x0))), (1, .inl x1), (2, .inl x2), (3, .inl x3), (4, .inl x4), (5, .inl x5)]) (st' := []) rfl ?_
                  obtain ⟨q33, h34, h⟩ := Option.bind_eq_some_iff.mp h
                  refine J_sub (ls' := [(0, .inr (.inr (.inl x0))), (1, .inl x1), (2, .inl x2), (3, .inl x3), (4, .inl x4), (5, .inl x5), (6, .inl 0), (7, .inl 0)]) [2, 3, 4, 5, 6, 7, 1, 0] rfl ?_
                  refine J_loop (pE := 157) (lh := fun t36 => [(0, .inr (.inr (.inl x0))), (1, .inl x1), (2, .inl x2), (3, .inl x3), (4, .inl x4), (5, .inl x5), (6, .inl 0), (7, .inl t36)]) (lx := fun z35 => []) (P := jRetN) (fun s ah out hb hR hX hN => k_X6_copy_b96 d s ah out hb hR hX hN) jfuel 0 _ _ h34 (fun r e => ?_) (fun z35 e => ?_)
                  · subst e
                    dsimp only at h
                    cases h
                  · subst e
                    dsimp only at h
                    refine J_seg ok_X6_copy 88 1 (pc' := 158) (ls' := []) (st' := [.inl 1]) rfl ?_
                    have h := Option.some.inj h
                    subst h
                    exact hR _ _ (jat ok_X6_copy 89 (pc := 158) (i := .ireturn) (n := 1) rfl rfl)
                · have h := (if_neg c).symm.trans h
                  refine J_seg ok_X6_copy 47 2 (pc' := 91) (ls' := [(0, .inr (.inr (.inl x0))), (1, .inl x1), (2, .inl x2), (3, .inl x3), (4, .inl x4), (5, .inl x5)]) (st' := [.inl 1]) rfl ?_
                  refine J_seg ok_X6_copy 50 3 (pc' := 96) (ls' := [(7, .inl 0), (6, .inl 1), (0, .inr (.inr (.inl x0))), (1, .inl x1), (2, .inl x2), (3, .inl x3), (4, .inl x4), (5, .inl x5)]) (st' := []) rfl ?_
                  obtain ⟨q37, h38, h⟩ := Option.bind_eq_some_iff.mp h
                  refine J_sub (ls' := [(0, .inr (.inr (.inl x0))), (1, .inl x1), (2, .inl x2), (3, .inl x3), (4, .inl x4), (5, .inl x5), (6, .inl 1), (7, .inl 0)]) [2, 3, 4, 5, 6, 7, 1, 0] rfl ?_
                  refine J_loop (pE := 157) (lh := fun t40 => [(0, .inr (.inr (.inl x0))), (1, .inl x1), (2, .inl x2), (3, .inl x3), (4, .inl x4), (5, .inl x5), (6, .inl 1), (7, .inl t40)]) (lx := fun z39 => []) (P := jRetN) (fun s ah out hb hR hX hN => k_X6_copy_b96 d s ah out hb hR hX hN) jfuel 0 _ _ h38 (fun r e => ?_) (fun z39 e => ?_)
                  · subst e
                    dsimp only at h
                    cases h
                  · subst e
                    dsimp only at h
                    refine J_seg ok_X6_copy 88 1 (pc' := 158) (ls' := []) (st' := [.inl 1]) rfl ?_
                    have h := Option.some.inj h
                    subst h
                    exact hR _ _ (jat ok_X6_copy 89 (pc := 158) (i := .ireturn) (n := 1) rfl rfl)
              · have h := (if_pos c).symm.trans h
                refine J_sub (ls' := [(0, .inr (.inr (.inl x0)))]) [0] rfl ?_
                exact k_X6_copy_j74 d _ _ h hR
          · have h := (if_neg c).symm.trans h
            refine J_sub (ls' := [(0, .inr (.inr (.inl x0)))]) [0] rfl ?_
            exact k_X6_copy_j45 d _ _ h hR
      · have h := (if_neg c).symm.trans h
        refine J_seg ok_X6_copy 10 2 (pc' := 23) (ls' := [(0, .inr (.inr (.inl x0))), (1, .inl x1), (2, .inl x2), (3, .inl x3), (4, .inl x4), (5, .inl x5)]) (st' := [.inl 5, .inr (.inr (.inl x0))]) rfl ?_
        by_cases c43 : qO q3.2 x0 6 = true
        case neg => exact absurd ((if_neg c43).symm.trans h) (by simp)
        have h := (if_pos c43).symm.trans h
        obtain ⟨q41, h42, h⟩ := Option.bind_eq_some_iff.mp h
        refine J_callV (md' := md_X6_find) (As := [.inl 5]) (st := []) (cs' := (0, 0)) (st' := [.inl q41.1]) (jat ok_X6_copy 12 (pc := 23) (i := .invokevirtual 81) (n := 3) rfl rfl) ml_RX6_81 yv_X6_find c43 (c_X6_find l g (d + 1) h42) (jRo_of (by decide)) (Nat.le_of_ble_eq_true rfl) ⟨Nat.le_of_ble_eq_true rfl, Nat.le_of_ble_eq_true rfl⟩ rfl rfl rfl ?_
        have h := Option.some.inj h
        subst h
        exact hR _ _ (jat ok_X6_copy 13 (pc := 26) (i := .ireturn) (n := 1) rfl rfl)
    · have h := (if_pos c).symm.trans h
      refine J_seg ok_X6_copy 6 1 (pc' := 15) (ls' := [(0, .inr (.inr (.inl x0))), (1, .inl x1), (2, .inl x2), (3, .inl x3), (4, .inl x4), (5, .inl x5)]) (st' := [.inl (-1)]) rfl ?_
      have h := Option.some.inj h
      subst h
      exact hR _ _ (jat ok_X6_copy 7 (pc := 15) (i := .ireturn) (n := 1) rfl rfl)
theorem c_X6_copy (l : Launch) (g : GX) (d : Nat) {x0 : Option Nat} {x1 : Int32} {x2 : Int32} {x3 : Int32} {x4 : Int32} {x5 : Int32} {ah : AH} {q : Int32 × AH} (h : f_X6_copy x0 x1 x2 x3 x4 x5 ah = some q) : jM l g (d + 2) md_X6_copy [.inr (.inr (.inl x0)), .inl x1, .inl x2, .inl x3, .inl x4, .inl x5] ah (some (.inl q.1)) q.2 :=
  jM_of (by decide) (Nat.le_of_ble_eq_true rfl) (k_X6_copy d ah q h (fun pc ls hd => J_reti hd rfl (jPV_int _) rfl (Nat.le_refl _) rfl rfl))
def f_X6_mean_b44 (k0 : Option Nat) (k1 : Int32) (s44 : Int64 × Int32) (ah : AH) : Option ((Unit × AH) ⊕ (((Int64) × AH) ⊕ ((Int64 × Int32) × AH))) :=
  (gR ah k0 6 7).bind fun v11 => (gA ah v11 k1).bind fun v13 => if v13 ≤ s44.2 then (some (.inr (.inl (s44.1, ah)))) else ((gR ah k0 6 8).bind fun v15 => (gA ah v15 ((40 * k1) + s44.2)).bind fun v17 => some (.inr (.inr ((s44.1 + (Int32.toInt64 v17), s44.2 + 1), ah))))
set_option maxRecDepth 100000 in
set_option maxHeartbeats 4000000 in
theorem k_X6_mean_b44 {l : Launch} {g : GX} (d : Nat) {Q : jQ} {k0 : Option Nat} {k1 : Int32} (s44 : Int64 × Int32) (ah : AH) (out : (Unit × AH) ⊕ (((Int64) × AH) ⊕ ((Int64 × Int32) × AH))) (h : f_X6_mean_b44 k0 k1 s44 ah = some out) (hR : ∀ q, out = .inl q → jRetN q.1 q.2) (hX : ∀ q, out = .inr (.inl q) → J l g md_X6_mean (jRm (d + 2) md_X6_mean) Q 77 [(0, .inr (.inr (.inl k0))), (1, .inl k1), (2, .inr (.inl q.1))] [] q.2 (0, 0)) (hN : ∀ q, out = .inr (.inr q) → J l g md_X6_mean (jRm (d + 2) md_X6_mean) Q 44 [(0, .inr (.inr (.inl k0))), (1, .inl k1), (2, .inr (.inl q.1.1)), (4, .inl q.1.2)] [] q.2 (0, 0)) : J l g md_X6_mean (jRm (d + 2) md_X6_mean) Q 44 [(0, .inr (.inr (.inl k0))), (1, .inl k1), (2, .inr (.inl s44.1)), (4, .inl s44.2)] [] ah (0, 0) := by
  unfold f_X6_mean_b44 at h
  refine J_seg ok_X6_mean 27 2 (pc' := 47) (ls' := [(0, .inr (.inr (.inl k0))), (1, .inl k1), (2, .inr (.inl s44.1)), (4, .inl s44.2)]) (st' := [.inr (.inr (.inl k0)), .inl s44.2]) rfl ?_
  obtain ⟨v11, h12, h⟩ := Option.bind_eq_some_iff.mp h
  refine J_getR (jat ok_X6_mean 29 (pc := 47) (i := .getfield 25) (n := 3) rfl rfl) fl_RX6_25 h12 ?_
  refine J_seg ok_X6_mean 30 1 (pc' := 51) (ls' := [(0, .inr (.inr (.inl k0))), (1, .inl k1), (2, .inr (.inl s44.1)), (4, .inl s44.2)]) (st' := [.inl k1, .inr (.inr (.inl v11)), .inl s44.2]) rfl ?_
  obtain ⟨v13, h14, h⟩ := Option.bind_eq_some_iff.mp h
  refine J_iald (jat ok_X6_mean 31 (pc := 51) (i := .iaload) (n := 1) rfl rfl) h14 ?_
  refine J_ge (jat ok_X6_mean 32 (pc := 52) (i := .if_icmp .ge 25) (n := 3) rfl rfl) (tgt := 77) (by decide) (fun c => ?_) (fun c => ?_)
  · have h := (if_pos c).symm.trans h
    exact J_sub (ls' := [(0, .inr (.inr (.inl k0))), (1, .inl k1), (2, .inr (.inl s44.1))]) [0, 1, 2] rfl (hX (s44.1, ah) (Option.some.inj h).symm)
  · have h := (if_neg c).symm.trans h
    refine J_seg ok_X6_mean 33 2 (pc' := 57) (ls' := [(0, .inr (.inr (.inl k0))), (1, .inl k1), (2, .inr (.inl s44.1)), (4, .inl s44.2)]) (st' := [.inr (.inr (.inl k0)), .inr (.inl s44.1)]) rfl ?_
    obtain ⟨v15, h16, h⟩ := Option.bind_eq_some_iff.mp h
    refine J_getR (jat ok_X6_mean 35 (pc := 57) (i := .getfield 28) (n := 3) rfl rfl) fl_RX6_28 h16 ?_
    refine J_seg ok_X6_mean 36 5 (pc' := 67) (ls' := [(0, .inr (.inr (.inl k0))), (1, .inl k1), (2, .inr (.inl s44.1)), (4, .inl s44.2)]) (st' := [.inl ((40 * k1) + s44.2), .inr (.inr (.inl v15)), .inr (.inl s44.1)]) rfl ?_
    obtain ⟨v17, h18, h⟩ := Option.bind_eq_some_iff.mp h
    refine J_iald (jat ok_X6_mean 41 (pc := 67) (i := .iaload) (n := 1) rfl rfl) h18 ?_
    refine J_seg ok_X6_mean 42 5 (pc' := 44) (ls' := [(4, .inl (s44.2 + 1)), (2, .inr (.inl (s44.1 + (Int32.toInt64 v17)))), (0, .inr (.inr (.inl k0))), (1, .inl k1)]) (st' := []) rfl ?_
    exact J_sub (ls' := [(0, .inr (.inr (.inl k0))), (1, .inl k1), (2, .inr (.inl (s44.1 + (Int32.toInt64 v17)))), (4, .inl (s44.2 + 1))]) [2, 3, 1, 0] rfl (hN ((s44.1 + (Int32.toInt64 v17), s44.2 + 1), ah) (Option.some.inj h).symm)
def f_X6_mean (x0 : Option Nat) (x1 : Int32) (ah : AH) : Option (Int32 × AH) :=
  (f_X6_isRow x1 ah).bind fun q1 => if q1.1 = 0 then (some ((-1), q1.2)) else ((gR q1.2 x0 6 7).bind fun v3 => (gA q1.2 v3 x1).bind fun v5 => if 0 ≤ v5 then ((gR q1.2 x0 6 7).bind fun v7 => (gA q1.2 v7 x1).bind fun v9 => if v9 = 0 then (if qO q1.2 x0 6 = true then ((f_X6_find x0 4 q1.2).bind fun q31 => some (q31.1, q31.2)) else none) else ((jloop (f_X6_mean_b44 x0 x1) jfuel (0, 0) q1.2).bind fun q19 => match q19 with | .inl r => none | .inr z21 => (gR z21.2 x0 6 7).bind fun v23 => (gA z21.2 v23 x1).bind fun v25 => if (Int32.toInt64 v25) = 0 then none else (if qO z21.2 x0 6 = true then ((f_X6_tell x0 (Int64.toInt32 (z21.1 / (Int32.toInt64 v25))) z21.2).bind fun q28 => some (q28.1, q28.2)) else none))) else (if qO q1.2 x0 6 = true then ((f_X6_find x0 1 q1.2).bind fun q34 => some (q34.1, q34.2)) else none))
set_option maxRecDepth 100000 in
set_option maxHeartbeats 4000000 in
theorem k_X6_mean {l : Launch} {g : GX} (d : Nat) {Q : jQ} {x0 : Option Nat} {x1 : Int32} (ah : AH) (out : Int32 × AH) (h : f_X6_mean x0 x1 ah = some out) (hR : jRetI l g md_X6_mean (jRm (d + 2) md_X6_mean) Q (0, 0) out.1 out.2) : J l g md_X6_mean (jRm (d + 2) md_X6_mean) Q 0 [(0, .inr (.inr (.inl x0))), (1, .inl x1)] [] ah (0, 0) := by
  unfold f_X6_mean at h
  refine J_seg ok_X6_mean 0 1 (pc' := 1) (ls' := [(0, .inr (.inr (.inl x0))), (1, .inl x1)]) (st' := [.inl x1]) rfl ?_
  obtain ⟨q1, h2, h⟩ := Option.bind_eq_some_iff.mp h
  refine J_callS (md' := md_X6_isRow) (As := [.inl x1]) (st := []) (cs' := (0, 0)) (st' := [.inl q1.1]) (jat ok_X6_mean 1 (pc := 1) (i := .invokestatic 77) (n := 3) rfl rfl) (Or.inl ml_RX6_77) ys_X6_isRow (c_X6_isRow l g (d + 0) h2) (jRo_of (by decide)) (Nat.le_of_ble_eq_true rfl) ⟨Nat.le_of_ble_eq_true rfl, Nat.le_of_ble_eq_true rfl⟩ rfl rfl rfl ?_
  refine J_ne0 (jat ok_X6_mean 2 (pc := 4) (i := .ifCond .ne 5) (n := 3) rfl rfl) (tgt := 9) (by decide) (fun c => ?_) (fun c => ?_)
  · have h := (if_neg c).symm.trans h
    refine J_seg ok_X6_mean 5 1 (pc' := 10) (ls' := [(0, .inr (.inr (.inl x0))), (1, .inl x1)]) (st' := [.inr (.inr (.inl x0))]) rfl ?_
    obtain ⟨v3, h4, h⟩ := Option.bind_eq_some_iff.mp h
    refine J_getR (jat ok_X6_mean 6 (pc := 10) (i := .getfield 25) (n := 3) rfl rfl) fl_RX6_25 h4 ?_
    refine J_seg ok_X6_mean 7 1 (pc' := 14) (ls' := [(0, .inr (.inr (.inl x0))), (1, .inl x1)]) (st' := [.inl x1, .inr (.inr (.inl v3))]) rfl ?_
    obtain ⟨v5, h6, h⟩ := Option.bind_eq_some_iff.mp h
    refine J_iald (jat ok_X6_mean 8 (pc := 14) (i := .iaload) (n := 1) rfl rfl) h6 ?_
    refine J_ge0 (jat ok_X6_mean 9 (pc := 15) (i := .ifCond .ge 9) (n := 3) rfl rfl) (tgt := 24) (by decide) (fun c => ?_) (fun c => ?_)
    · have h := (if_pos c).symm.trans h
      refine J_seg ok_X6_mean 14 1 (pc' := 25) (ls' := [(0, .inr (.inr (.inl x0))), (1, .inl x1)]) (st' := [.inr (.inr (.inl x0))]) rfl ?_
      obtain ⟨v7, h8, h⟩ := Option.bind_eq_some_iff.mp h
      refine J_getR (jat ok_X6_mean 15 (pc := 25) (i := .getfield 25) (n := 3) rfl rfl) fl_RX6_25 h8 ?_
      refine J_seg ok_X6_mean 16 1 (pc' := 29) (ls' := [(0, .inr (.inr (.inl x0))), (1, .inl x1)]) (st' := [.inl x1, .inr (.inr (.inl v7))]) rfl ?_
      obtain ⟨v9, h10, h⟩ := Option.bind_eq_some_iff.mp h
      refine J_iald (jat ok_X6_mean 17 (pc := 29) (i := .iaload) (n := 1) rfl rfl) h10 ?_
      refine J_ne0 (jat ok_X6_mean 18 (pc := 30) (i := .ifCond .ne 9) (n := 3) rfl rfl) (tgt := 39) (by decide) (fun c => ?_) (fun c => ?_)
      · have h := (if_neg c).symm.trans h
        refine J_seg ok_X6_mean 23 4 (pc' := 44) (ls' := [(4, .inl 0), (2, .inr (.inl 0)), (0, .inr (.inr (.inl x0))), (1, .inl x1)]) (st' := []) rfl ?_
        obtain ⟨q19, h20, h⟩ := Option.bind_eq_some_iff.mp h
        refine J_sub (ls' := [(0, .inr (.inr (.inl x0))), (1, .inl x1), (2, .inr (.inl 0)), (4, .inl 0)]) [2, 3, 1, 0] rfl ?_
        refine J_loop (pE := 77) (lh := fun t22 => [(0, .inr (.inr (.inl x0))), (1, .inl x1), (2, .inr (.inl t22.1)), (4, .inl t22.2)]) (lx := fun z21 => [(0, .inr (.inr (.inl x0))), (1, .inl x1), (2, .inr (.inl z21))]) (P := jRetN) (fun s ah out hb hR hX hN => k_X6_mean_b44 d s ah out hb hR hX hN) jfuel (0, 0) _ _ h20 (fun r e => ?_) (fun z21 e => ?_)
        · subst e
          dsimp only at h
          cases h
        · subst e
          dsimp only at h
          refine J_seg ok_X6_mean 47 3 (pc' := 80) (ls' := [(0, .inr (.inr (.inl x0))), (1, .inl x1), (2, .inr (.inl z21.1))]) (st' := [.inr (.inr (.inl x0)), .inr (.inl z21.1), .inr (.inr (.inl x0))]) rfl ?_
          obtain ⟨v23, h24, h⟩ := Option.bind_eq_some_iff.mp h
          refine J_getR (jat ok_X6_mean 50 (pc := 80) (i := .getfield 25) (n := 3) rfl rfl) fl_RX6_25 h24 ?_
          refine J_seg ok_X6_mean 51 1 (pc' := 84) (ls' := [(0, .inr (.inr (.inl x0))), (1, .inl x1), (2, .inr (.inl z21.1))]) (st' := [.inl x1, .inr (.inr (.inl v23)), .inr (.inl z21.1), .inr (.inr (.inl x0))]) rfl ?_
          obtain ⟨v25, h26, h⟩ := Option.bind_eq_some_iff.mp h
          refine J_iald (jat ok_X6_mean 52 (pc := 84) (i := .iaload) (n := 1) rfl rfl) h26 ?_
          refine J_seg ok_X6_mean 53 1 (pc' := 86) (ls' := [(0, .inr (.inr (.inl x0))), (1, .inl x1), (2, .inr (.inl z21.1))]) (st' := [.inr (.inl (Int32.toInt64 v25)), .inr (.inl z21.1), .inr (.inr (.inl x0))]) rfl ?_
          by_cases e27 : (Int32.toInt64 v25) = 0
          · exact absurd ((if_pos e27).symm.trans h) (by simp)
          have h := (if_neg e27).symm.trans h
          refine J_ldiv (jat ok_X6_mean 54 (pc := 86) (i := .ldiv) (n := 1) rfl rfl) e27 ?_
          refine J_seg ok_X6_mean 55 1 (pc' := 88) (ls' := [(0, .inr (.inr (.inl x0))), (1, .inl x1), (2, .inr (.inl z21.1))]) (st' := [.inl (Int64.toInt32 (z21.1 / (Int32.toInt64 v25))), .inr (.inr (.inl x0))]) rfl ?_
          by_cases c30 : qO z21.2 x0 6 = true
          case neg => exact absurd ((if_neg c30).symm.trans h) (by simp)
          have h := (if_pos c30).symm.trans h
          obtain ⟨q28, h29, h⟩ := Option.bind_eq_some_iff.mp h
          refine J_callV (md' := md_X6_tell) (As := [.inl (Int64.toInt32 (z21.1 / (Int32.toInt64 v25)))]) (st := []) (cs' := (0, 0)) (st' := [.inl q28.1]) (jat ok_X6_mean 56 (pc := 88) (i := .invokevirtual 93) (n := 3) rfl rfl) ml_RX6_93 yv_X6_tell c30 (c_X6_tell l g (d + 1) h29) (jRo_of (by decide)) (Nat.le_of_ble_eq_true rfl) ⟨Nat.le_of_ble_eq_true rfl, Nat.le_of_ble_eq_true rfl⟩ rfl rfl rfl ?_
          have h := Option.some.inj h
          subst h
          exact hR _ _ (jat ok_X6_mean 57 (pc := 91) (i := .ireturn) (n := 1) rfl rfl)
      · have h := (if_pos c).symm.trans h
        refine J_seg ok_X6_mean 19 2 (pc' := 35) (ls' := [(0, .inr (.inr (.inl x0))), (1, .inl x1)]) (st' := [.inl 4, .inr (.inr (.inl x0))]) rfl ?_
        by_cases c33 : qO q1.2 x0 6 = true
        case neg => exact absurd ((if_neg c33).symm.trans h) (by simp)
        have h := (if_pos c33).symm.trans h
        obtain ⟨q31, h32, h⟩ := Option.bind_eq_some_iff.mp h
        refine J_callV (md' := md_X6_find) (As := [.inl 4]) (st := []) (cs' := (0, 0)) (st' := [.inl q31.1]) (jat ok_X6_mean 21 (pc := 35) (i := .invokevirtual 81) (n := 3) rfl rfl) ml_RX6_81 yv_X6_find c33 (c_X6_find l g (d + 1) h32) (jRo_of (by decide)) (Nat.le_of_ble_eq_true rfl) ⟨Nat.le_of_ble_eq_true rfl, Nat.le_of_ble_eq_true rfl⟩ rfl rfl rfl ?_
        have h := Option.some.inj h
        subst h
        exact hR _ _ (jat ok_X6_mean 22 (pc := 38) (i := .ireturn) (n := 1) rfl rfl)
    · have h := (if_neg c).symm.trans h
      refine J_seg ok_X6_mean 10 2 (pc' := 20) (ls' := [(0, .inr (.inr (.inl x0))), (1, .inl x1)]) (st' := [.inl 1, .inr (.inr (.inl x0))]) rfl ?_
      by_cases c36 : qO q1.2 x0 6 = true
      case neg => exact absurd ((if_neg c36).symm.trans h) (by simp)
      have h := (if_pos c36).symm.trans h
      obtain ⟨q34, h35, h⟩ := Option.bind_eq_some_iff.mp h
      refine J_callV (md' := md_X6_find) (As := [.inl 1]) (st := []) (cs' := (0, 0)) (st' := [.inl q34.1]) (jat ok_X6_mean 12 (pc := 20) (i := .invokevirtual 81) (n := 3) rfl rfl) ml_RX6_81 yv_X6_find c36 (c_X6_find l g (d + 1) h35) (jRo_of (by decide)) (Nat.le_of_ble_eq_true rfl) ⟨Nat.le_of_ble_eq_true rfl, Nat.le_of_ble_eq_true rfl⟩ rfl rfl rfl ?_
      have h := Option.some.inj h
      subst h
      exact hR _ _ (jat ok_X6_mean 13 (pc := 23) (i := .ireturn) (n := 1) rfl rfl)
  · have h := (if_pos c).symm.trans h
    refine J_seg ok_X6_mean 3 1 (pc' := 8) (ls' := [(0, .inr (.inr (.inl x0))), (1, .inl x1)]) (st' := [.inl (-1)]) rfl ?_
    have h := Option.some.inj h
    subst h
    exact hR _ _ (jat ok_X6_mean 4 (pc := 8) (i := .ireturn) (n := 1) rfl rfl)
theorem c_X6_mean (l : Launch) (g : GX) (d : Nat) {x0 : Option Nat} {x1 : Int32} {ah : AH} {q : Int32 × AH} (h : f_X6_mean x0 x1 ah = some q) : jM l g (d + 2) md_X6_mean [.inr (.inr (.inl x0)), .inl x1] ah (some (.inl q.1)) q.2 :=
  jM_of (by decide) (Nat.le_of_ble_eq_true rfl) (k_X6_mean d ah q h (fun pc ls hd => J_reti hd rfl (jPV_int _) rfl (Nat.le_refl _) rfl rfl))
def f_X6_text_b34 (k0 : Option Nat) (k1 : Int32) (k2 : Int32) (s34 : Int32) (ah : AH) : Option ((Unit × AH) ⊕ (((Unit) × AH) ⊕ ((Int32) × AH))) :=
  if 60 ≤ s34 then (some (.inr (.inl ((), ah)))) else ((gR ah k0 6 10).bind fun v7 => (sA ah v7 ((60 * k1) + s34) 32).bind fun a9 => some (.inr (.inr (s34 + 1, a9))))
set_option maxRecDepth 100000 in
set_option maxHeartbeats 4000000 in
theorem k_X6_text_b34 {l : Launch} {g : GX} (d : Nat) {Q : jQ} {k0 : Option Nat} {k1 : Int32} {k2 : Int32} (s34 : Int32) (ah : AH) (out : (Unit × AH) ⊕ (((Unit) × AH) ⊕ ((Int32) × AH))) (h : f_X6_text_b34 k0 k1 k2 s34 ah = some out) (hR : ∀ q, out = .inl q → jRetN q.1 q.2) (hX : ∀ q, out = .inr (.inl q) → J l g md_X6_text (jRm (d + 2) md_X6_text) Q 59 [(2, .inl k2)] [] q.2 (0, 0)) (hN : ∀ q, out = .inr (.inr q) → J l g md_X6_text (jRm (d + 2) md_X6_text) Q 34 [(0, .inr (.inr (.inl k0))), (1, .inl k1), (2, .inl k2), (3, .inl q.1)] [] q.2 (0, 0)) : J l g md_X6_text (jRm (d + 2) md_X6_text) Q 34 [(0, .inr (.inr (.inl k0))), (1, .inl k1), (2, .inl k2), (3, .inl s34)] [] ah (0, 0) := by
  unfold f_X6_text_b34 at h
  refine J_seg ok_X6_text 21 2 (pc' := 37) (ls' := [(0, .inr (.inr (.inl k0))), (1, .inl k1), (2, .inl k2), (3, .inl s34)]) (st' := [.inl 60, .inl s34]) rfl ?_
  refine J_ge (jat ok_X6_text 23 (pc := 37) (i := .if_icmp .ge 22) (n := 3) rfl rfl) (tgt := 59) (by decide) (fun c => ?_) (fun c => ?_)
  · have h := (if_pos c).symm.trans h
    exact J_sub (ls' := [(2, .inl k2)]) [2] rfl (hX ((), ah) (Option.some.inj h).symm)
  · have h := (if_neg c).symm.trans h
    refine J_seg ok_X6_text 24 1 (pc' := 41) (ls' := [(0, .inr (.inr (.inl k0))), (1, .inl k1), (2, .inl k2), (3, .inl s34)]) (st' := [.inr (.inr (.inl k0))]) rfl ?_
    obtain ⟨v7, h8, h⟩ := Option.bind_eq_some_iff.mp h
    refine J_getR (jat ok_X6_text 25 (pc := 41) (i := .getfield 34) (n := 3) rfl rfl) fl_RX6_34 h8 ?_
    refine J_seg ok_X6_text 26 6 (pc' := 52) (ls' := [(0, .inr (.inr (.inl k0))), (1, .inl k1), (2, .inl k2), (3, .inl s34)]) (st' := [.inl 32, .inl ((60 * k1) + s34), .inr (.inr (.inl v7))]) rfl ?_
    obtain ⟨a9, h10, h⟩ := Option.bind_eq_some_iff.mp h
    refine J_iast (jat ok_X6_text 32 (pc := 52) (i := .iastore) (n := 1) rfl rfl) h10 ?_
    refine J_seg ok_X6_text 33 2 (pc' := 34) (ls' := [(3, .inl (s34 + 1)), (0, .inr (.inr (.inl k0))), (1, .inl k1), (2, .inl k2)]) (st' := []) rfl ?_
    exact J_sub (ls' := [(0, .inr (.inr (.inl k0))), (1, .inl k1), (2, .inl k2), (3, .inl (s34 + 1))]) [1, 2, 3, 0] rfl (hN (s34 + 1, a9) (Option.some.inj h).symm)
def f_X6_text (x0 : Option Nat) (x1 : Int32) (x2 : Int32) (ah : AH) : Option (Int32 × AH) :=
  (f_X6_isText x1 ah).bind fun q1 => if q1.1 = 0 then (some ((-1), q1.2)) else (if x2 ≤ 60 then (if 0 ≤ x2 then ((gR q1.2 x0 6 9).bind fun v3 => (sA q1.2 v3 x1 x2).bind fun a5 => (jloop (f_X6_text_b34 x0 x1 x2) jfuel 0 a5).bind fun q11 => match q11 with | .inl r => none | .inr z13 => some (x2, z13.2)) else (if qO q1.2 x0 6 = true then ((f_X6_find x0 5 q1.2).bind fun q15 => some (q15.1, q15.2)) else none)) else (some ((-1), q1.2)))
set_option maxRecDepth 100000 in
set_option maxHeartbeats 4000000 in
theorem k_X6_text {l : Launch} {g : GX} (d : Nat) {Q : jQ} {x0 : Option Nat} {x1 : Int32} {x2 : Int32} (ah : AH) (out : Int32 × AH) (h : f_X6_text x0 x1 x2 ah = some out) (hR : jRetI l g md_X6_text (jRm (d + 2) md_X6_text) Q (0, 0) out.1 out.2) : J l g md_X6_text (jRm (d + 2) md_X6_text) Q 0 [(0, .inr (.inr (.inl x0))), (1, .inl x1), (2, .inl x2)] [] ah (0, 0) := by
  unfold f_X6_text at h
  refine J_seg ok_X6_text 0 1 (pc' := 1) (ls' := [(0, .inr (.inr (.inl x0))), (1, .inl x1), (2, .inl x2)]) (st' := [.inl x1]) rfl ?_
  obtain ⟨q1, h2, h⟩ := Option.bind_eq_some_iff.mp h
  refine J_callS (md' := md_X6_isText) (As := [.inl x1]) (st := []) (cs' := (0, 0)) (st' := [.inl q1.1]) (jat ok_X6_text 1 (pc := 1) (i := .invokestatic 100) (n := 3) rfl rfl) (Or.inl ml_RX6_100) ys_X6_isText (c_X6_isText l g (d + 0) h2) (jRo_of (by decide)) (Nat.le_of_ble_eq_true rfl) ⟨Nat.le_of_ble_eq_true rfl, Nat.le_of_ble_eq_true rfl⟩ rfl rfl rfl ?_
  refine J_eq0 (jat ok_X6_text 2 (pc := 4) (i := .ifCond .eq 9) (n := 3) rfl rfl) (tgt := 13) (by decide) (fun c => ?_) (fun c => ?_)
  · have h := (if_pos c).symm.trans h
    refine J_seg ok_X6_text 6 1 (pc' := 14) (ls' := [(0, .inr (.inr (.inl x0))), (1, .inl x1), (2, .inl x2)]) (st' := [.inl (-1)]) rfl ?_
    have h := Option.some.inj h
    subst h
    exact hR _ _ (jat ok_X6_text 7 (pc := 14) (i := .ireturn) (n := 1) rfl rfl)
  · have h := (if_neg c).symm.trans h
    refine J_seg ok_X6_text 3 2 (pc' := 10) (ls' := [(0, .inr (.inr (.inl x0))), (1, .inl x1), (2, .inl x2)]) (st' := [.inl 60, .inl x2]) rfl ?_
    refine J_le (jat ok_X6_text 5 (pc := 10) (i := .if_icmp .le 5) (n := 3) rfl rfl) (tgt := 15) (by decide) (fun c => ?_) (fun c => ?_)
    · have h := (if_pos c).symm.trans h
      refine J_seg ok_X6_text 8 1 (pc' := 16) (ls' := [(0, .inr (.inr (.inl x0))), (1, .inl x1), (2, .inl x2)]) (st' := [.inl x2]) rfl ?_
      refine J_ge0 (jat ok_X6_text 9 (pc := 16) (i := .ifCond .ge 9) (n := 3) rfl rfl) (tgt := 25) (by decide) (fun c => ?_) (fun c => ?_)
      · have h := (if_pos c).symm.trans h
        refine J_seg ok_X6_text 14 1 (pc' := 26) (ls' := [(0, .inr (.inr (.inl x0))), (1, .inl x1), (2, .inl x2)]) (st' := [.inr (.inr (.inl x0))]) rfl ?_
        obtain ⟨v3, h4, h⟩ := Option.bind_eq_some_iff.mp h
        refine J_getR (jat ok_X6_text 15 (pc := 26) (i := .getfield 31) (n := 3) rfl rfl) fl_RX6_31 h4 ?_
        refine J_seg ok_X6_text 16 2 (pc' := 31) (ls' := [(0, .inr (.inr (.inl x0))), (1, .inl x1), (2, .inl x2)]) (st' := [.inl x2, .inl x1, .inr (.inr (.inl v3))]) rfl ?_
        obtain ⟨a5, h6, h⟩ := Option.bind_eq_some_iff.mp h
        refine J_iast (jat ok_X6_text 18 (pc := 31) (i := .iastore) (n := 1) rfl rfl) h6 ?_
        refine J_seg ok_X6_text 19 2 (pc' := 34) (ls' := [(3, .inl 0), (0, .inr (.inr (.inl x0))), (1, .inl x1), (2, .inl x2)]) (st' := []) rfl ?_
        obtain ⟨q11, h12, h⟩ := Option.bind_eq_some_iff.mp h
        refine J_sub (ls' := [(0, .inr (.inr (.inl x0))), (1, .inl x1), (2, .inl x2), (3, .inl 0)]) [1, 2, 3, 0] rfl ?_
        refine J_loop (pE := 59) (lh := fun t14 => [(0, .inr (.inr (.inl x0))), (1, .inl x1), (2, .inl x2), (3, .inl t14)]) (lx := fun z13 => [(2, .inl x2)]) (P := jRetN) (fun s ah out hb hR hX hN => k_X6_text_b34 d s ah out hb hR hX hN) jfuel 0 _ _ h12 (fun r e => ?_) (fun z13 e => ?_)
        · subst e
          dsimp only at h
          cases h
        · subst e
          dsimp only at h
          refine J_seg ok_X6_text 35 1 (pc' := 60) (ls' := [(2, .inl x2)]) (st' := [.inl x2]) rfl ?_
          have h := Option.some.inj h
          subst h
          exact hR _ _ (jat ok_X6_text 36 (pc := 60) (i := .ireturn) (n := 1) rfl rfl)
      · have h := (if_neg c).symm.trans h
        refine J_seg ok_X6_text 10 2 (pc' := 21) (ls' := [(0, .inr (.inr (.inl x0))), (1, .inl x1), (2, .inl x2)]) (st' := [.inl 5, .inr (.inr (.inl x0))]) rfl ?_
        by_cases c17 : qO q1.2 x0 6 = true
        case neg => exact absurd ((if_neg c17).symm.trans h) (by simp)
        have h := (if_pos c17).symm.trans h
        obtain ⟨q15, h16, h⟩ := Option.bind_eq_some_iff.mp h
        refine J_callV (md' := md_X6_find) (As := [.inl 5]) (st := []) (cs' := (0, 0)) (st' := [.inl q15.1]) (jat ok_X6_text 12 (pc := 21) (i := .invokevirtual 81) (n := 3) rfl rfl) ml_RX6_81 yv_X6_find c17 (c_X6_find l g (d + 1) h16) (jRo_of (by decide)) (Nat.le_of_ble_eq_true rfl) ⟨Nat.le_of_ble_eq_true rfl, Nat.le_of_ble_eq_true rfl⟩ rfl rfl rfl ?_
        have h := Option.some.inj h
        subst h
        exact hR _ _ (jat ok_X6_text 13 (pc := 24) (i := .ireturn) (n := 1) rfl rfl)
    · have h := (if_neg c).symm.trans h
      refine J_seg ok_X6_text 6 1 (pc' := 14) (ls' := [(0, .inr (.inr (.inl x0))), (1, .inl x1), (2, .inl x2)]) (st' := [.inl (-1)]) rfl ?_
      have h := Option.some.inj h
      subst h
      exact hR _ _ (jat ok_X6_text 7 (pc := 14) (i := .ireturn) (n := 1) rfl rfl)
theorem c_X6_text (l : Launch) (g : GX) (d : Nat) {x0 : Option Nat} {x1 : Int32} {x2 : Int32} {ah : AH} {q : Int32 × AH} (h : f_X6_text x0 x1 x2 ah = some q) : jM l g (d + 2) md_X6_text [.inr (.inr (.inl x0)), .inl x1, .inl x2] ah (some (.inl q.1)) q.2 :=
  jM_of (by decide) (Nat.le_of_ble_eq_true rfl) (k_X6_text d ah q h (fun pc ls hd => J_reti hd rfl (jPV_int _) rfl (Nat.le_refl _) rfl rfl))
