def f_X0_init (x0 : Nat) (ah : AH) : Option (Unit × AH) :=
  (sF (ah ++ [.inl (List.replicate (Int32.toNatClampNeg 320) 0)]) (some x0) 0 0 (.inr (.inr (.inl (some ah.length))))).bind fun a1 => (sF (a1 ++ [.inl (List.replicate (Int32.toNatClampNeg 6) 0)]) (some x0) 0 1 (.inr (.inr (.inl (some a1.length))))).bind fun a3 => (sF (a3 ++ [.inl (List.replicate (Int32.toNatClampNeg 64) 0)]) (some x0) 0 2 (.inr (.inr (.inl (some a3.length))))).bind fun a5 => some ((), a5)
set_option maxRecDepth 100000 in
set_option maxHeartbeats 4000000 in
theorem k_X0_init {l : Launch} {g : GX} (d : Nat) {Q : jQ} {x0 : Nat} (ah : AH) (out : Unit × AH) (h : f_X0_init x0 ah = some out) (hR : jRetV l g md_X0_init (jRm (d + 1) md_X0_init) Q (3, 390) out.1 out.2) : J l g md_X0_init (jRm (d + 1) md_X0_init) Q 0 [(0, .inr (.inr (.inl (some x0))))] [] ah (0, 0) := by
  unfold f_X0_init at h
  refine J_seg ok_X0_init 0 1 (pc' := 1) (ls' := [(0, .inr (.inr (.inl (some x0))))]) (st' := [.inr (.inr (.inl (some x0)))]) rfl ?_
  refine J_obj (jat ok_X0_init 1 (pc := 1) (i := .invokespecial 3) (n := 3) rfl rfl) mo_RX0_3 oi_i oi_c ⟨by show 1 ≤ d + 1; omega, by show 20 ≤ 64 * (d + 1); omega⟩ (Nat.le_of_ble_eq_true rfl) ?_
  refine J_seg ok_X0_init 2 2 (pc' := 8) (ls' := [(0, .inr (.inr (.inl (some x0))))]) (st' := [.inl 320, .inr (.inr (.inl (some x0)))]) rfl ?_
  refine J_newA (cs' := (1, 320)) (jat ok_X0_init 4 (pc := 8) (i := .newarray .int) (n := 2) rfl rfl) (by decide) (by decide) ac_int (by decide) ⟨Nat.le_of_ble_eq_true rfl, Nat.le_of_ble_eq_true rfl⟩ ?_
  obtain ⟨a1, h2, h⟩ := Option.bind_eq_some_iff.mp h
  refine J_put (jat ok_X0_init 5 (pc := 10) (i := .putfield 9) (n := 3) rfl rfl) fp_RX0_9_i (jPV_arr _ _) h2 ?_
  refine J_seg ok_X0_init 6 2 (pc' := 16) (ls' := [(0, .inr (.inr (.inl (some x0))))]) (st' := [.inl 6, .inr (.inr (.inl (some x0)))]) rfl ?_
  refine J_newA (cs' := (2, 326)) (jat ok_X0_init 8 (pc := 16) (i := .newarray .int) (n := 2) rfl rfl) (by decide) (by decide) ac_int (by decide) ⟨Nat.le_of_ble_eq_true rfl, Nat.le_of_ble_eq_true rfl⟩ ?_
  obtain ⟨a3, h4, h⟩ := Option.bind_eq_some_iff.mp h
  refine J_put (jat ok_X0_init 9 (pc := 18) (i := .putfield 15) (n := 3) rfl rfl) fp_RX0_15_i (jPV_arr _ _) h4 ?_
  refine J_seg ok_X0_init 10 2 (pc' := 24) (ls' := [(0, .inr (.inr (.inl (some x0))))]) (st' := [.inl 64, .inr (.inr (.inl (some x0)))]) rfl ?_
  refine J_newA (cs' := (3, 390)) (jat ok_X0_init 12 (pc := 24) (i := .newarray .int) (n := 2) rfl rfl) (by decide) (by decide) ac_int (by decide) ⟨Nat.le_of_ble_eq_true rfl, Nat.le_of_ble_eq_true rfl⟩ ?_
  obtain ⟨a5, h6, h⟩ := Option.bind_eq_some_iff.mp h
  refine J_put (jat ok_X0_init 13 (pc := 26) (i := .putfield 18) (n := 3) rfl rfl) fp_RX0_18_i (jPV_arr _ _) h6 ?_
  have h := Option.some.inj h
  subst h
  exact hR _ _ (jat ok_X0_init 14 (pc := 29) (i := .return_) (n := 1) rfl rfl)
theorem c_X0_init (l : Launch) (g : GX) (d : Nat) {x0 : Nat} {ah : AH} {q : Unit × AH} (h : f_X0_init x0 ah = some q) : jM l g (d + 1) md_X0_init [.inr (.inr (.inl (some x0)))] ah none q.2 :=
  jM_of (by decide) (Nat.le_of_ble_eq_true rfl) (k_X0_init d ah q h (fun pc ls hd => J_retv hd rfl rfl (Nat.le_refl _) rfl rfl))
def f_J6_bitCount_0f7a4 (x0 : Int32) (ah : AH) : Option (Int32 × AH) :=
  (some (((x0 - (((x0.toUInt32 >>> (Int32.toUInt32 1 &&& Int32.toUInt32 31)).toInt32) &&& 1431655765)) &&& 858993459) + ((((x0 - (((x0.toUInt32 >>> (Int32.toUInt32 1 &&& Int32.toUInt32 31)).toInt32) &&& 1431655765)).toUInt32 >>> (Int32.toUInt32 2 &&& Int32.toUInt32 31)).toInt32) &&& 858993459))).bind fun v1 => (some (((v1 + ((v1.toUInt32 >>> (Int32.toUInt32 4 &&& Int32.toUInt32 31)).toInt32)) &&& 252645135) + ((((v1 + ((v1.toUInt32 >>> (Int32.toUInt32 4 &&& Int32.toUInt32 31)).toInt32)) &&& 252645135).toUInt32 >>> (Int32.toUInt32 8 &&& Int32.toUInt32 31)).toInt32))).bind fun v3 => some ((v3 + ((v3.toUInt32 >>> (Int32.toUInt32 16 &&& Int32.toUInt32 31)).toInt32)) &&& 63, ah)
set_option maxRecDepth 100000 in
set_option maxHeartbeats 4000000 in
theorem k_J6_bitCount_0f7a4 {l : Launch} {g : GX} (d : Nat) {Q : jQ} {x0 : Int32} (ah : AH) (out : Int32 × AH) (h : f_J6_bitCount_0f7a4 x0 ah = some out) (hR : jRetI l g md_J6_bitCount_0f7a4 (jRm (d + 0) md_J6_bitCount_0f7a4) Q (0, 0) out.1 out.2) : J l g md_J6_bitCount_0f7a4 (jRm (d + 0) md_J6_bitCount_0f7a4) Q 0 [(0, .inl x0)] [] ah (0, 0) := by
  unfold f_J6_bitCount_0f7a4 at h
  refine J_seg ok_J6_bitCount_0f7a4 0 4 (pc' := 4) (ls' := [(0, .inl x0)]) (st' := [.inl ((x0.toUInt32 >>> (Int32.toUInt32 1 &&& Int32.toUInt32 31)).toInt32), .inl x0]) rfl ?_
  refine J_ldcw (jat ok_J6_bitCount_0f7a4 4 (pc := 4) (i := .ldc_w 265) (n := 3) rfl rfl) lc_RJ6_265 ?_
  refine J_seg ok_J6_bitCount_0f7a4 5 4 (pc' := 11) (ls' := [(0, .inl (x0 - (((x0.toUInt32 >>> (Int32.toUInt32 1 &&& Int32.toUInt32 31)).toInt32) &&& 1431655765)))]) (st' := [.inl (x0 - (((x0.toUInt32 >>> (Int32.toUInt32 1 &&& Int32.toUInt32 31)).toInt32) &&& 1431655765))]) rfl ?_
  refine J_ldcw (jat ok_J6_bitCount_0f7a4 9 (pc := 11) (i := .ldc_w 266) (n := 3) rfl rfl) lc_RJ6_266 ?_
  refine J_seg ok_J6_bitCount_0f7a4 10 4 (pc' := 18) (ls' := [(0, .inl (x0 - (((x0.toUInt32 >>> (Int32.toUInt32 1 &&& Int32.toUInt32 31)).toInt32) &&& 1431655765)))]) (st' := [.inl (((x0 - (((x0.toUInt32 >>> (Int32.toUInt32 1 &&& Int32.toUInt32 31)).toInt32) &&& 1431655765)).toUInt32 >>> (Int32.toUInt32 2 &&& Int32.toUInt32 31)).toInt32), .inl ((x0 - (((x0.toUInt32 >>> (Int32.toUInt32 1 &&& Int32.toUInt32 31)).toInt32) &&& 1431655765)) &&& 858993459)]) rfl ?_
  refine J_ldcw (jat ok_J6_bitCount_0f7a4 14 (pc := 18) (i := .ldc_w 266) (n := 3) rfl rfl) lc_RJ6_266 ?_
  refine J_seg ok_J6_bitCount_0f7a4 15 3 (pc' := 24) (ls' := [(0, .inl (((x0 - (((x0.toUInt32 >>> (Int32.toUInt32 1 &&& Int32.toUInt32 31)).toInt32) &&& 1431655765)) &&& 858993459) + ((((x0 - (((x0.toUInt32 >>> (Int32.toUInt32 1 &&& Int32.toUInt32 31)).toInt32) &&& 1431655765)).toUInt32 >>> (Int32.toUInt32 2 &&& Int32.toUInt32 31)).toInt32) &&& 858993459)))]) (st' := []) rfl ?_
  obtain ⟨v1, h2, h⟩ := Option.bind_eq_some_iff.mp h
  rw [Option.some.inj h2]
  refine J_seg ok_J6_bitCount_0f7a4 18 5 (pc' := 29) (ls' := [(0, .inl v1)]) (st' := [.inl (v1 + ((v1.toUInt32 >>> (Int32.toUInt32 4 &&& Int32.toUInt32 31)).toInt32))]) rfl ?_
  refine J_ldcw (jat ok_J6_bitCount_0f7a4 23 (pc := 29) (i := .ldc_w 267) (n := 3) rfl rfl) lc_RJ6_267 ?_
  refine J_seg ok_J6_bitCount_0f7a4 24 8 (pc' := 41) (ls' := [(0, .inl (((v1 + ((v1.toUInt32 >>> (Int32.toUInt32 4 &&& Int32.toUInt32 31)).toInt32)) &&& 252645135) + ((((v1 + ((v1.toUInt32 >>> (Int32.toUInt32 4 &&& Int32.toUInt32 31)).toInt32)) &&& 252645135).toUInt32 >>> (Int32.toUInt32 8 &&& Int32.toUInt32 31)).toInt32)))]) (st' := []) rfl ?_
  obtain ⟨v3, h4, h⟩ := Option.bind_eq_some_iff.mp h
  rw [Option.some.inj h4]
  refine J_seg ok_J6_bitCount_0f7a4 32 9 (pc' := 52) (ls' := [(0, .inl (v3 + ((v3.toUInt32 >>> (Int32.toUInt32 16 &&& Int32.toUInt32 31)).toInt32)))]) (st' := [.inl ((v3 + ((v3.toUInt32 >>> (Int32.toUInt32 16 &&& Int32.toUInt32 31)).toInt32)) &&& 63)]) rfl ?_
  have h := Option.some.inj h
  subst h
  exact hR _ _ (jat ok_J6_bitCount_0f7a4 41 (pc := 52) (i := .ireturn) (n := 1) rfl rfl)
theorem c_J6_bitCount_0f7a4 (l : Launch) (g : GX) (d : Nat) {x0 : Int32} {ah : AH} {q : Int32 × AH} (h : f_J6_bitCount_0f7a4 x0 ah = some q) : jM l g (d + 0) md_J6_bitCount_0f7a4 [.inl x0] ah (some (.inl q.1)) q.2 :=
  jM_of (by decide) (Nat.le_of_ble_eq_true rfl) (k_J6_bitCount_0f7a4 d ah q h (fun pc ls hd => J_reti hd rfl (jPV_int _) rfl (Nat.le_refl _) rfl rfl))
def f_X0_add (x0 : Option Nat) (x1 : Int32) (x2 : Int32) (ah : AH) : Option (Unit × AH) :=
  if x1 = 0 then ((gI ah x0 0 3).bind fun v1 => if v1 < 0 then (some ((), ah)) else ((gI ah x0 0 3).bind fun v3 => if 320 ≤ v3 then (some ((), ah)) else ((gR ah x0 0 0).bind fun v5 => (gI ah x0 0 3).bind fun v7 => (sA ah v5 v7 x2).bind fun a9 => (gI a9 x0 0 3).bind fun v11 => (sF a9 x0 0 3 (.inl (v11 + 1))).bind fun a13 => some ((), a13)))) else (some ((), ah))
set_option maxRecDepth 100000 in
set_option maxHeartbeats 4000000 in
theorem k_X0_add {l : Launch} {g : GX} (d : Nat) {Q : jQ} {x0 : Option Nat} {x1 : Int32} {x2 : Int32} (ah : AH) (out : Unit × AH) (h : f_X0_add x0 x1 x2 ah = some out) (hR : jRetV l g md_X0_add (jRm (d + 0) md_X0_add) Q (0, 0) out.1 out.2) : J l g md_X0_add (jRm (d + 0) md_X0_add) Q 0 [(0, .inr (.inr (.inl x0))), (1, .inl x1), (2, .inl x2)] [] ah (0, 0) := by
  unfold f_X0_add at h
  refine J_seg ok_X0_add 0 1 (pc' := 1) (ls' := [(0, .inr (.inr (.inl x0))), (1, .inl x1), (2, .inl x2)]) (st' := [.inl x1]) rfl ?_
  refine J_ne0 (jat ok_X0_add 1 (pc := 1) (i := .ifCond .ne 40) (n := 3) rfl rfl) (tgt := 41) (by decide) (fun c => ?_) (fun c => ?_)
  · have h := (if_neg c).symm.trans h
    have h := Option.some.inj h
    subst h
    exact hR _ _ (jat ok_X0_add 21 (pc := 41) (i := .return_) (n := 1) rfl rfl)
  · have h := (if_pos c).symm.trans h
    refine J_seg ok_X0_add 2 1 (pc' := 5) (ls' := [(0, .inr (.inr (.inl x0))), (1, .inl x1), (2, .inl x2)]) (st' := [.inr (.inr (.inl x0))]) rfl ?_
    obtain ⟨v1, h2, h⟩ := Option.bind_eq_some_iff.mp h
    refine J_getI (jat ok_X0_add 3 (pc := 5) (i := .getfield 21) (n := 3) rfl rfl) fl_RX0_21 h2 ?_
    refine J_lt0 (jat ok_X0_add 4 (pc := 8) (i := .ifCond .lt 33) (n := 3) rfl rfl) (tgt := 41) (by decide) (fun c => ?_) (fun c => ?_)
    · have h := (if_pos c).symm.trans h
      have h := Option.some.inj h
      subst h
      exact hR _ _ (jat ok_X0_add 21 (pc := 41) (i := .return_) (n := 1) rfl rfl)
    · have h := (if_neg c).symm.trans h
      refine J_seg ok_X0_add 5 1 (pc' := 12) (ls' := [(0, .inr (.inr (.inl x0))), (1, .inl x1), (2, .inl x2)]) (st' := [.inr (.inr (.inl x0))]) rfl ?_
      obtain ⟨v3, h4, h⟩ := Option.bind_eq_some_iff.mp h
      refine J_getI (jat ok_X0_add 6 (pc := 12) (i := .getfield 21) (n := 3) rfl rfl) fl_RX0_21 h4 ?_
      refine J_seg ok_X0_add 7 1 (pc' := 18) (ls' := [(0, .inr (.inr (.inl x0))), (1, .inl x1), (2, .inl x2)]) (st' := [.inl 320, .inl v3]) rfl ?_
      refine J_ge (jat ok_X0_add 8 (pc := 18) (i := .if_icmp .ge 23) (n := 3) rfl rfl) (tgt := 41) (by decide) (fun c => ?_) (fun c => ?_)
      · have h := (if_pos c).symm.trans h
        have h := Option.some.inj h
        subst h
        exact hR _ _ (jat ok_X0_add 21 (pc := 41) (i := .return_) (n := 1) rfl rfl)
      · have h := (if_neg c).symm.trans h
        refine J_seg ok_X0_add 9 1 (pc' := 22) (ls' := [(0, .inr (.inr (.inl x0))), (1, .inl x1), (2, .inl x2)]) (st' := [.inr (.inr (.inl x0))]) rfl ?_
        obtain ⟨v5, h6, h⟩ := Option.bind_eq_some_iff.mp h
        refine J_getR (jat ok_X0_add 10 (pc := 22) (i := .getfield 9) (n := 3) rfl rfl) fl_RX0_9 h6 ?_
        refine J_seg ok_X0_add 11 1 (pc' := 26) (ls' := [(0, .inr (.inr (.inl x0))), (1, .inl x1), (2, .inl x2)]) (st' := [.inr (.inr (.inl x0)), .inr (.inr (.inl v5))]) rfl ?_
        obtain ⟨v7, h8, h⟩ := Option.bind_eq_some_iff.mp h
        refine J_getI (jat ok_X0_add 12 (pc := 26) (i := .getfield 21) (n := 3) rfl rfl) fl_RX0_21 h8 ?_
        refine J_seg ok_X0_add 13 1 (pc' := 30) (ls' := [(0, .inr (.inr (.inl x0))), (1, .inl x1), (2, .inl x2)]) (st' := [.inl x2, .inl v7, .inr (.inr (.inl v5))]) rfl ?_
        obtain ⟨a9, h10, h⟩ := Option.bind_eq_some_iff.mp h
        refine J_iast (jat ok_X0_add 14 (pc := 30) (i := .iastore) (n := 1) rfl rfl) h10 ?_
        refine J_seg ok_X0_add 15 2 (pc' := 33) (ls' := [(0, .inr (.inr (.inl x0))), (1, .inl x1), (2, .inl x2)]) (st' := [.inr (.inr (.inl x0)), .inr (.inr (.inl x0))]) rfl ?_
        obtain ⟨v11, h12, h⟩ := Option.bind_eq_some_iff.mp h
        refine J_getI (jat ok_X0_add 17 (pc := 33) (i := .getfield 21) (n := 3) rfl rfl) fl_RX0_21 h12 ?_
        refine J_seg ok_X0_add 18 2 (pc' := 38) (ls' := [(0, .inr (.inr (.inl x0))), (1, .inl x1), (2, .inl x2)]) (st' := [.inl (v11 + 1), .inr (.inr (.inl x0))]) rfl ?_
        obtain ⟨a13, h14, h⟩ := Option.bind_eq_some_iff.mp h
        refine J_put (jat ok_X0_add 20 (pc := 38) (i := .putfield 21) (n := 3) rfl rfl) (fp_RX0_21 _) (jPV_int _) h14 ?_
        have h := Option.some.inj h
        subst h
        exact hR _ _ (jat ok_X0_add 21 (pc := 41) (i := .return_) (n := 1) rfl rfl)
theorem c_X0_add (l : Launch) (g : GX) (d : Nat) {x0 : Option Nat} {x1 : Int32} {x2 : Int32} {ah : AH} {q : Unit × AH} (h : f_X0_add x0 x1 x2 ah = some q) : jM l g (d + 0) md_X0_add [.inr (.inr (.inl x0)), .inl x1, .inl x2] ah none q.2 :=
  jM_of (by decide) (Nat.le_of_ble_eq_true rfl) (k_X0_add d ah q h (fun pc ls hd => J_retv hd rfl rfl (Nat.le_refl _) rfl rfl))
def f_X5_isIn (x0 : Int32) (x1 : Int32) (ah : AH) : Option (Int32 × AH) :=
  if x1 < 0 then (some (0, ah)) else (if 6 ≤ x1 then (some (0, ah)) else (if ((x0 >>> (x1 &&& 31)) &&& 1) = 1 then (some (1, ah)) else (some (0, ah))))
set_option maxRecDepth 100000 in
set_option maxHeartbeats 4000000 in
theorem k_X5_isIn {l : Launch} {g : GX} (d : Nat) {Q : jQ} {x0 : Int32} {x1 : Int32} (ah : AH) (out : Int32 × AH) (h : f_X5_isIn x0 x1 ah = some out) (hR : jRetZ l g md_X5_isIn (jRm (d + 0) md_X5_isIn) Q (0, 0) out.1 out.2) : J l g md_X5_isIn (jRm (d + 0) md_X5_isIn) Q 0 [(0, .inl x0), (1, .inl x1)] [] ah (0, 0) := by
  unfold f_X5_isIn at h
  refine J_seg ok_X5_isIn 0 1 (pc' := 1) (ls' := [(0, .inl x0), (1, .inl x1)]) (st' := [.inl x1]) rfl ?_
  refine J_lt0 (jat ok_X5_isIn 1 (pc := 1) (i := .ifCond .lt 22) (n := 3) rfl rfl) (tgt := 23) (by decide) (fun c => ?_) (fun c => ?_)
  · have h := (if_pos c).symm.trans h
    refine J_seg ok_X5_isIn 14 1 (pc' := 24) (ls' := [(0, .inl x0), (1, .inl x1)]) (st' := [.inl 0]) rfl ?_
    have h := Option.some.inj h
    subst h
    exact hR _ _ (jat ok_X5_isIn 15 (pc := 24) (i := .ireturn) (n := 1) rfl rfl) (Or.inl rfl)
  · have h := (if_neg c).symm.trans h
    refine J_seg ok_X5_isIn 2 2 (pc' := 7) (ls' := [(0, .inl x0), (1, .inl x1)]) (st' := [.inl 6, .inl x1]) rfl ?_
    refine J_ge (jat ok_X5_isIn 4 (pc := 7) (i := .if_icmp .ge 16) (n := 3) rfl rfl) (tgt := 23) (by decide) (fun c => ?_) (fun c => ?_)
    · have h := (if_pos c).symm.trans h
      refine J_seg ok_X5_isIn 14 1 (pc' := 24) (ls' := [(0, .inl x0), (1, .inl x1)]) (st' := [.inl 0]) rfl ?_
      have h := Option.some.inj h
      subst h
      exact hR _ _ (jat ok_X5_isIn 15 (pc := 24) (i := .ireturn) (n := 1) rfl rfl) (Or.inl rfl)
    · have h := (if_neg c).symm.trans h
      refine J_seg ok_X5_isIn 5 6 (pc' := 16) (ls' := [(0, .inl x0), (1, .inl x1)]) (st' := [.inl 1, .inl ((x0 >>> (x1 &&& 31)) &&& 1)]) rfl ?_
      refine J_ne (jat ok_X5_isIn 11 (pc := 16) (i := .if_icmp .ne 7) (n := 3) rfl rfl) (tgt := 23) (by decide) (fun c => ?_) (fun c => ?_)
      · have h := (if_neg c).symm.trans h
        refine J_seg ok_X5_isIn 14 1 (pc' := 24) (ls' := [(0, .inl x0), (1, .inl x1)]) (st' := [.inl 0]) rfl ?_
        have h := Option.some.inj h
        subst h
        exact hR _ _ (jat ok_X5_isIn 15 (pc := 24) (i := .ireturn) (n := 1) rfl rfl) (Or.inl rfl)
      · have h := (if_pos c).symm.trans h
        refine J_seg ok_X5_isIn 12 2 (pc' := 24) (ls' := [(0, .inl x0), (1, .inl x1)]) (st' := [.inl 1]) rfl ?_
        have h := Option.some.inj h
        subst h
        exact hR _ _ (jat ok_X5_isIn 15 (pc := 24) (i := .ireturn) (n := 1) rfl rfl) (Or.inr rfl)
theorem c_X5_isIn (l : Launch) (g : GX) (d : Nat) {x0 : Int32} {x1 : Int32} {ah : AH} {q : Int32 × AH} (h : f_X5_isIn x0 x1 ah = some q) : jM l g (d + 0) md_X5_isIn [.inl x0, .inl x1] ah (some (.inl q.1)) q.2 :=
  jM_of (by decide) (Nat.le_of_ble_eq_true rfl) (k_X5_isIn d ah q h (fun pc ls hd c => J_reti hd rfl (jPV_z c) rfl (Nat.le_refl _) rfl rfl))
def f_X0_drawS_j22 (rc : Option Nat → Int32 → Int32 → Int32 → AH → Option (Unit × AH)) (x0 : Option Nat) (x2 : Int32) (x3 : Int32) (ah : AH) : Option (Unit × AH) :=
  if qO ah x0 0 = true then ((f_X0_add x0 x2 x3 ah).bind fun q3 => some ((), q3.2)) else none
set_option maxRecDepth 100000 in
set_option maxHeartbeats 4000000 in
theorem k_X0_draw_j22 {l : Launch} {g : GX} (d : Nat) {Q : jQ} {rc : Option Nat → Int32 → Int32 → Int32 → AH → Option (Unit × AH)} (hrc : ∀ x0 x1 x2 x3 ah q, rc x0 x1 x2 x3 ah = some q → jM l g (d + 1) md_X0_draw [.inr (.inr (.inl x0)), .inl x1, .inl x2, .inl x3] ah none q.2) {x0 : Option Nat} {x2 : Int32} {x3 : Int32} (ah : AH) (out : Unit × AH) (h : f_X0_drawS_j22 rc x0 x2 x3 ah = some out) (hR : jRetV l g md_X0_draw (jRm (d + 2) md_X0_draw) Q (0, 0) out.1 out.2) : J l g md_X0_draw (jRm (d + 2) md_X0_draw) Q 22 [(0, .inr (.inr (.inl x0))), (2, .inl x2), (3, .inl x3)] [] ah (0, 0) := by
  unfold f_X0_drawS_j22 at h
  refine J_seg ok_X0_draw 11 3 (pc' := 25) (ls' := [(0, .inr (.inr (.inl x0))), (2, .inl x2), (3, .inl x3)]) (st' := [.inl x3, .inl x2, .inr (.inr (.inl x0))]) rfl ?_
  by_cases c5 : qO ah x0 0 = true
  case neg => exact absurd ((if_neg c5).symm.trans h) (by simp)
  have h := (if_pos c5).symm.trans h
  obtain ⟨q3, h4, h⟩ := Option.bind_eq_some_iff.mp h
  refine J_callV (md' := md_X0_add) (As := [.inl x2, .inl x3]) (st := []) (cs' := (0, 0)) (st' := []) (jat ok_X0_draw 14 (pc := 25) (i := .invokevirtual 39) (n := 3) rfl rfl) ml_RX0_39 yv_X0_add c5 (c_X0_add l g (d + 1) h4) (jRo_of (by decide)) (Nat.le_of_ble_eq_true rfl) ⟨Nat.le_of_ble_eq_true rfl, Nat.le_of_ble_eq_true rfl⟩ rfl rfl rfl ?_
  have h := Option.some.inj h
  subst h
  exact hR _ _ (jat ok_X0_draw 15 (pc := 28) (i := .return_) (n := 1) rfl rfl)
def f_X0_drawS_b44 (rc : Option Nat → Int32 → Int32 → Int32 → AH → Option (Unit × AH)) (k0 : Option Nat) (k1 : Int32) (k2 : Int32) (k3 : Int32) (k4 : Int32) (k5 : Int32) (s44 : Int32) (ah : AH) : Option ((Unit × AH) ⊕ (((Unit) × AH) ⊕ ((Int32) × AH))) :=
  if k4 ≤ s44 then (some (.inr (.inl ((), ah)))) else ((f_X5_isIn k5 s44 ah).bind fun q10 => if q10.1 = 0 then (some (.inr (.inr (s44 + 1, q10.2)))) else ((rc k0 (k1 + 1) (k2 &&& ((1 <<< (s44 &&& 31)) ^^^ (-1))) (k3 ||| (s44 <<< ((3 * k1) &&& 31))) q10.2).bind fun q12 => some (.inr (.inr (s44 + 1, q12.2)))))
set_option maxRecDepth 100000 in
set_option maxHeartbeats 4000000 in
theorem k_X0_draw_b44 {l : Launch} {g : GX} (d : Nat) {Q : jQ} {rc : Option Nat → Int32 → Int32 → Int32 → AH → Option (Unit × AH)} (hrc : ∀ x0 x1 x2 x3 ah q, rc x0 x1 x2 x3 ah = some q → jM l g (d + 1) md_X0_draw [.inr (.inr (.inl x0)), .inl x1, .inl x2, .inl x3] ah none q.2) {k0 : Option Nat} {k1 : Int32} {k2 : Int32} {k3 : Int32} {k4 : Int32} {k5 : Int32} (s44 : Int32) (ah : AH) (out : (Unit × AH) ⊕ (((Unit) × AH) ⊕ ((Int32) × AH))) (h : f_X0_drawS_b44 rc k0 k1 k2 k3 k4 k5 s44 ah = some out) (hR : ∀ q, out = .inl q → jRetN q.1 q.2) (hX : ∀ q, out = .inr (.inl q) → J l g md_X0_draw (jRm (d + 2) md_X0_draw) Q 90 [(0, .inr (.inr (.inl k0))), (1, .inl k1), (2, .inl k2), (3, .inl k3), (4, .inl k4)] [] q.2 (0, 0)) (hN : ∀ q, out = .inr (.inr q) → J l g md_X0_draw (jRm (d + 2) md_X0_draw) Q 44 [(0, .inr (.inr (.inl k0))), (1, .inl k1), (2, .inl k2), (3, .inl k3), (4, .inl k4), (5, .inl k5), (6, .inl q.1)] [] q.2 (0, 0)) : J l g md_X0_draw (jRm (d + 2) md_X0_draw) Q 44 [(0, .inr (.inr (.inl k0))), (1, .inl k1), (2, .inl k2), (3, .inl k3), (4, .inl k4), (5, .inl k5), (6, .inl s44)] [] ah (0, 0) := by
  unfold f_X0_drawS_b44 at h
  refine J_seg ok_X0_draw 27 2 (pc' := 48) (ls' := [(0, .inr (.inr (.inl k0))), (1, .inl k1), (2, .inl k2), (3, .inl k3), (4, .inl k4), (5, .inl k5), (6, .inl s44)]) (st' := [.inl k4, .inl s44]) rfl ?_
  refine J_ge (jat ok_X0_draw 29 (pc := 48) (i := .if_icmp .ge 42) (n := 3) rfl rfl) (tgt := 90) (by decide) (fun c => ?_) (fun c => ?_)
  · have h := (if_pos c).symm.trans h
    exact J_sub (ls' := [(0, .inr (.inr (.inl k0))), (1, .inl k1), (2, .inl k2), (3, .inl k3), (4, .inl k4)]) [0, 1, 2, 3, 4] rfl (hX ((), ah) (Option.some.inj h).symm)
  · have h := (if_neg c).symm.trans h
    refine J_seg ok_X0_draw 30 2 (pc' := 55) (ls' := [(0, .inr (.inr (.inl k0))), (1, .inl k1), (2, .inl k2), (3, .inl k3), (4, .inl k4), (5, .inl k5), (6, .inl s44)]) (st' := [.inl s44, .inl k5]) rfl ?_
    obtain ⟨q10, h11, h⟩ := Option.bind_eq_some_iff.mp h
    refine J_callS (md' := md_X5_isIn) (As := [.inl k5, .inl s44]) (st := []) (cs' := (0, 0)) (st' := [.inl q10.1]) (jat ok_X0_draw 32 (pc := 55) (i := .invokestatic 43) (n := 3) rfl rfl) (Or.inr ⟨_, mn_RX0_43⟩) ys_X5_isIn (c_X5_isIn l g (d + 1) h11) (jRo_of (by decide)) (Nat.le_of_ble_eq_true rfl) ⟨Nat.le_of_ble_eq_true rfl, Nat.le_of_ble_eq_true rfl⟩ rfl rfl rfl ?_
    refine J_eq0 (jat ok_X0_draw 33 (pc := 58) (i := .ifCond .eq 26) (n := 3) rfl rfl) (tgt := 84) (by decide) (fun c => ?_) (fun c => ?_)
    · have h := (if_pos c).symm.trans h
      refine J_seg ok_X0_draw 53 2 (pc' := 44) (ls' := [(6, .inl (s44 + 1)), (0, .inr (.inr (.inl k0))), (1, .inl k1), (2, .inl k2), (3, .inl k3), (4, .inl k4), (5, .inl k5)]) (st' := []) rfl ?_
      exact J_sub (ls' := [(0, .inr (.inr (.inl k0))), (1, .inl k1), (2, .inl k2), (3, .inl k3), (4, .inl k4), (5, .inl k5), (6, .inl (s44 + 1))]) [1, 2, 3, 4, 5, 6, 0] rfl (hN (s44 + 1, q10.2) (Option.some.inj h).symm)
    · have h := (if_neg c).symm.trans h
      refine J_seg ok_X0_draw 34 18 (pc' := 81) (ls' := [(0, .inr (.inr (.inl k0))), (1, .inl k1), (2, .inl k2), (3, .inl k3), (4, .inl k4), (5, .inl k5), (6, .inl s44)]) (st' := [.inl (k3 ||| (s44 <<< ((3 * k1) &&& 31))), .inl (k2 &&& ((1 <<< (s44 &&& 31)) ^^^ (-1))), .inl (k1 + 1), .inr (.inr (.inl k0))]) rfl ?_
      obtain ⟨q12, h13, h⟩ := Option.bind_eq_some_iff.mp h
      refine J_callS (md' := md_X0_draw) (As := [.inr (.inr (.inl k0)), .inl (k1 + 1), .inl (k2 &&& ((1 <<< (s44 &&& 31)) ^^^ (-1))), .inl (k3 ||| (s44 <<< ((3 * k1) &&& 31)))]) (st := []) (cs' := (0, 0)) (st' := []) (jat ok_X0_draw 52 (pc := 81) (i := .invokestatic 35) (n := 3) rfl rfl) (Or.inl ml_RX0_35) ys_X0_draw (hrc _ _ _ _ _ _ h13) (jRo_of (by decide)) (Nat.le_of_ble_eq_true rfl) ⟨Nat.le_of_ble_eq_true rfl, Nat.le_of_ble_eq_true rfl⟩ rfl rfl rfl ?_
      refine J_seg ok_X0_draw 53 2 (pc' := 44) (ls' := [(6, .inl (s44 + 1)), (0, .inr (.inr (.inl k0))), (1, .inl k1), (2, .inl k2), (3, .inl k3), (4, .inl k4), (5, .inl k5)]) (st' := []) rfl ?_
      exact J_sub (ls' := [(0, .inr (.inr (.inl k0))), (1, .inl k1), (2, .inl k2), (3, .inl k3), (4, .inl k4), (5, .inl k5), (6, .inl (s44 + 1))]) [1, 2, 3, 4, 5, 6, 0] rfl (hN (s44 + 1, q12.2) (Option.some.inj h).symm)
def f_X0_drawS (rc : Option Nat → Int32 → Int32 → Int32 → AH → Option (Unit × AH)) (x0 : Option Nat) (x1 : Int32) (x2 : Int32) (x3 : Int32) (ah : AH) : Option (Unit × AH) :=
  (gI ah x0 0 4).bind fun v1 => if x1 < 0 then (f_X0_drawS_j22 rc x0 x2 x3 ah) else (if v1 ≤ x1 then (f_X0_drawS_j22 rc x0 x2 x3 ah) else (if x1 < 6 then ((gR ah x0 0 1).bind fun v6 => (gA ah v6 x1).bind fun v8 => (jloop (f_X0_drawS_b44 rc x0 x1 x2 x3 v1 (x2 &&& (v8 ^^^ (-1)))) jfuel 0 ah).bind fun q14 => match q14 with | .inl r => none | .inr z16 => (f_J6_bitCount_0f7a4 x2 z16.2).bind fun q18 => if (v1 - x1) ≤ q18.1 then (some ((), q18.2)) else ((rc x0 (x1 + 1) x2 (x3 ||| (7 <<< ((3 * x1) &&& 31))) q18.2).bind fun q20 => some ((), q20.2))) else (f_X0_drawS_j22 rc x0 x2 x3 ah)))
set_option maxRecDepth 100000 in
set_option maxHeartbeats 4000000 in
theorem k_X0_draw {l : Launch} {g : GX} (d : Nat) {Q : jQ} {rc : Option Nat → Int32 → Int32 → Int32 → AH → Option (Unit × AH)} (hrc : ∀ x0 x1 x2 x3 ah q, rc x0 x1 x2 x3 ah = some q → jM l g (d + 1) md_X0_draw [.inr (.inr (.inl x0)), .inl x1, .inl x2, .inl x3] ah none q.2) {x0 : Option Nat} {x1 : Int32} {x2 : Int32} {x3 : Int32} (ah : AH) (out : Unit × AH) (h : f_X0_drawS rc x0 x1 x2 x3 ah = some out) (hR : jRetV l g md_X0_draw (jRm (d + 2) md_X0_draw) Q (0, 0) out.1 out.2) : J l g md_X0_draw (jRm (d + 2) md_X0_draw) Q 0 [(0, .inr (.inr (.inl x0))), (1, .inl x1), (2, .inl x2), (3, .inl x3)] [] ah (0, 0) := by
  unfold f_X0_drawS at h
  refine J_seg ok_X0_draw 0 1 (pc' := 1) (ls' := [(0, .inr (.inr (.inl x0))), (1, .inl x1), (2, .inl x2), (3, .inl x3)]) (st' := [.inr (.inr (.inl x0))]) rfl ?_
  obtain ⟨v1, h2, h⟩ := Option.bind_eq_some_iff.mp h
  refine J_getI (jat ok_X0_draw 1 (pc := 1) (i := .getfield 30) (n := 3) rfl rfl) fl_RX0_30 h2 ?_
  refine J_seg ok_X0_draw 2 2 (pc' := 7) (ls' := [(4, .inl v1), (0, .inr (.inr (.inl x0))), (1, .inl x1), (2, .inl x2), (3, .inl x3)]) (st' := [.inl x1]) rfl ?_
  refine J_lt0 (jat ok_X0_draw 4 (pc := 7) (i := .ifCond .lt 15) (n := 3) rfl rfl) (tgt := 22) (by decide) (fun c => ?_) (fun c => ?_)
  · have h := (if_pos c).symm.trans h
    refine J_sub (ls' := [(0, .inr (.inr (.inl x0))), (2, .inl x2), (3, .inl x3)]) [1, 3, 4] rfl ?_
    exact k_X0_draw_j22 d hrc _ _ h hR
  · have h := (if_neg c).symm.trans h
    refine J_seg ok_X0_draw 5 2 (pc' := 13) (ls' := [(4, .inl v1), (0, .inr (.inr (.inl x0))), (1, .inl x1), (2, .inl x2), (3, .inl x3)]) (st' := [.inl v1, .inl x1]) rfl ?_
    refine J_ge (jat ok_X0_draw 7 (pc := 13) (i := .if_icmp .ge 9) (n := 3) rfl rfl) (tgt := 22) (by decide) (fun c => ?_) (fun c => ?_)
    · have h := (if_pos c).symm.trans h
      refine J_sub (ls' := [(0, .inr (.inr (.inl x0))), (2, .inl x2), (3, .inl x3)]) [1, 3, 4] rfl ?_
      exact k_X0_draw_j22 d hrc _ _ h hR
    · have h := (if_neg c).symm.trans h
      refine J_seg ok_X0_draw 8 2 (pc' := 19) (ls' := [(4, .inl v1), (0, .inr (.inr (.inl x0))), (1, .inl x1), (2, .inl x2), (3, .inl x3)]) (st' := [.inl 6, .inl x1]) rfl ?_
      refine J_lt (jat ok_X0_draw 10 (pc := 19) (i := .if_icmp .lt 10) (n := 3) rfl rfl) (tgt := 29) (by decide) (fun c => ?_) (fun c => ?_)
      · have h := (if_pos c).symm.trans h
        refine J_seg ok_X0_draw 16 2 (pc' := 31) (ls' := [(4, .inl v1), (0, .inr (.inr (.inl x0))), (1, .inl x1), (2, .inl x2), (3, .inl x3)]) (st' := [.inr (.inr (.inl x0)), .inl x2]) rfl ?_
        obtain ⟨v6, h7, h⟩ := Option.bind_eq_some_iff.mp h
        refine J_getR (jat ok_X0_draw 18 (pc := 31) (i := .getfield 15) (n := 3) rfl rfl) fl_RX0_15 h7 ?_
        refine J_seg ok_X0_draw 19 1 (pc' := 35) (ls' := [(4, .inl v1), (0, .inr (.inr (.inl x0))), (1, .inl x1), (2, .inl x2), (3, .inl x3)]) (st' := [.inl x1, .inr (.inr (.inl v6)), .inl x2]) rfl ?_
        obtain ⟨v8, h9, h⟩ := Option.bind_eq_some_iff.mp h
        refine J_iald (jat ok_X0_draw 20 (pc := 35) (i := .iaload) (n := 1) rfl rfl) h9 ?_
        refine J_seg ok_X0_draw 21 6 (pc' := 44) (ls' := [(6, .inl 0), (5, .inl (x2 &&& (v8 ^^^ (-1)))), (4, .inl v1), (0, .inr (.inr (.inl x0))), (1, .inl x1), (2, .inl x2), (3, .inl x3)]) (st' := []) rfl ?_
        obtain ⟨q14, h15, h⟩ := Option.bind_eq_some_iff.mp h
        refine J_sub (ls' := [(0, .inr (.inr (.inl x0))), (1, .inl x1), (2, .inl x2), (3, .inl x3), (4, .inl v1), (5, .inl (x2 &&& (v8 ^^^ (-1)))), (6, .inl 0)]) [3, 4, 5, 6, 2, 1, 0] rfl ?_
        refine J_loop (pE := 90) (lh := fun t17 => [(0, .inr (.inr (.inl x0))), (1, .inl x1), (2, .inl x2), (3, .inl x3), (4, .inl v1), (5, .inl (x2 &&& (v8 ^^^ (-1)))), (6, .inl t17)]) (lx := fun z16 => [(0, .inr (.inr (.inl x0))), (1, .inl x1), (2, .inl x2), (3, .inl x3), (4, .inl v1)]) (P := jRetN) (fun s ah out hb hR hX hN => k_X0_draw_b44 d hrc s ah out hb hR hX hN) jfuel 0 _ _ h15 (fun r e => ?_) (fun z16 e => ?_)
        · subst e
          dsimp only at h
          cases h
        · subst e
          dsimp only at h
          refine J_seg ok_X0_draw 55 4 (pc' := 95) (ls' := [(0, .inr (.inr (.inl x0))), (1, .inl x1), (2, .inl x2), (3, .inl x3), (4, .inl v1)]) (st' := [.inl x2, .inl (v1 - x1)]) rfl ?_
          obtain ⟨q18, h19, h⟩ := Option.bind_eq_some_iff.mp h
          refine J_callS (md' := md_J6_bitCount_0f7a4) (As := [.inl x2]) (st := [.inl (v1 - x1)]) (cs' := (0, 0)) (st' := [.inl q18.1, .inl (v1 - x1)]) (jat ok_X0_draw 59 (pc := 95) (i := .invokestatic 47) (n := 3) rfl rfl) (Or.inl ml_RX0_47) ys_J6_bitCount_0f7a4 (c_J6_bitCount_0f7a4 l g (d + 1) h19) (jRo_of (by decide)) (Nat.le_of_ble_eq_true rfl) ⟨Nat.le_of_ble_eq_true rfl, Nat.le_of_ble_eq_true rfl⟩ rfl rfl rfl ?_
          refine J_le (jat ok_X0_draw 60 (pc := 98) (i := .if_icmp .le 19) (n := 3) rfl rfl) (tgt := 117) (by decide) (fun c => ?_) (fun c => ?_)
          · have h := (if_pos c).symm.trans h
            have h := Option.some.inj h
            subst h
            exact hR _ _ (jat ok_X0_draw 74 (pc := 117) (i := .return_) (n := 1) rfl rfl)
          · have h := (if_neg c).symm.trans h
            refine J_seg ok_X0_draw 61 12 (pc' := 114) (ls' := [(0, .inr (.inr (.inl x0))), (1, .inl x1), (2, .inl x2), (3, .inl x3), (4, .inl v1)]) (st' := [.inl (x3 ||| (7 <<< ((3 * x1) &&& 31))), .inl x2, .inl (x1 + 1), .inr (.inr (.inl x0))]) rfl ?_
            obtain ⟨q20, h21, h⟩ := Option.bind_eq_some_iff.mp h
            refine J_callS (md' := md_X0_draw) (As := [.inr (.inr (.inl x0)), .inl (x1 + 1), .inl x2, .inl (x3 ||| (7 <<< ((3 * x1) &&& 31)))]) (st := []) (cs' := (0, 0)) (st' := []) (jat ok_X0_draw 73 (pc := 114) (i := .invokestatic 35) (n := 3) rfl rfl) (Or.inl ml_RX0_35) ys_X0_draw (hrc _ _ _ _ _ _ h21) (jRo_of (by decide)) (Nat.le_of_ble_eq_true rfl) ⟨Nat.le_of_ble_eq_true rfl, Nat.le_of_ble_eq_true rfl⟩ rfl rfl rfl ?_
            have h := Option.some.inj h
            subst h
            exact hR _ _ (jat ok_X0_draw 74 (pc := 117) (i := .return_) (n := 1) rfl rfl)
      · have h := (if_neg c).symm.trans h
        refine J_sub (ls' := [(0, .inr (.inr (.inl x0))), (2, .inl x2), (3, .inl x3)]) [1, 3, 4] rfl ?_
        exact k_X0_draw_j22 d hrc _ _ h hR
def fr_X0_draw : Nat → Option Nat → Int32 → Int32 → Int32 → AH → Option (Unit × AH)
  | 0 => fun _ _ _ _ _ => none
  | n + 1 => f_X0_drawS (fr_X0_draw n)
theorem cr_X0_draw (l : Launch) (g : GX) (d : Nat) : ∀ (n : Nat) (x0 : Option Nat) (x1 x2 x3 : Int32) (ah : AH) (q : Unit × AH), fr_X0_draw n x0 x1 x2 x3 ah = some q → jM l g (d + n + 1) md_X0_draw [.inr (.inr (.inl x0)), .inl x1, .inl x2, .inl x3] ah none q.2
  | 0, _, _, _, _, _, _, h => by cases h
  | n + 1, x0, x1, x2, x3, ah, q, h => jM_of (by decide) (Nat.le_of_ble_eq_true rfl) (k_X0_draw (d + n) (cr_X0_draw l g d n) ah q h (fun pc ls hd => J_retv hd rfl rfl (Nat.le_refl _) rfl rfl))
def f_X0_draw (x0 : Option Nat) (x1 x2 x3 : Int32) (ah : AH) : Option (Unit × AH) := fr_X0_draw 8 x0 x1 x2 x3 ah
theorem c_X0_draw (l : Launch) (g : GX) (d : Nat) {x0 : Option Nat} {x1 : Int32} {x2 : Int32} {x3 : Int32} {ah : AH} {q : Unit × AH} (h : f_X0_draw x0 x1 x2 x3 ah = some q) : jM l g (d + 9) md_X0_draw [.inr (.inr (.inl x0)), .inl x1, .inl x2, .inl x3] ah none q.2 :=
  cr_X0_draw l g d 8 x0 x1 x2 x3 ah q h
def f_X1_has (x0 : Option Nat) (x1 : Int32) (ah : AH) : Option (Int32 × AH) :=
  if x1 < 0 then (some (0, ah)) else ((gI ah x0 1 5).bind fun v1 => if v1 ≤ x1 then (some (0, ah)) else (if 6 ≤ x1 then (some (0, ah)) else (some (1, ah))))
set_option maxRecDepth 100000 in
set_option maxHeartbeats 4000000 in
theorem k_X1_has {l : Launch} {g : GX} (d : Nat) {Q : jQ} {x0 : Option Nat} {x1 : Int32} (ah : AH) (out : Int32 × AH) (h : f_X1_has x0 x1 ah = some out) (hR : jRetZ l g md_X1_has (jRm (d + 0) md_X1_has) Q (0, 0) out.1 out.2) : J l g md_X1_has (jRm (d + 0) md_X1_has) Q 0 [(0, .inr (.inr (.inl x0))), (1, .inl x1)] [] ah (0, 0) := by
  unfold f_X1_has at h
  refine J_seg ok_X1_has 0 1 (pc' := 1) (ls' := [(0, .inr (.inr (.inl x0))), (1, .inl x1)]) (st' := [.inl x1]) rfl ?_
  refine J_lt0 (jat ok_X1_has 1 (pc := 1) (i := .ifCond .lt 21) (n := 3) rfl rfl) (tgt := 22) (by decide) (fun c => ?_) (fun c => ?_)
  · have h := (if_pos c).symm.trans h
    refine J_seg ok_X1_has 11 1 (pc' := 23) (ls' := [(0, .inr (.inr (.inl x0))), (1, .inl x1)]) (st' := [.inl 0]) rfl ?_
    have h := Option.some.inj h
    subst h
    exact hR _ _ (jat ok_X1_has 12 (pc := 23) (i := .ireturn) (n := 1) rfl rfl) (Or.inl rfl)
  · have h := (if_neg c).symm.trans h
    refine J_seg ok_X1_has 2 2 (pc' := 6) (ls' := [(0, .inr (.inr (.inl x0))), (1, .inl x1)]) (st' := [.inr (.inr (.inl x0)), .inl x1]) rfl ?_
    obtain ⟨v1, h2, h⟩ := Option.bind_eq_some_iff.mp h
    refine J_getI (jat ok_X1_has 4 (pc := 6) (i := .getfield 27) (n := 3) rfl rfl) fl_RX1_27 h2 ?_
    refine J_ge (jat ok_X1_has 5 (pc := 9) (i := .if_icmp .ge 13) (n := 3) rfl rfl) (tgt := 22) (by decide) (fun c => ?_) (fun c => ?_)
    · have h := (if_pos c).symm.trans h
      refine J_seg ok_X1_has 11 1 (pc' := 23) (ls' := [(0, .inr (.inr (.inl x0))), (1, .inl x1)]) (st' := [.inl 0]) rfl ?_
      have h := Option.some.inj h
      subst h
      exact hR _ _ (jat ok_X1_has 12 (pc := 23) (i := .ireturn) (n := 1) rfl rfl) (Or.inl rfl)
    · have h := (if_neg c).symm.trans h
      refine J_seg ok_X1_has 6 2 (pc' := 15) (ls' := [(0, .inr (.inr (.inl x0))), (1, .inl x1)]) (st' := [.inl 6, .inl x1]) rfl ?_
      refine J_ge (jat ok_X1_has 8 (pc := 15) (i := .if_icmp .ge 7) (n := 3) rfl rfl) (tgt := 22) (by decide) (fun c => ?_) (fun c => ?_)
      · have h := (if_pos c).symm.trans h
        refine J_seg ok_X1_has 11 1 (pc' := 23) (ls' := [(0, .inr (.inr (.inl x0))), (1, .inl x1)]) (st' := [.inl 0]) rfl ?_
        have h := Option.some.inj h
        subst h
        exact hR _ _ (jat ok_X1_has 12 (pc := 23) (i := .ireturn) (n := 1) rfl rfl) (Or.inl rfl)
      · have h := (if_neg c).symm.trans h
        refine J_seg ok_X1_has 9 2 (pc' := 23) (ls' := [(0, .inr (.inr (.inl x0))), (1, .inl x1)]) (st' := [.inl 1]) rfl ?_
        have h := Option.some.inj h
        subst h
        exact hR _ _ (jat ok_X1_has 12 (pc := 23) (i := .ireturn) (n := 1) rfl rfl) (Or.inr rfl)
theorem c_X1_has (l : Launch) (g : GX) (d : Nat) {x0 : Option Nat} {x1 : Int32} {ah : AH} {q : Int32 × AH} (h : f_X1_has x0 x1 ah = some q) : jM l g (d + 0) md_X1_has [.inr (.inr (.inl x0)), .inl x1] ah (some (.inl q.1)) q.2 :=
  jM_of (by decide) (Nat.le_of_ble_eq_true rfl) (k_X1_has d ah q h (fun pc ls hd c => J_reti hd rfl (jPV_z c) rfl (Nat.le_refl _) rfl rfl))
def f_X1_lovedBy (x0 : Option Nat) (x1 : Int32) (ah : AH) : Option (Int32 × AH) :=
  if qO ah x0 1 = true then ((f_X1_has x0 x1 ah).bind fun q1 => if q1.1 = 0 then (some (0, q1.2)) else ((gR q1.2 x0 1 3).bind fun v4 => (gA q1.2 v4 x1).bind fun v6 => some (v6, q1.2))) else none
set_option maxRecDepth 100000 in
set_option maxHeartbeats 4000000 in
theorem k_X1_lovedBy {l : Launch} {g : GX} (d : Nat) {Q : jQ} {x0 : Option Nat} {x1 : Int32} (ah : AH) (out : Int32 × AH) (h : f_X1_lovedBy x0 x1 ah = some out) (hR : jRetI l g md_X1_lovedBy (jRm (d + 1) md_X1_lovedBy) Q (0, 0) out.1 out.2) : J l g md_X1_lovedBy (jRm (d + 1) md_X1_lovedBy) Q 0 [(0, .inr (.inr (.inl x0))), (1, .inl x1)] [] ah (0, 0) := by
  unfold f_X1_lovedBy at h
  refine J_seg ok_X1_lovedBy 0 2 (pc' := 2) (ls' := [(0, .inr (.inr (.inl x0))), (1, .inl x1)]) (st' := [.inl x1, .inr (.inr (.inl x0))]) rfl ?_
  by_cases c3 : qO ah x0 1 = true
  case neg => exact absurd ((if_neg c3).symm.trans h) (by simp)
  have h := (if_pos c3).symm.trans h
  obtain ⟨q1, h2, h⟩ := Option.bind_eq_some_iff.mp h
  refine J_callV (md' := md_X1_has) (As := [.inl x1]) (st := []) (cs' := (0, 0)) (st' := [.inl q1.1]) (jat ok_X1_lovedBy 2 (pc := 2) (i := .invokevirtual 34) (n := 3) rfl rfl) ml_RX1_34 yv_X1_has c3 (c_X1_has l g (d + 0) h2) (jRo_of (by decide)) (Nat.le_of_ble_eq_true rfl) ⟨Nat.le_of_ble_eq_true rfl, Nat.le_of_ble_eq_true rfl⟩ rfl rfl rfl ?_
  refine J_eq0 (jat ok_X1_lovedBy 3 (pc := 5) (i := .ifCond .eq 12) (n := 3) rfl rfl) (tgt := 17) (by decide) (fun c => ?_) (fun c => ?_)
  · have h := (if_pos c).symm.trans h
    refine J_seg ok_X1_lovedBy 9 1 (pc' := 18) (ls' := [(0, .inr (.inr (.inl x0))), (1, .inl x1)]) (st' := [.inl 0]) rfl ?_
    have h := Option.some.inj h
    subst h
    exact hR _ _ (jat ok_X1_lovedBy 10 (pc := 18) (i := .ireturn) (n := 1) rfl rfl)
  · have h := (if_neg c).symm.trans h
    refine J_seg ok_X1_lovedBy 4 1 (pc' := 9) (ls' := [(0, .inr (.inr (.inl x0))), (1, .inl x1)]) (st' := [.inr (.inr (.inl x0))]) rfl ?_
    obtain ⟨v4, h5, h⟩ := Option.bind_eq_some_iff.mp h
    refine J_getR (jat ok_X1_lovedBy 5 (pc := 9) (i := .getfield 21) (n := 3) rfl rfl) fl_RX1_21 h5 ?_
    refine J_seg ok_X1_lovedBy 6 1 (pc' := 13) (ls' := [(0, .inr (.inr (.inl x0))), (1, .inl x1)]) (st' := [.inl x1, .inr (.inr (.inl v4))]) rfl ?_
    obtain ⟨v6, h7, h⟩ := Option.bind_eq_some_iff.mp h
    refine J_iald (jat ok_X1_lovedBy 7 (pc := 13) (i := .iaload) (n := 1) rfl rfl) h7 ?_
    refine J_seg ok_X1_lovedBy 8 1 (pc' := 18) (ls' := [(0, .inr (.inr (.inl x0))), (1, .inl x1)]) (st' := [.inl v6]) rfl ?_
    have h := Option.some.inj h
    subst h
    exact hR _ _ (jat ok_X1_lovedBy 10 (pc := 18) (i := .ireturn) (n := 1) rfl rfl)
theorem c_X1_lovedBy (l : Launch) (g : GX) (d : Nat) {x0 : Option Nat} {x1 : Int32} {ah : AH} {q : Int32 × AH} (h : f_X1_lovedBy x0 x1 ah = some q) : jM l g (d + 1) md_X1_lovedBy [.inr (.inr (.inl x0)), .inl x1] ah (some (.inl q.1)) q.2 :=
  jM_of (by decide) (Nat.le_of_ble_eq_true rfl) (k_X1_lovedBy d ah q h (fun pc ls hd => J_reti hd rfl (jPV_int _) rfl (Nat.le_refl _) rfl rfl))
def f_X0_seek_b16_j47 (k0 : Option Nat) (k1 : Option Nat) (k2 : Int32) (k3 : Int32) (x4 : Int32) (y0 : Int32) (y1 : Int32) (y2 : Int32) (y3 : Option Nat) (ah : AH) : Option ((Unit × AH) ⊕ (((Unit) × AH) ⊕ ((Int32) × AH))) :=
  (sA ah y3 y2 (y1 ||| y0)).bind fun a12 => some (.inr (.inr (x4 + 1, a12)))
set_option maxRecDepth 100000 in
set_option maxHeartbeats 4000000 in
theorem k_X0_seek_b16_j47 {l : Launch} {g : GX} (d : Nat) {Q : jQ} {k0 : Option Nat} {k1 : Option Nat} {k2 : Int32} {k3 : Int32} {x4 : Int32} {y0 : Int32} {y1 : Int32} {y2 : Int32} {y3 : Option Nat} (ah : AH) (out : (Unit × AH) ⊕ (((Unit) × AH) ⊕ ((Int32) × AH))) (h : f_X0_seek_b16_j47 k0 k1 k2 k3 x4 y0 y1 y2 y3 ah = some out) (hR : ∀ q, out = .inl q → jRetN q.1 q.2) (hX : ∀ q, out = .inr (.inl q) → J l g md_X0_seek (jRm (d + 10) md_X0_seek) Q 55 [(0, .inr (.inr (.inl k0))), (2, .inl k2)] [] q.2 (0, 0)) (hN : ∀ q, out = .inr (.inr q) → J l g md_X0_seek (jRm (d + 10) md_X0_seek) Q 16 [(0, .inr (.inr (.inl k0))), (1, .inr (.inr (.inl k1))), (2, .inl k2), (3, .inl k3), (4, .inl q.1)] [] q.2 (0, 0)) : J l g md_X0_seek (jRm (d + 10) md_X0_seek) Q 47 [(0, .inr (.inr (.inl k0))), (1, .inr (.inr (.inl k1))), (2, .inl k2), (3, .inl k3), (4, .inl x4)] [.inl y0, .inl y1, .inl y2, .inr (.inr (.inl y3))] ah (0, 0) := by
  unfold f_X0_seek_b16_j47 at h
  refine J_seg ok_X0_seek 25 1 (pc' := 48) (ls' := [(0, .inr (.inr (.inl k0))), (1, .inr (.inr (.inl k1))), (2, .inl k2), (3, .inl k3), (4, .inl x4)]) (st' := [.inl (y1 ||| y0), .inl y2, .inr (.inr (.inl y3))]) rfl ?_
  obtain ⟨a12, h13, h⟩ := Option.bind_eq_some_iff.mp h
  refine J_iast (jat ok_X0_seek 26 (pc := 48) (i := .iastore) (n := 1) rfl rfl) h13 ?_
  refine J_seg ok_X0_seek 27 2 (pc' := 16) (ls' := [(4, .inl (x4 + 1)), (0, .inr (.inr (.inl k0))), (1, .inr (.inr (.inl k1))), (2, .inl k2), (3, .inl k3)]) (st' := []) rfl ?_
  exact J_sub (ls' := [(0, .inr (.inr (.inl k0))), (1, .inr (.inr (.inl k1))), (2, .inl k2), (3, .inl k3), (4, .inl (x4 + 1))]) [1, 2, 3, 4, 0] rfl (hN (x4 + 1, a12) (Option.some.inj h).symm)
def f_X0_seek_b16 (k0 : Option Nat) (k1 : Option Nat) (k2 : Int32) (k3 : Int32) (s16 : Int32) (ah : AH) : Option ((Unit × AH) ⊕ (((Unit) × AH) ⊕ ((Int32) × AH))) :=
  if 6 ≤ s16 then (some (.inr (.inl ((), ah)))) else ((gR ah k0 0 1).bind fun v7 => if k3 = 0 then (if qO ah k1 1 = true then ((f_X1_lovedBy k1 s16 ah).bind fun q9 => f_X0_seek_b16_j47 k0 k1 k2 k3 s16 q9.1 (1 <<< (s16 &&& 31)) s16 v7 q9.2) else none) else (f_X0_seek_b16_j47 k0 k1 k2 k3 s16 0 (1 <<< (s16 &&& 31)) s16 v7 ah))
set_option maxRecDepth 100000 in
set_option maxHeartbeats 4000000 in
theorem k_X0_seek_b16 {l : Launch} {g : GX} (d : Nat) {Q : jQ} {k0 : Option Nat} {k1 : Option Nat} {k2 : Int32} {k3 : Int32} (s16 : Int32) (ah : AH) (out : (Unit × AH) ⊕ (((Unit) × AH) ⊕ ((Int32) × AH))) (h : f_X0_seek_b16 k0 k1 k2 k3 s16 ah = some out) (hR : ∀ q, out = .inl q → jRetN q.1 q.2) (hX : ∀ q, out = .inr (.inl q) → J l g md_X0_seek (jRm (d + 10) md_X0_seek) Q 55 [(0, .inr (.inr (.inl k0))), (2, .inl k2)] [] q.2 (0, 0)) (hN : ∀ q, out = .inr (.inr q) → J l g md_X0_seek (jRm (d + 10) md_X0_seek) Q 16 [(0, .inr (.inr (.inl k0))), (1, .inr (.inr (.inl k1))), (2, .inl k2), (3, .inl k3), (4, .inl q.1)] [] q.2 (0, 0)) : J l g md_X0_seek (jRm (d + 10) md_X0_seek) Q 16 [(0, .inr (.inr (.inl k0))), (1, .inr (.inr (.inl k1))), (2, .inl k2), (3, .inl k3), (4, .inl s16)] [] ah (0, 0) := by
  unfold f_X0_seek_b16 at h
  refine J_seg ok_X0_seek 9 2 (pc' := 20) (ls' := [(0, .inr (.inr (.inl k0))), (1, .inr (.inr (.inl k1))), (2, .inl k2), (3, .inl k3), (4, .inl s16)]) (st' := [.inl 6, .inl s16]) rfl ?_
  refine J_ge (jat ok_X0_seek 11 (pc := 20) (i := .if_icmp .ge 35) (n := 3) rfl rfl) (tgt := 55) (by decide) (fun c => ?_) (fun c => ?_)
  · have h := (if_pos c).symm.trans h
    exact J_sub (ls' := [(0, .inr (.inr (.inl k0))), (2, .inl k2)]) [0, 2] rfl (hX ((), ah) (Option.some.inj h).symm)
  · have h := (if_neg c).symm.trans h
    refine J_seg ok_X0_seek 12 1 (pc' := 24) (ls' := [(0, .inr (.inr (.inl k0))), (1, .inr (.inr (.inl k1))), (2, .inl k2), (3, .inl k3), (4, .inl s16)]) (st' := [.inr (.inr (.inl k0))]) rfl ?_
    obtain ⟨v7, h8, h⟩ := Option.bind_eq_some_iff.mp h
    refine J_getR (jat ok_X0_seek 13 (pc := 24) (i := .getfield 15) (n := 3) rfl rfl) fl_RX0_15 h8 ?_
    refine J_seg ok_X0_seek 14 5 (pc' := 34) (ls' := [(0, .inr (.inr (.inl k0))), (1, .inr (.inr (.inl k1))), (2, .inl k2), (3, .inl k3), (4, .inl s16)]) (st' := [.inl k3, .inl (1 <<< (s16 &&& 31)), .inl s16, .inr (.inr (.inl v7))]) rfl ?_
    refine J_eq0 (jat ok_X0_seek 19 (pc := 34) (i := .ifCond .eq 7) (n := 3) rfl rfl) (tgt := 41) (by decide) (fun c => ?_) (fun c => ?_)
    · have h := (if_pos c).symm.trans h
      refine J_seg ok_X0_seek 22 2 (pc' := 44) (ls' := [(0, .inr (.inr (.inl k0))), (1, .inr (.inr (.inl k1))), (2, .inl k2), (3, .inl k3), (4, .inl s16)]) (st' := [.inl s16, .inr (.inr (.inl k1)), .inl (1 <<< (s16 &&& 31)), .inl s16, .inr (.inr (.inl v7))]) rfl ?_
      by_cases c11 : qO ah k1 1 = true
      case neg => exact absurd ((if_neg c11).symm.trans h) (by simp)
      have h := (if_pos c11).symm.trans h
      obtain ⟨q9, h10, h⟩ := Option.bind_eq_some_iff.mp h
      refine J_callV (md' := md_X1_lovedBy) (As := [.inl s16]) (st := [.inl (1 <<< (s16 &&& 31)), .inl s16, .inr (.inr (.inl v7))]) (cs' := (0, 0)) (st' := [.inl q9.1, .inl (1 <<< (s16 &&& 31)), .inl s16, .inr (.inr (.inl v7))]) (jat ok_X0_seek 24 (pc := 44) (i := .invokevirtual 31) (n := 3) rfl rfl) ml_RX0_31 yv_X1_lovedBy c11 (c_X1_lovedBy l g (d + 8) h10) (jRo_of (by decide)) (Nat.le_of_ble_eq_true rfl) ⟨Nat.le_of_ble_eq_true rfl, Nat.le_of_ble_eq_true rfl⟩ rfl rfl rfl ?_
      refine J_sub (ls' := [(0, .inr (.inr (.inl k0))), (1, .inr (.inr (.inl k1))), (2, .inl k2), (3, .inl k3), (4, .inl s16)]) [0, 1, 2, 3, 4] rfl ?_
      exact k_X0_seek_b16_j47 d _ _ h hR hX hN
    · have h := (if_neg c).symm.trans h
      refine J_seg ok_X0_seek 20 2 (pc' := 47) (ls' := [(0, .inr (.inr (.inl k0))), (1, .inr (.inr (.inl k1))), (2, .inl k2), (3, .inl k3), (4, .inl s16)]) (st' := [.inl 0, .inl (1 <<< (s16 &&& 31)), .inl s16, .inr (.inr (.inl v7))]) rfl ?_
      refine J_sub (ls' := [(0, .inr (.inr (.inl k0))), (1, .inr (.inr (.inl k1))), (2, .inl k2), (3, .inl k3), (4, .inl s16)]) [0, 1, 2, 3, 4] rfl ?_
      exact k_X0_seek_b16_j47 d _ _ h hR hX hN
def f_X0_seek (x0 : Option Nat) (x1 : Option Nat) (x2 : Int32) (x3 : Int32) (ah : AH) : Option (Unit × AH) :=
  (sF ah x0 0 3 (.inl 0)).bind fun a1 => (gI a1 x1 1 5).bind fun v3 => (sF a1 x0 0 4 (.inl v3)).bind fun a5 => (jloop (f_X0_seek_b16 x0 x1 x2 x3) jfuel 0 a5).bind fun q14 => match q14 with | .inl r => none | .inr z16 => (f_X0_draw x0 0 x2 0 z16.2).bind fun q18 => some ((), q18.2)
set_option maxRecDepth 100000 in
set_option maxHeartbeats 4000000 in
theorem k_X0_seek {l : Launch} {g : GX} (d : Nat) {Q : jQ} {x0 : Option Nat} {x1 : Option Nat} {x2 : Int32} {x3 : Int32} (ah : AH) (out : Unit × AH) (h : f_X0_seek x0 x1 x2 x3 ah = some out) (hR : jRetV l g md_X0_seek (jRm (d + 10) md_X0_seek) Q (0, 0) out.1 out.2) : J l g md_X0_seek (jRm (d + 10) md_X0_seek) Q 0 [(0, .inr (.inr (.inl x0))), (1, .inr (.inr (.inl x1))), (2, .inl x2), (3, .inl x3)] [] ah (0, 0) := by
  unfold f_X0_seek at h
  refine J_seg ok_X0_seek 0 2 (pc' := 2) (ls' := [(0, .inr (.inr (.inl x0))), (1, .inr (.inr (.inl x1))), (2, .inl x2), (3, .inl x3)]) (st' := [.inl 0, .inr (.inr (.inl x0))]) rfl ?_
  obtain ⟨a1, h2, h⟩ := Option.bind_eq_some_iff.mp h
  refine J_put (jat ok_X0_seek 2 (pc := 2) (i := .putfield 21) (n := 3) rfl rfl) (fp_RX0_21 _) (jPV_int _) h2 ?_
  refine J_seg ok_X0_seek 3 2 (pc' := 7) (ls' := [(0, .inr (.inr (.inl x0))), (1, .inr (.inr (.inl x1))), (2, .inl x2), (3, .inl x3)]) (st' := [.inr (.inr (.inl x1)), .inr (.inr (.inl x0))]) rfl ?_
  obtain ⟨v3, h4, h⟩ := Option.bind_eq_some_iff.mp h
  refine J_getI (jat ok_X0_seek 5 (pc := 7) (i := .getfield 25) (n := 3) rfl rfl) fl_RX0_25 h4 ?_
  obtain ⟨a5, h6, h⟩ := Option.bind_eq_some_iff.mp h
  refine J_put (jat ok_X0_seek 6 (pc := 10) (i := .putfield 30) (n := 3) rfl rfl) (fp_RX0_30 _) (jPV_int _) h6 ?_
  refine J_seg ok_X0_seek 7 2 (pc' := 16) (ls' := [(4, .inl 0), (0, .inr (.inr (.inl x0))), (1, .inr (.inr (.inl x1))), (2, .inl x2), (3, .inl x3)]) (st' := []) rfl ?_
  obtain ⟨q14, h15, h⟩ := Option.bind_eq_some_iff.mp h
  refine J_sub (ls' := [(0, .inr (.inr (.inl x0))), (1, .inr (.inr (.inl x1))), (2, .inl x2), (3, .inl x3), (4, .inl 0)]) [1, 2, 3, 4, 0] rfl ?_
  refine J_loop (pE := 55) (lh := fun t17 => [(0, .inr (.inr (.inl x0))), (1, .inr (.inr (.inl x1))), (2, .inl x2), (3, .inl x3), (4, .inl t17)]) (lx := fun z16 => [(0, .inr (.inr (.inl x0))), (2, .inl x2)]) (P := jRetN) (fun s ah out hb hR hX hN => k_X0_seek_b16 d s ah out hb hR hX hN) jfuel 0 _ _ h15 (fun r e => ?_) (fun z16 e => ?_)
  · subst e
    dsimp only at h
    cases h
  · subst e
    dsimp only at h
    refine J_seg ok_X0_seek 29 4 (pc' := 59) (ls' := [(0, .inr (.inr (.inl x0))), (2, .inl x2)]) (st' := [.inl 0, .inl x2, .inl 0, .inr (.inr (.inl x0))]) rfl ?_
    obtain ⟨q18, h19, h⟩ := Option.bind_eq_some_iff.mp h
    refine J_callS (md' := md_X0_draw) (As := [.inr (.inr (.inl x0)), .inl 0, .inl x2, .inl 0]) (st := []) (cs' := (0, 0)) (st' := []) (jat ok_X0_seek 33 (pc := 59) (i := .invokestatic 35) (n := 3) rfl rfl) (Or.inl ml_RX0_35) ys_X0_draw (c_X0_draw l g (d + 0) h19) (jRo_of (by decide)) (Nat.le_of_ble_eq_true rfl) ⟨Nat.le_of_ble_eq_true rfl, Nat.le_of_ble_eq_true rfl⟩ rfl rfl rfl ?_
    have h := Option.some.inj h
    subst h
    exact hR _ _ (jat ok_X0_seek 34 (pc := 62) (i := .return_) (n := 1) rfl rfl)
theorem c_X0_seek (l : Launch) (g : GX) (d : Nat) {x0 : Option Nat} {x1 : Option Nat} {x2 : Int32} {x3 : Int32} {ah : AH} {q : Unit × AH} (h : f_X0_seek x0 x1 x2 x3 ah = some q) : jM l g (d + 10) md_X0_seek [.inr (.inr (.inl x0)), .inr (.inr (.inl x1)), .inl x2, .inl x3] ah none q.2 :=
  jM_of (by decide) (Nat.le_of_ble_eq_true rfl) (k_X0_seek d ah q h (fun pc ls hd => J_retv hd rfl rfl (Nat.le_refl _) rfl rfl))
def f_X0_victimIn (x0 : Option Nat) (x1 : Int32) (x2 : Int32) (ah : AH) : Option (Int32 × AH) :=
  if x1 < 0 then (some ((-9), ah)) else ((gI ah x0 0 3).bind fun v1 => if v1 ≤ x1 then (some ((-9), ah)) else (if x1 < 320 then ((gR ah x0 0 0).bind fun v3 => (gA ah v3 x1).bind fun v5 => if ((v5 >>> ((3 * x2) &&& 31)) &&& 7) = 7 then (some ((-9), ah)) else (some ((v5 >>> ((3 * x2) &&& 31)) &&& 7, ah))) else (some ((-9), ah))))
set_option maxRecDepth 100000 in
set_option maxHeartbeats 4000000 in
theorem k_X0_victimIn {l : Launch} {g : GX} (d : Nat) {Q : jQ} {x0 : Option Nat} {x1 : Int32} {x2 : Int32} (ah : AH) (out : Int32 × AH) (h : f_X0_victimIn x0 x1 x2 ah = some out) (hR : jRetI l g md_X0_victimIn (jRm (d + 0) md_X0_victimIn) Q (0, 0) out.1 out.2) : J l g md_X0_victimIn (jRm (d + 0) md_X0_victimIn) Q 0 [(0, .inr (.inr (.inl x0))), (1, .inl x1), (2, .inl x2)] [] ah (0, 0) := by
  unfold f_X0_victimIn at h
  refine J_seg ok_X0_victimIn 0 1 (pc' := 1) (ls' := [(0, .inr (.inr (.inl x0))), (1, .inl x1), (2, .inl x2)]) (st' := [.inl x1]) rfl ?_
  refine J_lt0 (jat ok_X0_victimIn 1 (pc := 1) (i := .ifCond .lt 18) (n := 3) rfl rfl) (tgt := 19) (by decide) (fun c => ?_) (fun c => ?_)
  · have h := (if_pos c).symm.trans h
    refine J_seg ok_X0_victimIn 9 1 (pc' := 21) (ls' := [(0, .inr (.inr (.inl x0))), (1, .inl x1), (2, .inl x2)]) (st' := [.inl (-9)]) rfl ?_
    have h := Option.some.inj h
    subst h
    exact hR _ _ (jat ok_X0_victimIn 10 (pc := 21) (i := .ireturn) (n := 1) rfl rfl)
  · have h := (if_neg c).symm.trans h
    refine J_seg ok_X0_victimIn 2 2 (pc' := 6) (ls' := [(0, .inr (.inr (.inl x0))), (1, .inl x1), (2, .inl x2)]) (st' := [.inr (.inr (.inl x0)), .inl x1]) rfl ?_
    obtain ⟨v1, h2, h⟩ := Option.bind_eq_some_iff.mp h
    refine J_getI (jat ok_X0_victimIn 4 (pc := 6) (i := .getfield 21) (n := 3) rfl rfl) fl_RX0_21 h2 ?_
    refine J_ge (jat ok_X0_victimIn 5 (pc := 9) (i := .if_icmp .ge 10) (n := 3) rfl rfl) (tgt := 19) (by decide) (fun c => ?_) (fun c => ?_)
    · have h := (if_pos c).symm.trans h
      refine J_seg ok_X0_victimIn 9 1 (pc' := 21) (ls' := [(0, .inr (.inr (.inl x0))), (1, .inl x1), (2, .inl x2)]) (st' := [.inl (-9)]) rfl ?_
      have h := Option.some.inj h
      subst h
      exact hR _ _ (jat ok_X0_victimIn 10 (pc := 21) (i := .ireturn) (n := 1) rfl rfl)
    · have h := (if_neg c).symm.trans h
      refine J_seg ok_X0_victimIn 6 2 (pc' := 16) (ls' := [(0, .inr (.inr (.inl x0))), (1, .inl x1), (2, .inl x2)]) (st' := [.inl 320, .inl x1]) rfl ?_
      refine J_lt (jat ok_X0_victimIn 8 (pc := 16) (i := .if_icmp .lt 6) (n := 3) rfl rfl) (tgt := 22) (by decide) (fun c => ?_) (fun c => ?_)
      · have h := (if_pos c).symm.trans h
        refine J_seg ok_X0_victimIn 11 1 (pc' := 23) (ls' := [(0, .inr (.inr (.inl x0))), (1, .inl x1), (2, .inl x2)]) (st' := [.inr (.inr (.inl x0))]) rfl ?_
        obtain ⟨v3, h4, h⟩ := Option.bind_eq_some_iff.mp h
        refine J_getR (jat ok_X0_victimIn 12 (pc := 23) (i := .getfield 9) (n := 3) rfl rfl) fl_RX0_9 h4 ?_
        refine J_seg ok_X0_victimIn 13 1 (pc' := 27) (ls' := [(0, .inr (.inr (.inl x0))), (1, .inl x1), (2, .inl x2)]) (st' := [.inl x1, .inr (.inr (.inl v3))]) rfl ?_
        obtain ⟨v5, h6, h⟩ := Option.bind_eq_some_iff.mp h
        refine J_iald (jat ok_X0_victimIn 14 (pc := 27) (i := .iaload) (n := 1) rfl rfl) h6 ?_
        refine J_seg ok_X0_victimIn 15 9 (pc' := 39) (ls' := [(3, .inl ((v5 >>> ((3 * x2) &&& 31)) &&& 7)), (0, .inr (.inr (.inl x0))), (1, .inl x1), (2, .inl x2)]) (st' := [.inl 7, .inl ((v5 >>> ((3 * x2) &&& 31)) &&& 7)]) rfl ?_
        refine J_ne (jat ok_X0_victimIn 24 (pc := 39) (i := .if_icmp .ne 8) (n := 3) rfl rfl) (tgt := 47) (by decide) (fun c => ?_) (fun c => ?_)
        · have h := (if_neg c).symm.trans h
          refine J_seg ok_X0_victimIn 27 1 (pc' := 48) (ls' := [(3, .inl ((v5 >>> ((3 * x2) &&& 31)) &&& 7)), (0, .inr (.inr (.inl x0))), (1, .inl x1), (2, .inl x2)]) (st' := [.inl ((v5 >>> ((3 * x2) &&& 31)) &&& 7)]) rfl ?_
          have h := Option.some.inj h
          subst h
          exact hR _ _ (jat ok_X0_victimIn 28 (pc := 48) (i := .ireturn) (n := 1) rfl rfl)
        · have h := (if_pos c).symm.trans h
          refine J_seg ok_X0_victimIn 25 2 (pc' := 48) (ls' := [(3, .inl ((v5 >>> ((3 * x2) &&& 31)) &&& 7)), (0, .inr (.inr (.inl x0))), (1, .inl x1), (2, .inl x2)]) (st' := [.inl (-9)]) rfl ?_
          have h := Option.some.inj h
          subst h
          exact hR _ _ (jat ok_X0_victimIn 28 (pc := 48) (i := .ireturn) (n := 1) rfl rfl)
      · have h := (if_neg c).symm.trans h
        refine J_seg ok_X0_victimIn 9 1 (pc' := 21) (ls' := [(0, .inr (.inr (.inl x0))), (1, .inl x1), (2, .inl x2)]) (st' := [.inl (-9)]) rfl ?_
        have h := Option.some.inj h
        subst h
        exact hR _ _ (jat ok_X0_victimIn 10 (pc := 21) (i := .ireturn) (n := 1) rfl rfl)
theorem c_X0_victimIn (l : Launch) (g : GX) (d : Nat) {x0 : Option Nat} {x1 : Int32} {x2 : Int32} {ah : AH} {q : Int32 × AH} (h : f_X0_victimIn x0 x1 x2 ah = some q) : jM l g (d + 0) md_X0_victimIn [.inr (.inr (.inl x0)), .inl x1, .inl x2] ah (some (.inl q.1)) q.2 :=
  jM_of (by decide) (Nat.le_of_ble_eq_true rfl) (k_X0_victimIn d ah q h (fun pc ls hd => J_reti hd rfl (jPV_int _) rfl (Nat.le_refl _) rfl rfl))
def f_X0_victimsOf_b5 (k0 : Option Nat) (k1 : Int32) (k2 : Int32) (s5 : Int32 × Int32) (ah : AH) : Option ((Unit × AH) ⊕ (((Int32) × AH) ⊕ ((Int32 × Int32) × AH))) :=
  (gI ah k0 0 4).bind fun v1 => if v1 ≤ s5.2 then (some (.inr (.inl (s5.1, ah)))) else (if ((k2 >>> (s5.2 &&& 31)) &&& 1) = 1 then (some (.inr (.inr ((s5.1 ||| (1 <<< (((k1 >>> ((3 * s5.2) &&& 31)) &&& 7) &&& 31)), s5.2 + 1), ah)))) else (some (.inr (.inr ((s5.1, s5.2 + 1), ah)))))
set_option maxRecDepth 100000 in
set_option maxHeartbeats 4000000 in
theorem k_X0_victimsOf_b5 {l : Launch} {g : GX} (d : Nat) {Q : jQ} {k0 : Option Nat} {k1 : Int32} {k2 : Int32} (s5 : Int32 × Int32) (ah : AH) (out : (Unit × AH) ⊕ (((Int32) × AH) ⊕ ((Int32 × Int32) × AH))) (h : f_X0_victimsOf_b5 k0 k1 k2 s5 ah = some out) (hR : ∀ q, out = .inl q → jRetN q.1 q.2) (hX : ∀ q, out = .inr (.inl q) → J l g md_X0_victimsOf (jRm (d + 0) md_X0_victimsOf) Q 44 [(3, .inl q.1)] [] q.2 (0, 0)) (hN : ∀ q, out = .inr (.inr q) → J l g md_X0_victimsOf (jRm (d + 0) md_X0_victimsOf) Q 5 [(0, .inr (.inr (.inl k0))), (1, .inl k1), (2, .inl k2), (3, .inl q.1.1), (4, .inl q.1.2)] [] q.2 (0, 0)) : J l g md_X0_victimsOf (jRm (d + 0) md_X0_victimsOf) Q 5 [(0, .inr (.inr (.inl k0))), (1, .inl k1), (2, .inl k2), (3, .inl s5.1), (4, .inl s5.2)] [] ah (0, 0) := by
  unfold f_X0_victimsOf_b5 at h
  refine J_seg ok_X0_victimsOf 4 2 (pc' := 8) (ls' := [(0, .inr (.inr (.inl k0))), (1, .inl k1), (2, .inl k2), (3, .inl s5.1), (4, .inl s5.2)]) (st' := [.inr (.inr (.inl k0)), .inl s5.2]) rfl ?_
  obtain ⟨v1, h2, h⟩ := Option.bind_eq_some_iff.mp h
  refine J_getI (jat ok_X0_victimsOf 6 (pc := 8) (i := .getfield 30) (n := 3) rfl rfl) fl_RX0_30 h2 ?_
  refine J_ge (jat ok_X0_victimsOf 7 (pc := 11) (i := .if_icmp .ge 33) (n := 3) rfl rfl) (tgt := 44) (by decide) (fun c => ?_) (fun c => ?_)
  · have h := (if_pos c).symm.trans h
    exact J_sub (ls' := [(3, .inl s5.1)]) [3] rfl (hX (s5.1, ah) (Option.some.inj h).symm)
  · have h := (if_neg c).symm.trans h
    refine J_seg ok_X0_victimsOf 8 6 (pc' := 21) (ls' := [(0, .inr (.inr (.inl k0))), (1, .inl k1), (2, .inl k2), (3, .inl s5.1), (4, .inl s5.2)]) (st' := [.inl 1, .inl ((k2 >>> (s5.2 &&& 31)) &&& 1)]) rfl ?_
    refine J_ne (jat ok_X0_victimsOf 14 (pc := 21) (i := .if_icmp .ne 17) (n := 3) rfl rfl) (tgt := 38) (by decide) (fun c => ?_) (fun c => ?_)
    · have h := (if_neg c).symm.trans h
      refine J_seg ok_X0_victimsOf 27 2 (pc' := 5) (ls' := [(4, .inl (s5.2 + 1)), (0, .inr (.inr (.inl k0))), (1, .inl k1), (2, .inl k2), (3, .inl s5.1)]) (st' := []) rfl ?_
      exact J_sub (ls' := [(0, .inr (.inr (.inl k0))), (1, .inl k1), (2, .inl k2), (3, .inl s5.1), (4, .inl (s5.2 + 1))]) [1, 2, 3, 4, 0] rfl (hN ((s5.1, s5.2 + 1), ah) (Option.some.inj h).symm)
    · have h := (if_pos c).symm.trans h
      refine J_seg ok_X0_victimsOf 15 14 (pc' := 5) (ls' := [(4, .inl (s5.2 + 1)), (3, .inl (s5.1 ||| (1 <<< (((k1 >>> ((3 * s5.2) &&& 31)) &&& 7) &&& 31)))), (0, .inr (.inr (.inl k0))), (1, .inl k1), (2, .inl k2)]) (st' := []) rfl ?_
      exact J_sub (ls' := [(0, .inr (.inr (.inl k0))), (1, .inl k1), (2, .inl k2), (3, .inl (s5.1 ||| (1 <<< (((k1 >>> ((3 * s5.2) &&& 31)) &&& 7) &&& 31)))), (4, .inl (s5.2 + 1))]) [2, 3, 4, 1, 0] rfl (hN ((s5.1 ||| (1 <<< (((k1 >>> ((3 * s5.2) &&& 31)) &&& 7) &&& 31)), s5.2 + 1), ah) (Option.some.inj h).symm)
def f_X0_victimsOf (x0 : Option Nat) (x1 : Int32) (x2 : Int32) (ah : AH) : Option (Int32 × AH) :=
  (jloop (f_X0_victimsOf_b5 x0 x1 x2) jfuel (0, 0) ah).bind fun q3 => match q3 with | .inl r => none | .inr z5 => some (z5.1, z5.2)
set_option maxRecDepth 100000 in
set_option maxHeartbeats 4000000 in
theorem k_X0_victimsOf {l : Launch} {g : GX} (d : Nat) {Q : jQ} {x0 : Option Nat} {x1 : Int32} {x2 : Int32} (ah : AH) (out : Int32 × AH) (h : f_X0_victimsOf x0 x1 x2 ah = some out) (hR : jRetI l g md_X0_victimsOf (jRm (d + 0) md_X0_victimsOf) Q (0, 0) out.1 out.2) : J l g md_X0_victimsOf (jRm (d + 0) md_X0_victimsOf) Q 0 [(0, .inr (.inr (.inl x0))), (1, .inl x1), (2, .inl x2)] [] ah (0, 0) := by
  unfold f_X0_victimsOf at h
  refine J_seg ok_X0_victimsOf 0 4 (pc' := 5) (ls' := [(4, .inl 0), (3, .inl 0), (0, .inr (.inr (.inl x0))), (1, .inl x1), (2, .inl x2)]) (st' := []) rfl ?_
  obtain ⟨q3, h4, h⟩ := Option.bind_eq_some_iff.mp h
  refine J_sub (ls' := [(0, .inr (.inr (.inl x0))), (1, .inl x1), (2, .inl x2), (3, .inl 0), (4, .inl 0)]) [2, 3, 4, 1, 0] rfl ?_
  refine J_loop (pE := 44) (lh := fun t6 => [(0, .inr (.inr (.inl x0))), (1, .inl x1), (2, .inl x2), (3, .inl t6.1), (4, .inl t6.2)]) (lx := fun z5 => [(3, .inl z5)]) (P := jRetN) (fun s ah out hb hR hX hN => k_X0_victimsOf_b5 d s ah out hb hR hX hN) jfuel (0, 0) _ _ h4 (fun r e => ?_) (fun z5 e => ?_)
  · subst e
    dsimp only at h
    cases h
  · subst e
    dsimp only at h
    refine J_seg ok_X0_victimsOf 29 1 (pc' := 45) (ls' := [(3, .inl z5.1)]) (st' := [.inl z5.1]) rfl ?_
    have h := Option.some.inj h
    subst h
    exact hR _ _ (jat ok_X0_victimsOf 30 (pc := 45) (i := .ireturn) (n := 1) rfl rfl)
theorem c_X0_victimsOf (l : Launch) (g : GX) (d : Nat) {x0 : Option Nat} {x1 : Int32} {x2 : Int32} {ah : AH} {q : Int32 × AH} (h : f_X0_victimsOf x0 x1 x2 ah = some q) : jM l g (d + 0) md_X0_victimsOf [.inr (.inr (.inl x0)), .inl x1, .inl x2] ah (some (.inl q.1)) q.2 :=
  jM_of (by decide) (Nat.le_of_ble_eq_true rfl) (k_X0_victimsOf d ah q h (fun pc ls hd => J_reti hd rfl (jPV_int _) rfl (Nat.le_refl _) rfl rfl))
def f_X0_retain_b5 (k0 : Option Nat) (k1 : Int32) (k2 : Int32) (s5 : Int32 × Int32) (ah : AH) : Option ((Unit × AH) ⊕ (((Int32) × AH) ⊕ ((Int32 × Int32) × AH))) :=
  (gI ah k0 0 3).bind fun v1 => if v1 ≤ s5.2 then (some (.inr (.inl (s5.1, ah)))) else (if 320 ≤ s5.2 then (some (.inr (.inl (s5.1, ah)))) else ((gR ah k0 0 0).bind fun v3 => (gA ah v3 s5.2).bind fun v5 => if qO ah k0 0 = true then ((f_X0_victimsOf k0 v5 k1 ah).bind fun q7 => if q7.1 = k2 then ((gR q7.2 k0 0 0).bind fun v10 => (gR q7.2 k0 0 0).bind fun v12 => (gA q7.2 v12 s5.2).bind fun v14 => (sA q7.2 v10 s5.1 v14).bind fun a16 => some (.inr (.inr ((s5.1 + 1, s5.2 + 1), a16)))) else (some (.inr (.inr ((s5.1, s5.2 + 1), q7.2))))) else none))
set_option maxRecDepth 100000 in
set_option maxHeartbeats 4000000 in
theorem k_X0_retain_b5 {l : Launch} {g : GX} (d : Nat) {Q : jQ} {k0 : Option Nat} {k1 : Int32} {k2 : Int32} (s5 : Int32 × Int32) (ah : AH) (out : (Unit × AH) ⊕ (((Int32) × AH) ⊕ ((Int32 × Int32) × AH))) (h : f_X0_retain_b5 k0 k1 k2 s5 ah = some out) (hR : ∀ q, out = .inl q → jRetN q.1 q.2) (hX : ∀ q, out = .inr (.inl q) → J l g md_X0_retain (jRm (d + 1) md_X0_retain) Q 60 [(0, .inr (.inr (.inl k0))), (3, .inl q.1)] [] q.2 (0, 0)) (hN : ∀ q, out = .inr (.inr q) → J l g md_X0_retain (jRm (d + 1) md_X0_retain) Q 5 [(0, .inr (.inr (.inl k0))), (1, .inl k1), (2, .inl k2), (3, .inl q.1.1), (4, .inl q.1.2)] [] q.2 (0, 0)) : J l g md_X0_retain (jRm (d + 1) md_X0_retain) Q 5 [(0, .inr (.inr (.inl k0))), (1, .inl k1), (2, .inl k2), (3, .inl s5.1), (4, .inl s5.2)] [] ah (0, 0) := by
  unfold f_X0_retain_b5 at h
  refine J_seg ok_X0_retain 4 2 (pc' := 8) (ls' := [(0, .inr (.inr (.inl k0))), (1, .inl k1), (2, .inl k2), (3, .inl s5.1), (4, .inl s5.2)]) (st' := [.inr (.inr (.inl k0)), .inl s5.2]) rfl ?_
  obtain ⟨v1, h2, h⟩ := Option.bind_eq_some_iff.mp h
  refine J_getI (jat ok_X0_retain 6 (pc := 8) (i := .getfield 21) (n := 3) rfl rfl) fl_RX0_21 h2 ?_
  refine J_ge (jat ok_X0_retain 7 (pc := 11) (i := .if_icmp .ge 49) (n := 3) rfl rfl) (tgt := 60) (by decide) (fun c => ?_) (fun c => ?_)
  · have h := (if_pos c).symm.trans h
    exact J_sub (ls' := [(0, .inr (.inr (.inl k0))), (3, .inl s5.1)]) [0, 3] rfl (hX (s5.1, ah) (Option.some.inj h).symm)
  · have h := (if_neg c).symm.trans h
    refine J_seg ok_X0_retain 8 2 (pc' := 19) (ls' := [(0, .inr (.inr (.inl k0))), (1, .inl k1), (2, .inl k2), (3, .inl s5.1), (4, .inl s5.2)]) (st' := [.inl 320, .inl s5.2]) rfl ?_
    refine J_ge (jat ok_X0_retain 10 (pc := 19) (i := .if_icmp .ge 41) (n := 3) rfl rfl) (tgt := 60) (by decide) (fun c => ?_) (fun c => ?_)
    · have h := (if_pos c).symm.trans h
      exact J_sub (ls' := [(0, .inr (.inr (.inl k0))), (3, .inl s5.1)]) [0, 3] rfl (hX (s5.1, ah) (Option.some.inj h).symm)
    · have h := (if_neg c).symm.trans h
      refine J_seg ok_X0_retain 11 2 (pc' := 24) (ls' := [(0, .inr (.inr (.inl k0))), (1, .inl k1), (2, .inl k2), (3, .inl s5.1), (4, .inl s5.2)]) (st' := [.inr (.inr (.inl k0)), .inr (.inr (.inl k0))]) rfl ?_
      obtain ⟨v3, h4, h⟩ := Option.bind_eq_some_iff.mp h
      refine J_getR (jat ok_X0_retain 13 (pc := 24) (i := .getfield 9) (n := 3) rfl rfl) fl_RX0_9 h4 ?_
      refine J_seg ok_X0_retain 14 1 (pc' := 29) (ls' := [(0, .inr (.inr (.inl k0))), (1, .inl k1), (2, .inl k2), (3, .inl s5.1), (4, .inl s5.2)]) (st' := [.inl s5.2, .inr (.inr (.inl v3)), .inr (.inr (.inl k0))]) rfl ?_
      obtain ⟨v5, h6, h⟩ := Option.bind_eq_some_iff.mp h
      refine J_iald (jat ok_X0_retain 15 (pc := 29) (i := .iaload) (n := 1) rfl rfl) h6 ?_
      refine J_seg ok_X0_retain 16 1 (pc' := 31) (ls' := [(0, .inr (.inr (.inl k0))), (1, .inl k1), (2, .inl k2), (3, .inl s5.1), (4, .inl s5.2)]) (st' := [.inl k1, .inl v5, .inr (.inr (.inl k0))]) rfl ?_
      by_cases c9 : qO ah k0 0 = true
      case neg => exact absurd ((if_neg c9).symm.trans h) (by simp)
      have h := (if_pos c9).symm.trans h
      obtain ⟨q7, h8, h⟩ := Option.bind_eq_some_iff.mp h
      refine J_callV (md' := md_X0_victimsOf) (As := [.inl v5, .inl k1]) (st := []) (cs' := (0, 0)) (st' := [.inl q7.1]) (jat ok_X0_retain 17 (pc := 31) (i := .invokevirtual 52) (n := 3) rfl rfl) ml_RX0_52 yv_X0_victimsOf c9 (c_X0_victimsOf l g (d + 0) h8) (jRo_of (by decide)) (Nat.le_of_ble_eq_true rfl) ⟨Nat.le_of_ble_eq_true rfl, Nat.le_of_ble_eq_true rfl⟩ rfl rfl rfl ?_
      refine J_seg ok_X0_retain 18 1 (pc' := 35) (ls' := [(0, .inr (.inr (.inl k0))), (1, .inl k1), (2, .inl k2), (3, .inl s5.1), (4, .inl s5.2)]) (st' := [.inl k2, .inl q7.1]) rfl ?_
      refine J_ne (jat ok_X0_retain 19 (pc := 35) (i := .if_icmp .ne 19) (n := 3) rfl rfl) (tgt := 54) (by decide) (fun c => ?_) (fun c => ?_)
      · have h := (if_neg c).symm.trans h
        refine J_seg ok_X0_retain 29 2 (pc' := 5) (ls' := [(4, .inl (s5.2 + 1)), (0, .inr (.inr (.inl k0))), (1, .inl k1), (2, .inl k2), (3, .inl s5.1)]) (st' := []) rfl ?_
        exact J_sub (ls' := [(0, .inr (.inr (.inl k0))), (1, .inl k1), (2, .inl k2), (3, .inl s5.1), (4, .inl (s5.2 + 1))]) [1, 2, 3, 4, 0] rfl (hN ((s5.1, s5.2 + 1), q7.2) (Option.some.inj h).symm)
      · have h := (if_pos c).symm.trans h
        refine J_seg ok_X0_retain 20 1 (pc' := 39) (ls' := [(0, .inr (.inr (.inl k0))), (1, .inl k1), (2, .inl k2), (3, .inl s5.1), (4, .inl s5.2)]) (st' := [.inr (.inr (.inl k0))]) rfl ?_
        obtain ⟨v10, h11, h⟩ := Option.bind_eq_some_iff.mp h
        refine J_getR (jat ok_X0_retain 21 (pc := 39) (i := .getfield 9) (n := 3) rfl rfl) fl_RX0_9 h11 ?_
        refine J_seg ok_X0_retain 22 2 (pc' := 44) (ls' := [(0, .inr (.inr (.inl k0))), (1, .inl k1), (2, .inl k2), (3, .inl s5.1), (4, .inl s5.2)]) (st' := [.inr (.inr (.inl k0)), .inl s5.1, .inr (.inr (.inl v10))]) rfl ?_
        obtain ⟨v12, h13, h⟩ := Option.bind_eq_some_iff.mp h
        refine J_getR (jat ok_X0_retain 24 (pc := 44) (i := .getfield 9) (n := 3) rfl rfl) fl_RX0_9 h13 ?_
        refine J_seg ok_X0_retain 25 1 (pc' := 49) (ls' := [(0, .inr (.inr (.inl k0))), (1, .inl k1), (2, .inl k2), (3, .inl s5.1), (4, .inl s5.2)]) (st' := [.inl s5.2, .inr (.inr (.inl v12)), .inl s5.1, .inr (.inr (.inl v10))]) rfl ?_
        obtain ⟨v14, h15, h⟩ := Option.bind_eq_some_iff.mp h
        refine J_iald (jat ok_X0_retain 26 (pc := 49) (i := .iaload) (n := 1) rfl rfl) h15 ?_
        obtain ⟨a16, h17, h⟩ := Option.bind_eq_some_iff.mp h
        refine J_iast (jat ok_X0_retain 27 (pc := 50) (i := .iastore) (n := 1) rfl rfl) h17 ?_
        refine J_seg ok_X0_retain 28 3 (pc' := 5) (ls' := [(4, .inl (s5.2 + 1)), (3, .inl (s5.1 + 1)), (0, .inr (.inr (.inl k0))), (1, .inl k1), (2, .inl k2)]) (st' := []) rfl ?_
        exact J_sub (ls' := [(0, .inr (.inr (.inl k0))), (1, .inl k1), (2, .inl k2), (3, .inl (s5.1 + 1)), (4, .inl (s5.2 + 1))]) [2, 3, 4, 1, 0] rfl (hN ((s5.1 + 1, s5.2 + 1), a16) (Option.some.inj h).symm)
def f_X0_retain_j60 (x0 : Option Nat) (x3 : Int32) (ah : AH) : Option (Unit × AH) :=
  (sF ah x0 0 3 (.inl x3)).bind fun a22 => some ((), a22)
set_option maxRecDepth 100000 in
set_option maxHeartbeats 4000000 in
theorem k_X0_retain_j60 {l : Launch} {g : GX} (d : Nat) {Q : jQ} {x0 : Option Nat} {x3 : Int32} (ah : AH) (out : Unit × AH) (h : f_X0_retain_j60 x0 x3 ah = some out) (hR : jRetV l g md_X0_retain (jRm (d + 1) md_X0_retain) Q (0, 0) out.1 out.2) : J l g md_X0_retain (jRm (d + 1) md_X0_retain) Q 60 [(0, .inr (.inr (.inl x0))), (3, .inl x3)] [] ah (0, 0) := by
  unfold f_X0_retain_j60 at h
  refine J_seg ok_X0_retain 31 2 (pc' := 62) (ls' := [(0, .inr (.inr (.inl x0))), (3, .inl x3)]) (st' := [.inl x3, .inr (.inr (.inl x0))]) rfl ?_
  obtain ⟨a22, h23, h⟩ := Option.bind_eq_some_iff.mp h
  refine J_put (jat ok_X0_retain 33 (pc := 62) (i := .putfield 21) (n := 3) rfl rfl) (fp_RX0_21 _) (jPV_int _) h23 ?_
  have h := Option.some.inj h
  subst h
  exact hR _ _ (jat ok_X0_retain 34 (pc := 65) (i := .return_) (n := 1) rfl rfl)
def f_X0_retain (x0 : Option Nat) (x1 : Int32) (x2 : Int32) (ah : AH) : Option (Unit × AH) :=
  (jloop (f_X0_retain_b5 x0 x1 x2) jfuel (0, 0) ah).bind fun q18 => match q18 with | .inl r => none | .inr z20 => f_X0_retain_j60 x0 z20.1 z20.2
set_option maxRecDepth 100000 in
set_option maxHeartbeats 4000000 in
theorem k_X0_retain {l : Launch} {g : GX} (d : Nat) {Q : jQ} {x0 : Option Nat} {x1 : Int32} {x2 : Int32} (ah : AH) (out : Unit × AH) (h : f_X0_retain x0 x1 x2 ah = some out) (hR : jRetV l g md_X0_retain (jRm (d + 1) md_X0_retain) Q (0, 0) out.1 out.2) : J l g md_X0_retain (jRm (d + 1) md_X0_retain) Q 0 [(0, .inr (.inr (.inl x0))), (1, .inl x1), (2, .inl x2)] [] ah (0, 0) := by
  unfold f_X0_retain at h
  refine J_seg ok_X0_retain 0 4 (pc' := 5) (ls' := [(4, .inl 0), (3, .inl 0), (0, .inr (.inr (.inl x0))), (1, .inl x1), (2, .inl x2)]) (st' := []) rfl ?_
  obtain ⟨q18, h19, h⟩ := Option.bind_eq_some_iff.mp h
  refine J_sub (ls' := [(0, .inr (.inr (.inl x0))), (1, .inl x1), (2, .inl x2), (3, .inl 0), (4, .inl 0)]) [2, 3, 4, 1, 0] rfl ?_
  refine J_loop (pE := 60) (lh := fun t21 => [(0, .inr (.inr (.inl x0))), (1, .inl x1), (2, .inl x2), (3, .inl t21.1), (4, .inl t21.2)]) (lx := fun z20 => [(0, .inr (.inr (.inl x0))), (3, .inl z20)]) (P := jRetN) (fun s ah out hb hR hX hN => k_X0_retain_b5 d s ah out hb hR hX hN) jfuel (0, 0) _ _ h19 (fun r e => ?_) (fun z20 e => ?_)
  · subst e
    dsimp only at h
    cases h
  · subst e
    dsimp only at h
    refine J_sub (ls' := [(0, .inr (.inr (.inl x0))), (3, .inl z20.1)]) [0, 1] rfl ?_
    exact k_X0_retain_j60 d _ _ h hR
theorem c_X0_retain (l : Launch) (g : GX) (d : Nat) {x0 : Option Nat} {x1 : Int32} {x2 : Int32} {ah : AH} {q : Unit × AH} (h : f_X0_retain x0 x1 x2 ah = some q) : jM l g (d + 1) md_X0_retain [.inr (.inr (.inl x0)), .inl x1, .inl x2] ah none q.2 :=
  jM_of (by decide) (Nat.le_of_ble_eq_true rfl) (k_X0_retain d ah q h (fun pc ls hd => J_retv hd rfl rfl (Nat.le_refl _) rfl rfl))
def f_X0_countPair_b5 (k0 : Option Nat) (k1 : Int32) (k2 : Int32) (s5 : Int32 × Int32) (ah : AH) : Option ((Unit × AH) ⊕ (((Int32) × AH) ⊕ ((Int32 × Int32) × AH))) :=
  (gI ah k0 0 3).bind fun v1 => if v1 ≤ s5.2 then (some (.inr (.inl (s5.1, ah)))) else (if qO ah k0 0 = true then ((f_X0_victimIn k0 s5.2 k1 ah).bind fun q3 => if q3.1 = k2 then (some (.inr (.inr ((s5.1 + 1, s5.2 + 1), q3.2)))) else (some (.inr (.inr ((s5.1, s5.2 + 1), q3.2))))) else none)
set_option maxRecDepth 100000 in
set_option maxHeartbeats 4000000 in
theorem k_X0_countPair_b5 {l : Launch} {g : GX} (d : Nat) {Q : jQ} {k0 : Option Nat} {k1 : Int32} {k2 : Int32} (s5 : Int32 × Int32) (ah : AH) (out : (Unit × AH) ⊕ (((Int32) × AH) ⊕ ((Int32 × Int32) × AH))) (h : f_X0_countPair_b5 k0 k1 k2 s5 ah = some out) (hR : ∀ q, out = .inl q → jRetN q.1 q.2) (hX : ∀ q, out = .inr (.inl q) → J l g md_X0_countPair (jRm (d + 1) md_X0_countPair) Q 34 [(3, .inl q.1)] [] q.2 (0, 0)) (hN : ∀ q, out = .inr (.inr q) → J l g md_X0_countPair (jRm (d + 1) md_X0_countPair) Q 5 [(0, .inr (.inr (.inl k0))), (1, .inl k1), (2, .inl k2), (3, .inl q.1.1), (4, .inl q.1.2)] [] q.2 (0, 0)) : J l g md_X0_countPair (jRm (d + 1) md_X0_countPair) Q 5 [(0, .inr (.inr (.inl k0))), (1, .inl k1), (2, .inl k2), (3, .inl s5.1), (4, .inl s5.2)] [] ah (0, 0) := by
  unfold f_X0_countPair_b5 at h
  refine J_seg ok_X0_countPair 4 2 (pc' := 8) (ls' := [(0, .inr (.inr (.inl k0))), (1, .inl k1), (2, .inl k2), (3, .inl s5.1), (4, .inl s5.2)]) (st' := [.inr (.inr (.inl k0)), .inl s5.2]) rfl ?_
  obtain ⟨v1, h2, h⟩ := Option.bind_eq_some_iff.mp h
  refine J_getI (jat ok_X0_countPair 6 (pc := 8) (i := .getfield 21) (n := 3) rfl rfl) fl_RX0_21 h2 ?_
  refine J_ge (jat ok_X0_countPair 7 (pc := 11) (i := .if_icmp .ge 23) (n := 3) rfl rfl) (tgt := 34) (by decide) (fun c => ?_) (fun c => ?_)
  · have h := (if_pos c).symm.trans h
    exact J_sub (ls' := [(3, .inl s5.1)]) [3] rfl (hX (s5.1, ah) (Option.some.inj h).symm)
  · have h := (if_neg c).symm.trans h
    refine J_seg ok_X0_countPair 8 3 (pc' := 18) (ls' := [(0, .inr (.inr (.inl k0))), (1, .inl k1), (2, .inl k2), (3, .inl s5.1), (4, .inl s5.2)]) (st' := [.inl k1, .inl s5.2, .inr (.inr (.inl k0))]) rfl ?_
    by_cases c5 : qO ah k0 0 = true
    case neg => exact absurd ((if_neg c5).symm.trans h) (by simp)
    have h := (if_pos c5).symm.trans h
    obtain ⟨q3, h4, h⟩ := Option.bind_eq_some_iff.mp h
    refine J_callV (md' := md_X0_victimIn) (As := [.inl s5.2, .inl k1]) (st := []) (cs' := (0, 0)) (st' := [.inl q3.1]) (jat ok_X0_countPair 11 (pc := 18) (i := .invokevirtual 56) (n := 3) rfl rfl) ml_RX0_56 yv_X0_victimIn c5 (c_X0_victimIn l g (d + 0) h4) (jRo_of (by decide)) (Nat.le_of_ble_eq_true rfl) ⟨Nat.le_of_ble_eq_true rfl, Nat.le_of_ble_eq_true rfl⟩ rfl rfl rfl ?_
    refine J_seg ok_X0_countPair 12 1 (pc' := 22) (ls' := [(0, .inr (.inr (.inl k0))), (1, .inl k1), (2, .inl k2), (3, .inl s5.1), (4, .inl s5.2)]) (st' := [.inl k2, .inl q3.1]) rfl ?_
    refine J_ne (jat ok_X0_countPair 13 (pc := 22) (i := .if_icmp .ne 6) (n := 3) rfl rfl) (tgt := 28) (by decide) (fun c => ?_) (fun c => ?_)
    · have h := (if_neg c).symm.trans h
      refine J_seg ok_X0_countPair 15 2 (pc' := 5) (ls' := [(4, .inl (s5.2 + 1)), (0, .inr (.inr (.inl k0))), (1, .inl k1), (2, .inl k2), (3, .inl s5.1)]) (st' := []) rfl ?_
      exact J_sub (ls' := [(0, .inr (.inr (.inl k0))), (1, .inl k1), (2, .inl k2), (3, .inl s5.1), (4, .inl (s5.2 + 1))]) [1, 2, 3, 4, 0] rfl (hN ((s5.1, s5.2 + 1), q3.2) (Option.some.inj h).symm)
    · have h := (if_pos c).symm.trans h
      refine J_seg ok_X0_countPair 14 3 (pc' := 5) (ls' := [(4, .inl (s5.2 + 1)), (3, .inl (s5.1 + 1)), (0, .inr (.inr (.inl k0))), (1, .inl k1), (2, .inl k2)]) (st' := []) rfl ?_
      exact J_sub (ls' := [(0, .inr (.inr (.inl k0))), (1, .inl k1), (2, .inl k2), (3, .inl (s5.1 + 1)), (4, .inl (s5.2 + 1))]) [2, 3, 4, 1, 0] rfl (hN ((s5.1 + 1, s5.2 + 1), q3.2) (Option.some.inj h).symm)
def f_X0_countPair (x0 : Option Nat) (x1 : Int32) (x2 : Int32) (ah : AH) : Option (Int32 × AH) :=
  (jloop (f_X0_countPair_b5 x0 x1 x2) jfuel (0, 0) ah).bind fun q6 => match q6 with | .inl r => none | .inr z8 => some (z8.1, z8.2)
set_option maxRecDepth 100000 in
set_option maxHeartbeats 4000000 in
theorem k_X0_countPair {l : Launch} {g : GX} (d : Nat) {Q : jQ} {x0 : Option Nat} {x1 : Int32} {x2 : Int32} (ah : AH) (out : Int32 × AH) (h : f_X0_countPair x0 x1 x2 ah = some out) (hR : jRetI l g md_X0_countPair (jRm (d + 1) md_X0_countPair) Q (0, 0) out.1 out.2) : J l g md_X0_countPair (jRm (d + 1) md_X0_countPair) Q 0 [(0, .inr (.inr (.inl x0))), (1, .inl x1), (2, .inl x2)] [] ah (0, 0) := by
  unfold f_X0_countPair at h
  refine J_seg ok_X0_countPair 0 4 (pc' := 5) (ls' := [(4, .inl 0), (3, .inl 0), (0, .inr (.inr (.inl x0))), (1, .inl x1), (2, .inl x2)]) (st' := []) rfl ?_
  obtain ⟨q6, h7, h⟩ := Option.bind_eq_some_iff.mp h
  refine J_sub (ls' := [(0, .inr (.inr (.inl x0))), (1, .inl x1), (2, .inl x2), (3, .inl 0), (4, .inl 0)]) [2, 3, 4, 1, 0] rfl ?_
  refine J_loop (pE := 34) (lh := fun t9 => [(0, .inr (.inr (.inl x0))), (1, .inl x1), (2, .inl x2), (3, .inl t9.1), (4, .inl t9.2)]) (lx := fun z8 => [(3, .inl z8)]) (P := jRetN) (fun s ah out hb hR hX hN => k_X0_countPair_b5 d s ah out hb hR hX hN) jfuel (0, 0) _ _ h7 (fun r e => ?_) (fun z8 e => ?_)
  · subst e
    dsimp only at h
    cases h
  · subst e
    dsimp only at h
    refine J_seg ok_X0_countPair 17 1 (pc' := 35) (ls' := [(3, .inl z8.1)]) (st' := [.inl z8.1]) rfl ?_
    have h := Option.some.inj h
    subst h
    exact hR _ _ (jat ok_X0_countPair 18 (pc := 35) (i := .ireturn) (n := 1) rfl rfl)
theorem c_X0_countPair (l : Launch) (g : GX) (d : Nat) {x0 : Option Nat} {x1 : Int32} {x2 : Int32} {ah : AH} {q : Int32 × AH} (h : f_X0_countPair x0 x1 x2 ah = some q) : jM l g (d + 1) md_X0_countPair [.inr (.inr (.inl x0)), .inl x1, .inl x2] ah (some (.inl q.1)) q.2 :=
  jM_of (by decide) (Nat.le_of_ble_eq_true rfl) (k_X0_countPair d ah q h (fun pc ls hd => J_reti hd rfl (jPV_int _) rfl (Nat.le_refl _) rfl rfl))
def f_X0_countMutual_b5 (k0 : Option Nat) (k1 : Int32) (k2 : Int32) (s5 : Int32 × Int32) (ah : AH) : Option ((Unit × AH) ⊕ (((Int32) × AH) ⊕ ((Int32 × Int32) × AH))) :=
  (gI ah k0 0 3).bind fun v1 => if v1 ≤ s5.2 then (some (.inr (.inl (s5.1, ah)))) else (if qO ah k0 0 = true then ((f_X0_victimIn k0 s5.2 k1 ah).bind fun q3 => if q3.1 = k2 then (if qO q3.2 k0 0 = true then ((f_X0_victimIn k0 s5.2 k2 q3.2).bind fun q6 => if q6.1 = k1 then (some (.inr (.inr ((s5.1 + 1, s5.2 + 1), q6.2)))) else (some (.inr (.inr ((s5.1, s5.2 + 1), q6.2))))) else none) else (some (.inr (.inr ((s5.1, s5.2 + 1), q3.2))))) else none)
set_option maxRecDepth 100000 in
set_option maxHeartbeats 4000000 in
theorem k_X0_countMutual_b5 {l : Launch} {g : GX} (d : Nat) {Q : jQ} {k0 : Option Nat} {k1 : Int32} {k2 : Int32} (s5 : Int32 × Int32) (ah : AH) (out : (Unit × AH) ⊕ (((Int32) × AH) ⊕ ((Int32 × Int32) × AH))) (h : f_X0_countMutual_b5 k0 k1 k2 s5 ah = some out) (hR : ∀ q, out = .inl q → jRetN q.1 q.2) (hX : ∀ q, out = .inr (.inl q) → J l g md_X0_countMutual (jRm (d + 1) md_X0_countMutual) Q 45 [(3, .inl q.1)] [] q.2 (0, 0)) (hN : ∀ q, out = .inr (.inr q) → J l g md_X0_countMutual (jRm (d + 1) md_X0_countMutual) Q 5 [(0, .inr (.inr (.inl k0))), (1, .inl k1), (2, .inl k2), (3, .inl q.1.1), (4, .inl q.1.2)] [] q.2 (0, 0)) : J l g md_X0_countMutual (jRm (d + 1) md_X0_countMutual) Q 5 [(0, .inr (.inr (.inl k0))), (1, .inl k1), (2, .inl k2), (3, .inl s5.1), (4, .inl s5.2)] [] ah (0, 0) := by
  unfold f_X0_countMutual_b5 at h
  refine J_seg ok_X0_countMutual 4 2 (pc' := 8) (ls' := [(0, .inr (.inr (.inl k0))), (1, .inl k1), (2, .inl k2), (3, .inl s5.1), (4, .inl s5.2)]) (st' := [.inr (.inr (.inl k0)), .inl s5.2]) rfl ?_
  obtain ⟨v1, h2, h⟩ := Option.bind_eq_some_iff.mp h
  refine J_getI (jat ok_X0_countMutual 6 (pc := 8) (i := .getfield 21) (n := 3) rfl rfl) fl_RX0_21 h2 ?_
  refine J_ge (jat ok_X0_countMutual 7 (pc := 11) (i := .if_icmp .ge 34) (n := 3) rfl rfl) (tgt := 45) (by decide) (fun c => ?_) (fun c => ?_)
  · have h := (if_pos c).symm.trans h
    exact J_sub (ls' := [(3, .inl s5.1)]) [3] rfl (hX (s5.1, ah) (Option.some.inj h).symm)
  · have h := (if_neg c).symm.trans h
    refine J_seg ok_X0_countMutual 8 3 (pc' := 18) (ls' := [(0, .inr (.inr (.inl k0))), (1, .inl k1), (2, .inl k2), (3, .inl s5.1), (4, .inl s5.2)]) (st' := [.inl k1, .inl s5.2, .inr (.inr (.inl k0))]) rfl ?_
    by_cases c5 : qO ah k0 0 = true
    case neg => exact absurd ((if_neg c5).symm.trans h) (by simp)
    have h := (if_pos c5).symm.trans h
    obtain ⟨q3, h4, h⟩ := Option.bind_eq_some_iff.mp h
    refine J_callV (md' := md_X0_victimIn) (As := [.inl s5.2, .inl k1]) (st := []) (cs' := (0, 0)) (st' := [.inl q3.1]) (jat ok_X0_countMutual 11 (pc := 18) (i := .invokevirtual 56) (n := 3) rfl rfl) ml_RX0_56 yv_X0_victimIn c5 (c_X0_victimIn l g (d + 0) h4) (jRo_of (by decide)) (Nat.le_of_ble_eq_true rfl) ⟨Nat.le_of_ble_eq_true rfl, Nat.le_of_ble_eq_true rfl⟩ rfl rfl rfl ?_
    refine J_seg ok_X0_countMutual 12 1 (pc' := 22) (ls' := [(0, .inr (.inr (.inl k0))), (1, .inl k1), (2, .inl k2), (3, .inl s5.1), (4, .inl s5.2)]) (st' := [.inl k2, .inl q3.1]) rfl ?_
    refine J_ne (jat ok_X0_countMutual 13 (pc := 22) (i := .if_icmp .ne 17) (n := 3) rfl rfl) (tgt := 39) (by decide) (fun c => ?_) (fun c => ?_)
    · have h := (if_neg c).symm.trans h
      refine J_seg ok_X0_countMutual 21 2 (pc' := 5) (ls' := [(4, .inl (s5.2 + 1)), (0, .inr (.inr (.inl k0))), (1, .inl k1), (2, .inl k2), (3, .inl s5.1)]) (st' := []) rfl ?_
      exact J_sub (ls' := [(0, .inr (.inr (.inl k0))), (1, .inl k1), (2, .inl k2), (3, .inl s5.1), (4, .inl (s5.2 + 1))]) [1, 2, 3, 4, 0] rfl (hN ((s5.1, s5.2 + 1), q3.2) (Option.some.inj h).symm)
    · have h := (if_pos c).symm.trans h
      refine J_seg ok_X0_countMutual 14 3 (pc' := 29) (ls' := [(0, .inr (.inr (.inl k0))), (1, .inl k1), (2, .inl k2), (3, .inl s5.1), (4, .inl s5.2)]) (st' := [.inl k2, .inl s5.2, .inr (.inr (.inl k0))]) rfl ?_
      by_cases c8 : qO q3.2 k0 0 = true
      case neg => exact absurd ((if_neg c8).symm.trans h) (by simp)
      have h := (if_pos c8).symm.trans h
      obtain ⟨q6, h7, h⟩ := Option.bind_eq_some_iff.mp h
      refine J_callV (md' := md_X0_victimIn) (As := [.inl s5.2, .inl k2]) (st := []) (cs' := (0, 0)) (st' := [.inl q6.1]) (jat ok_X0_countMutual 17 (pc := 29) (i := .invokevirtual 56) (n := 3) rfl rfl) ml_RX0_56 yv_X0_victimIn c8 (c_X0_victimIn l g (d + 0) h7) (jRo_of (by decide)) (Nat.le_of_ble_eq_true rfl) ⟨Nat.le_of_ble_eq_true rfl, Nat.le_of_ble_eq_true rfl⟩ rfl rfl rfl ?_
      refine J_seg ok_X0_countMutual 18 1 (pc' := 33) (ls' := [(0, .inr (.inr (.inl k0))), (1, .inl k1), (2, .inl k2), (3, .inl s5.1), (4, .inl s5.2)]) (st' := [.inl k1, .inl q6.1]) rfl ?_
      refine J_ne (jat ok_X0_countMutual 19 (pc := 33) (i := .if_icmp .ne 6) (n := 3) rfl rfl) (tgt := 39) (by decide) (fun c => ?_) (fun c => ?_)
      · have h := (if_neg c).symm.trans h
        refine J_seg ok_X0_countMutual 21 2 (pc' := 5) (ls' := [(4, .inl (s5.2 + 1)), (0, .inr (.inr (.inl k0))), (1, .inl k1), (2, .inl k2), (3, .inl s5.1)]) (st' := []) rfl ?_
        exact J_sub (ls' := [(0, .inr (.inr (.inl k0))), (1, .inl k1), (2, .inl k2), (3, .inl s5.1), (4, .inl (s5.2 + 1))]) [1, 2, 3, 4, 0] rfl (hN ((s5.1, s5.2 + 1), q6.2) (Option.some.inj h).symm)
      · have h := (if_pos c).symm.trans h
        refine J_seg ok_X0_countMutual 20 3 (pc' := 5) (ls' := [(4, .inl (s5.2 + 1)), (3, .inl (s5.1 + 1)), (0, .inr (.inr (.inl k0))), (1, .inl k1), (2, .inl k2)]) (st' := []) rfl ?_
        exact J_sub (ls' := [(0, .inr (.inr (.inl k0))), (1, .inl k1), (2, .inl k2), (3, .inl (s5.1 + 1)), (4, .inl (s5.2 + 1))]) [2, 3, 4, 1, 0] rfl (hN ((s5.1 + 1, s5.2 + 1), q6.2) (Option.some.inj h).symm)
def f_X0_countMutual (x0 : Option Nat) (x1 : Int32) (x2 : Int32) (ah : AH) : Option (Int32 × AH) :=
  (jloop (f_X0_countMutual_b5 x0 x1 x2) jfuel (0, 0) ah).bind fun q9 => match q9 with | .inl r => none | .inr z11 => some (z11.1, z11.2)
set_option maxRecDepth 100000 in
set_option maxHeartbeats 4000000 in
theorem k_X0_countMutual {l : Launch} {g : GX} (d : Nat) {Q : jQ} {x0 : Option Nat} {x1 : Int32} {x2 : Int32} (ah : AH) (out : Int32 × AH) (h : f_X0_countMutual x0 x1 x2 ah = some out) (hR : jRetI l g md_X0_countMutual (jRm (d + 1) md_X0_countMutual) Q (0, 0) out.1 out.2) : J l g md_X0_countMutual (jRm (d + 1) md_X0_countMutual) Q 0 [(0, .inr (.inr (.inl x0))), (1, .inl x1), (2, .inl x2)] [] ah (0, 0) := by
  unfold f_X0_countMutual at h
  refine J_seg ok_X0_countMutual 0 4 (pc' := 5) (ls' := [(4, .inl 0), (3, .inl 0), (0, .inr (.inr (.inl x0))), (1, .inl x1), (2, .inl x2)]) (st' := []) rfl ?_
  obtain ⟨q9, h10, h⟩ := Option.bind_eq_some_iff.mp h
  refine J_sub (ls' := [(0, .inr (.inr (.inl x0))), (1, .inl x1), (2, .inl x2), (3, .inl 0), (4, .inl 0)]) [2, 3, 4, 1, 0] rfl ?_
  refine J_loop (pE := 45) (lh := fun t12 => [(0, .inr (.inr (.inl x0))), (1, .inl x1), (2, .inl x2), (3, .inl t12.1), (4, .inl t12.2)]) (lx := fun z11 => [(3, .inl z11)]) (P := jRetN) (fun s ah out hb hR hX hN => k_X0_countMutual_b5 d s ah out hb hR hX hN) jfuel (0, 0) _ _ h10 (fun r e => ?_) (fun z11 e => ?_)
  · subst e
    dsimp only at h
    cases h
  · subst e
    dsimp only at h
    refine J_seg ok_X0_countMutual 23 1 (pc' := 46) (ls' := [(3, .inl z11.1)]) (st' := [.inl z11.1]) rfl ?_
    have h := Option.some.inj h
    subst h
    exact hR _ _ (jat ok_X0_countMutual 24 (pc := 46) (i := .ireturn) (n := 1) rfl rfl)
theorem c_X0_countMutual (l : Launch) (g : GX) (d : Nat) {x0 : Option Nat} {x1 : Int32} {x2 : Int32} {ah : AH} {q : Int32 × AH} (h : f_X0_countMutual x0 x1 x2 ah = some q) : jM l g (d + 1) md_X0_countMutual [.inr (.inr (.inl x0)), .inl x1, .inl x2] ah (some (.inl q.1)) q.2 :=
  jM_of (by decide) (Nat.le_of_ble_eq_true rfl) (k_X0_countMutual d ah q h (fun pc ls hd => J_reti hd rfl (jPV_int _) rfl (Nat.le_refl _) rfl rfl))
def f_J7_fill_53178_b5 (k0 : Option Nat) (k1 : Int32) (k3 : Int32) (s5 : Int32) (ah : AH) : Option ((Unit × AH) ⊕ (((Unit) × AH) ⊕ ((Int32) × AH))) :=
  if k3 ≤ s5 then (some (.inr (.inl ((), ah)))) else ((sA ah k0 s5 k1).bind fun a3 => some (.inr (.inr (s5 + 1, a3))))
set_option maxRecDepth 100000 in
set_option maxHeartbeats 4000000 in
theorem k_J7_fill_53178_b5 {l : Launch} {g : GX} (d : Nat) {Q : jQ} {k0 : Option Nat} {k1 : Int32} {k3 : Int32} (s5 : Int32) (ah : AH) (out : (Unit × AH) ⊕ (((Unit) × AH) ⊕ ((Int32) × AH))) (h : f_J7_fill_53178_b5 k0 k1 k3 s5 ah = some out) (hR : ∀ q, out = .inl q → jRetN q.1 q.2) (hX : ∀ q, out = .inr (.inl q) → J l g md_J7_fill_53178 (jRm (d + 0) md_J7_fill_53178) Q 20 [] [] q.2 (0, 0)) (hN : ∀ q, out = .inr (.inr q) → J l g md_J7_fill_53178 (jRm (d + 0) md_J7_fill_53178) Q 5 [(0, .inr (.inr (.inl k0))), (1, .inl k1), (2, .inl q.1), (3, .inl k3)] [] q.2 (0, 0)) : J l g md_J7_fill_53178 (jRm (d + 0) md_J7_fill_53178) Q 5 [(0, .inr (.inr (.inl k0))), (1, .inl k1), (2, .inl s5), (3, .inl k3)] [] ah (0, 0) := by
  unfold f_J7_fill_53178_b5 at h
  refine J_seg ok_J7_fill_53178 5 2 (pc' := 7) (ls' := [(0, .inr (.inr (.inl k0))), (1, .inl k1), (2, .inl s5), (3, .inl k3)]) (st' := [.inl k3, .inl s5]) rfl ?_
  refine J_ge (jat ok_J7_fill_53178 7 (pc := 7) (i := .if_icmp .ge 13) (n := 3) rfl rfl) (tgt := 20) (by decide) (fun c => ?_) (fun c => ?_)
  · have h := (if_pos c).symm.trans h
    exact J_sub (ls' := []) [] rfl (hX ((), ah) (Option.some.inj h).symm)
  · have h := (if_neg c).symm.trans h
    refine J_seg ok_J7_fill_53178 8 3 (pc' := 13) (ls' := [(0, .inr (.inr (.inl k0))), (1, .inl k1), (2, .inl s5), (3, .inl k3)]) (st' := [.inl k1, .inl s5, .inr (.inr (.inl k0))]) rfl ?_
    obtain ⟨a3, h4, h⟩ := Option.bind_eq_some_iff.mp h
    refine J_iast (jat ok_J7_fill_53178 11 (pc := 13) (i := .iastore) (n := 1) rfl rfl) h4 ?_
    refine J_seg ok_J7_fill_53178 12 2 (pc' := 5) (ls' := [(2, .inl (s5 + 1)), (0, .inr (.inr (.inl k0))), (1, .inl k1), (3, .inl k3)]) (st' := []) rfl ?_
    exact J_sub (ls' := [(0, .inr (.inr (.inl k0))), (1, .inl k1), (2, .inl (s5 + 1)), (3, .inl k3)]) [1, 2, 0, 3] rfl (hN (s5 + 1, a3) (Option.some.inj h).symm)
def f_J7_fill_53178 (x0 : Option Nat) (x1 : Int32) (ah : AH) : Option (Unit × AH) :=
  (lA ah x0).bind fun v1 => (jloop (f_J7_fill_53178_b5 x0 x1 v1) jfuel 0 ah).bind fun q5 => match q5 with | .inl r => none | .inr z7 => some ((), z7.2)
set_option maxRecDepth 100000 in
set_option maxHeartbeats 4000000 in
theorem k_J7_fill_53178 {l : Launch} {g : GX} (d : Nat) {Q : jQ} {x0 : Option Nat} {x1 : Int32} (ah : AH) (out : Unit × AH) (h : f_J7_fill_53178 x0 x1 ah = some out) (hR : jRetV l g md_J7_fill_53178 (jRm (d + 0) md_J7_fill_53178) Q (0, 0) out.1 out.2) : J l g md_J7_fill_53178 (jRm (d + 0) md_J7_fill_53178) Q 0 [(0, .inr (.inr (.inl x0))), (1, .inl x1)] [] ah (0, 0) := by
  unfold f_J7_fill_53178 at h
  refine J_seg ok_J7_fill_53178 0 3 (pc' := 3) (ls' := [(2, .inl 0), (0, .inr (.inr (.inl x0))), (1, .inl x1)]) (st' := [.inr (.inr (.inl x0))]) rfl ?_
  obtain ⟨v1, h2, h⟩ := Option.bind_eq_some_iff.mp h
  refine J_alen (jat ok_J7_fill_53178 3 (pc := 3) (i := .arraylength) (n := 1) rfl rfl) h2 ?_
  refine J_seg ok_J7_fill_53178 4 1 (pc' := 5) (ls' := [(3, .inl v1), (2, .inl 0), (0, .inr (.inr (.inl x0))), (1, .inl x1)]) (st' := []) rfl ?_
  obtain ⟨q5, h6, h⟩ := Option.bind_eq_some_iff.mp h
  refine J_sub (ls' := [(0, .inr (.inr (.inl x0))), (1, .inl x1), (2, .inl 0), (3, .inl v1)]) [2, 3, 1, 0] rfl ?_
  refine J_loop (pE := 20) (lh := fun t8 => [(0, .inr (.inr (.inl x0))), (1, .inl x1), (2, .inl t8), (3, .inl v1)]) (lx := fun z7 => []) (P := jRetN) (fun s ah out hb hR hX hN => k_J7_fill_53178_b5 d s ah out hb hR hX hN) jfuel 0 _ _ h6 (fun r e => ?_) (fun z7 e => ?_)
  · subst e
    dsimp only at h
    cases h
  · subst e
    dsimp only at h
    have h := Option.some.inj h
    subst h
    exact hR _ _ (jat ok_J7_fill_53178 14 (pc := 20) (i := .return_) (n := 1) rfl rfl)
theorem c_J7_fill_53178 (l : Launch) (g : GX) (d : Nat) {x0 : Option Nat} {x1 : Int32} {ah : AH} {q : Unit × AH} (h : f_J7_fill_53178 x0 x1 ah = some q) : jM l g (d + 0) md_J7_fill_53178 [.inr (.inr (.inl x0)), .inl x1] ah none q.2 :=
  jM_of (by decide) (Nat.le_of_ble_eq_true rfl) (k_J7_fill_53178 d ah q h (fun pc ls hd => J_retv hd rfl rfl (Nat.le_refl _) rfl rfl))
def f_X0_mostAlike_b12 (k0 : Option Nat) (k1 : Int32) (s12 : Int32 × Int32) (ah : AH) : Option ((Unit × AH) ⊕ (((Int32) × AH) ⊕ ((Int32 × Int32) × AH))) :=
  (gI ah k0 0 3).bind fun v5 => if v5 ≤ s12.2 then (some (.inr (.inl (s12.1, ah)))) else (if 320 ≤ s12.2 then (some (.inr (.inl (s12.1, ah)))) else ((gR ah k0 0 0).bind fun v7 => (gA ah v7 s12.2).bind fun v9 => if qO ah k0 0 = true then ((f_X0_victimsOf k0 v9 k1 ah).bind fun q11 => if q11.1 < 0 then (some (.inr (.inr ((s12.1, s12.2 + 1), q11.2)))) else (if 64 ≤ q11.1 then (some (.inr (.inr ((s12.1, s12.2 + 1), q11.2)))) else ((gR q11.2 k0 0 2).bind fun v14 => (gA q11.2 v14 q11.1).bind fun v16 => (sA q11.2 v14 q11.1 (v16 + 1)).bind fun a18 => (gR a18 k0 0 2).bind fun v20 => (gA a18 v20 q11.1).bind fun v22 => some (.inr (.inr (((if s12.1 < v22 then v22 else s12.1), s12.2 + 1), a18)))))) else none))
set_option maxRecDepth 100000 in
set_option maxHeartbeats 4000000 in
theorem k_X0_mostAlike_b12 {l : Launch} {g : GX} (d : Nat) {Q : jQ} {k0 : Option Nat} {k1 : Int32} (s12 : Int32 × Int32) (ah : AH) (out : (Unit × AH) ⊕ (((Int32) × AH) ⊕ ((Int32 × Int32) × AH))) (h : f_X0_mostAlike_b12 k0 k1 s12 ah = some out) (hR : ∀ q, out = .inl q → jRetN q.1 q.2) (hX : ∀ q, out = .inr (.inl q) → J l g md_X0_mostAlike (jRm (d + 1) md_X0_mostAlike) Q 81 [(2, .inl q.1)] [] q.2 (0, 0)) (hN : ∀ q, out = .inr (.inr q) → J l g md_X0_mostAlike (jRm (d + 1) md_X0_mostAlike) Q 12 [(0, .inr (.inr (.inl k0))), (1, .inl k1), (2, .inl q.1.1), (3, .inl q.1.2)] [] q.2 (0, 0)) : J l g md_X0_mostAlike (jRm (d + 1) md_X0_mostAlike) Q 12 [(0, .inr (.inr (.inl k0))), (1, .inl k1), (2, .inl s12.1), (3, .inl s12.2)] [] ah (0, 0) := by
  unfold f_X0_mostAlike_b12 at h
  refine J_seg ok_X0_mostAlike 8 2 (pc' := 14) (ls' := [(0, .inr (.inr (.inl k0))), (1, .inl k1), (2, .inl s12.1), (3, .inl s12.2)]) (st' := [.inr (.inr (.inl k0)), .inl s12.2]) rfl ?_
  obtain ⟨v5, h6, h⟩ := Option.bind_eq_some_iff.mp h
  refine J_getI (jat ok_X0_mostAlike 10 (pc := 14) (i := .getfield 21) (n := 3) rfl rfl) fl_RX0_21 h6 ?_
  refine J_ge (jat ok_X0_mostAlike 11 (pc := 17) (i := .if_icmp .ge 64) (n := 3) rfl rfl) (tgt := 81) (by decide) (fun c => ?_) (fun c => ?_)
  · have h := (if_pos c).symm.trans h
    exact J_sub (ls' := [(2, .inl s12.1)]) [2] rfl (hX (s12.1, ah) (Option.some.inj h).symm)
  · have h := (if_neg c).symm.trans h
    refine J_seg ok_X0_mostAlike 12 2 (pc' := 24) (ls' := [(0, .inr (.inr (.inl k0))), (1, .inl k1), (2, .inl s12.1), (3, .inl s12.2)]) (st' := [.inl 320, .inl s12.2]) rfl ?_
    refine J_ge (jat ok_X0_mostAlike 14 (pc := 24) (i := .if_icmp .ge 57) (n := 3) rfl rfl) (tgt := 81) (by decide) (fun c => ?_) (fun c => ?_)
    · have h := (if_pos c).symm.trans h
      exact J_sub (ls' := [(2, .inl s12.1)]) [2] rfl (hX (s12.1, ah) (Option.some.inj h).symm)
    · have h := (if_neg c).symm.trans h
      refine J_seg ok_X0_mostAlike 15 2 (pc' := 29) (ls' := [(0, .inr (.inr (.inl k0))), (1, .inl k1), (2, .inl s12.1), (3, .inl s12.2)]) (st' := [.inr (.inr (.inl k0)), .inr (.inr (.inl k0))]) rfl ?_
      obtain ⟨v7, h8, h⟩ := Option.bind_eq_some_iff.mp h
      refine J_getR (jat ok_X0_mostAlike 17 (pc := 29) (i := .getfield 9) (n := 3) rfl rfl) fl_RX0_9 h8 ?_
      refine J_seg ok_X0_mostAlike 18 1 (pc' := 33) (ls' := [(0, .inr (.inr (.inl k0))), (1, .inl k1), (2, .inl s12.1), (3, .inl s12.2)]) (st' := [.inl s12.2, .inr (.inr (.inl v7)), .inr (.inr (.inl k0))]) rfl ?_
      obtain ⟨v9, h10, h⟩ := Option.bind_eq_some_iff.mp h
      refine J_iald (jat ok_X0_mostAlike 19 (pc := 33) (i := .iaload) (n := 1) rfl rfl) h10 ?_
      refine J_seg ok_X0_mostAlike 20 1 (pc' := 35) (ls' := [(0, .inr (.inr (.inl k0))), (1, .inl k1), (2, .inl s12.1), (3, .inl s12.2)]) (st' := [.inl k1, .inl v9, .inr (.inr (.inl k0))]) rfl ?_
      by_cases c13 : qO ah k0 0 = true
      case neg => exact absurd ((if_neg c13).symm.trans h) (by simp)
      have h := (if_pos c13).symm.trans h
      obtain ⟨q11, h12, h⟩ := Option.bind_eq_some_iff.mp h
      refine J_callV (md' := md_X0_victimsOf) (As := [.inl v9, .inl k1]) (st := []) (cs' := (0, 0)) (st' := [.inl q11.1]) (jat ok_X0_mostAlike 21 (pc := 35) (i := .invokevirtual 52) (n := 3) rfl rfl) ml_RX0_52 yv_X0_victimsOf c13 (c_X0_victimsOf l g (d + 0) h12) (jRo_of (by decide)) (Nat.le_of_ble_eq_true rfl) ⟨Nat.le_of_ble_eq_true rfl, Nat.le_of_ble_eq_true rfl⟩ rfl rfl rfl ?_
      refine J_seg ok_X0_mostAlike 22 2 (pc' := 42) (ls' := [(4, .inl q11.1), (0, .inr (.inr (.inl k0))), (1, .inl k1), (2, .inl s12.1), (3, .inl s12.2)]) (st' := [.inl q11.1]) rfl ?_
      refine J_lt0 (jat ok_X0_mostAlike 24 (pc := 42) (i := .ifCond .lt 33) (n := 3) rfl rfl) (tgt := 75) (by decide) (fun c => ?_) (fun c => ?_)
      · have h := (if_pos c).symm.trans h
        refine J_seg ok_X0_mostAlike 43 2 (pc' := 12) (ls' := [(3, .inl (s12.2 + 1)), (4, .inl q11.1), (0, .inr (.inr (.inl k0))), (1, .inl k1), (2, .inl s12.1)]) (st' := []) rfl ?_
        exact J_sub (ls' := [(0, .inr (.inr (.inl k0))), (1, .inl k1), (2, .inl s12.1), (3, .inl (s12.2 + 1))]) [2, 3, 4, 0] rfl (hN ((s12.1, s12.2 + 1), q11.2) (Option.some.inj h).symm)
      · have h := (if_neg c).symm.trans h
        refine J_seg ok_X0_mostAlike 25 2 (pc' := 49) (ls' := [(4, .inl q11.1), (0, .inr (.inr (.inl k0))), (1, .inl k1), (2, .inl s12.1), (3, .inl s12.2)]) (st' := [.inl 64, .inl q11.1]) rfl ?_
        refine J_ge (jat ok_X0_mostAlike 27 (pc := 49) (i := .if_icmp .ge 26) (n := 3) rfl rfl) (tgt := 75) (by decide) (fun c => ?_) (fun c => ?_)
        · have h := (if_pos c).symm.trans h
          refine J_seg ok_X0_mostAlike 43 2 (pc' := 12) (ls' := [(3, .inl (s12.2 + 1)), (4, .inl q11.1), (0, .inr (.inr (.inl k0))), (1, .inl k1), (2, .inl s12.1)]) (st' := []) rfl ?_
          exact J_sub (ls' := [(0, .inr (.inr (.inl k0))), (1, .inl k1), (2, .inl s12.1), (3, .inl (s12.2 + 1))]) [2, 3, 4, 0] rfl (hN ((s12.1, s12.2 + 1), q11.2) (Option.some.inj h).symm)
        · have h := (if_neg c).symm.trans h
          refine J_seg ok_X0_mostAlike 28 1 (pc' := 53) (ls' := [(4, .inl q11.1), (0, .inr (.inr (.inl k0))), (1, .inl k1), (2, .inl s12.1), (3, .inl s12.2)]) (st' := [.inr (.inr (.inl k0))]) rfl ?_
          obtain ⟨v14, h15, h⟩ := Option.bind_eq_some_iff.mp h
          refine J_getR (jat ok_X0_mostAlike 29 (pc := 53) (i := .getfield 18) (n := 3) rfl rfl) fl_RX0_18 h15 ?_
          refine J_seg ok_X0_mostAlike 30 2 (pc' := 59) (ls' := [(4, .inl q11.1), (0, .inr (.inr (.inl k0))), (1, .inl k1), (2, .inl s12.1), (3, .inl s12.2)]) (st' := [.inl q11.1, .inr (.inr (.inl v14)), .inl q11.1, .inr (.inr (.inl v14))]) rfl ?_
          obtain ⟨v16, h17, h⟩ := Option.bind_eq_some_iff.mp h
          refine J_iald (jat ok_X0_mostAlike 32 (pc := 59) (i := .iaload) (n := 1) rfl rfl) h17 ?_
          refine J_seg ok_X0_mostAlike 33 2 (pc' := 62) (ls' := [(4, .inl q11.1), (0, .inr (.inr (.inl k0))), (1, .inl k1), (2, .inl s12.1), (3, .inl s12.2)]) (st' := [.inl (v16 + 1), .inl q11.1, .inr (.inr (.inl v14))]) rfl ?_
          obtain ⟨a18, h19, h⟩ := Option.bind_eq_some_iff.mp h
          refine J_iast (jat ok_X0_mostAlike 35 (pc := 62) (i := .iastore) (n := 1) rfl rfl) h19 ?_
          refine J_seg ok_X0_mostAlike 36 2 (pc' := 65) (ls' := [(4, .inl q11.1), (0, .inr (.inr (.inl k0))), (1, .inl k1), (2, .inl s12.1), (3, .inl s12.2)]) (st' := [.inr (.inr (.inl k0)), .inl s12.1]) rfl ?_
          obtain ⟨v20, h21, h⟩ := Option.bind_eq_some_iff.mp h
          refine J_getR (jat ok_X0_mostAlike 38 (pc := 65) (i := .getfield 18) (n := 3) rfl rfl) fl_RX0_18 h21 ?_
          refine J_seg ok_X0_mostAlike 39 1 (pc' := 70) (ls' := [(4, .inl q11.1), (0, .inr (.inr (.inl k0))), (1, .inl k1), (2, .inl s12.1), (3, .inl s12.2)]) (st' := [.inl q11.1, .inr (.inr (.inl v20)), .inl s12.1]) rfl ?_
          obtain ⟨v22, h23, h⟩ := Option.bind_eq_some_iff.mp h
          refine J_iald (jat ok_X0_mostAlike 40 (pc := 70) (i := .iaload) (n := 1) rfl rfl) h23 ?_
          refine J_max (jat ok_X0_mostAlike 41 (pc := 71) (i := .invokestatic 65) (n := 3) rfl rfl) mm_RX0_65 mw_max ⟨by show 1 ≤ d + 1; omega, by show 21 ≤ 64 * (d + 1); omega⟩ (Nat.le_of_ble_eq_true rfl) ⟨Nat.le_of_ble_eq_true rfl, Nat.le_of_ble_eq_true rfl⟩ ?_
          refine J_seg ok_X0_mostAlike 42 3 (pc' := 12) (ls' := [(3, .inl (s12.2 + 1)), (2, .inl (if s12.1 < v22 then v22 else s12.1)), (4, .inl q11.1), (0, .inr (.inr (.inl k0))), (1, .inl k1)]) (st' := []) rfl ?_
          exact J_sub (ls' := [(0, .inr (.inr (.inl k0))), (1, .inl k1), (2, .inl (if s12.1 < v22 then v22 else s12.1)), (3, .inl (s12.2 + 1))]) [3, 4, 1, 0] rfl (hN (((if s12.1 < v22 then v22 else s12.1), s12.2 + 1), a18) (Option.some.inj h).symm)
def f_X0_mostAlike (x0 : Option Nat) (x1 : Int32) (ah : AH) : Option (Int32 × AH) :=
  (gR ah x0 0 2).bind fun v1 => (f_J7_fill_53178 v1 0 ah).bind fun q3 => (jloop (f_X0_mostAlike_b12 x0 x1) jfuel (0, 0) q3.2).bind fun q24 => match q24 with | .inl r => none | .inr z26 => some (z26.1, z26.2)
set_option maxRecDepth 100000 in
set_option maxHeartbeats 4000000 in
theorem k_X0_mostAlike {l : Launch} {g : GX} (d : Nat) {Q : jQ} {x0 : Option Nat} {x1 : Int32} (ah : AH) (out : Int32 × AH) (h : f_X0_mostAlike x0 x1 ah = some out) (hR : jRetI l g md_X0_mostAlike (jRm (d + 1) md_X0_mostAlike) Q (0, 0) out.1 out.2) : J l g md_X0_mostAlike (jRm (d + 1) md_X0_mostAlike) Q 0 [(0, .inr (.inr (.inl x0))), (1, .inl x1)] [] ah (0, 0) := by
  unfold f_X0_mostAlike at h
  refine J_seg ok_X0_mostAlike 0 1 (pc' := 1) (ls' := [(0, .inr (.inr (.inl x0))), (1, .inl x1)]) (st' := [.inr (.inr (.inl x0))]) rfl ?_
  obtain ⟨v1, h2, h⟩ := Option.bind_eq_some_iff.mp h
  refine J_getR (jat ok_X0_mostAlike 1 (pc := 1) (i := .getfield 18) (n := 3) rfl rfl) fl_RX0_18 h2 ?_
  refine J_seg ok_X0_mostAlike 2 1 (pc' := 5) (ls' := [(0, .inr (.inr (.inl x0))), (1, .inl x1)]) (st' := [.inl 0, .inr (.inr (.inl v1))]) rfl ?_
  obtain ⟨q3, h4, h⟩ := Option.bind_eq_some_iff.mp h
  refine J_callS (md' := md_J7_fill_53178) (As := [.inr (.inr (.inl v1)), .inl 0]) (st := []) (cs' := (0, 0)) (st' := []) (jat ok_X0_mostAlike 3 (pc := 5) (i := .invokestatic 59) (n := 3) rfl rfl) (Or.inl ml_RX0_59) ys_J7_fill_53178 (c_J7_fill_53178 l g (d + 0) h4) (jRo_of (by decide)) (Nat.le_of_ble_eq_true rfl) ⟨Nat.le_of_ble_eq_true rfl, Nat.le_of_ble_eq_true rfl⟩ rfl rfl rfl ?_
  refine J_seg ok_X0_mostAlike 4 4 (pc' := 12) (ls' := [(3, .inl 0), (2, .inl 0), (0, .inr (.inr (.inl x0))), (1, .inl x1)]) (st' := []) rfl ?_
  obtain ⟨q24, h25, h⟩ := Option.bind_eq_some_iff.mp h
  refine J_sub (ls' := [(0, .inr (.inr (.inl x0))), (1, .inl x1), (2, .inl 0), (3, .inl 0)]) [2, 3, 1, 0] rfl ?_
  refine J_loop (pE := 81) (lh := fun t27 => [(0, .inr (.inr (.inl x0))), (1, .inl x1), (2, .inl t27.1), (3, .inl t27.2)]) (lx := fun z26 => [(2, .inl z26)]) (P := jRetN) (fun s ah out hb hR hX hN => k_X0_mostAlike_b12 d s ah out hb hR hX hN) jfuel (0, 0) _ _ h25 (fun r e => ?_) (fun z26 e => ?_)
  · subst e
    dsimp only at h
    cases h
  · subst e
    dsimp only at h
    refine J_seg ok_X0_mostAlike 45 1 (pc' := 82) (ls' := [(2, .inl z26.1)]) (st' := [.inl z26.1]) rfl ?_
    have h := Option.some.inj h
    subst h
    exact hR _ _ (jat ok_X0_mostAlike 46 (pc := 82) (i := .ireturn) (n := 1) rfl rfl)
theorem c_X0_mostAlike (l : Launch) (g : GX) (d : Nat) {x0 : Option Nat} {x1 : Int32} {ah : AH} {q : Int32 × AH} (h : f_X0_mostAlike x0 x1 ah = some q) : jM l g (d + 1) md_X0_mostAlike [.inr (.inr (.inl x0)), .inl x1] ah (some (.inl q.1)) q.2 :=
  jM_of (by decide) (Nat.le_of_ble_eq_true rfl) (k_X0_mostAlike d ah q h (fun pc ls hd => J_reti hd rfl (jPV_int _) rfl (Nat.le_refl _) rfl rfl))
