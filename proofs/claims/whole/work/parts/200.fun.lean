def f_X0_init (x0 : Nat) (ah : AH) : Option (Unit × AH) :=
  (sF (ah ++ [.inl (List.replicate (Int32.toNatClampNeg 320) 0)]) (some x0) 0 0 (.inr (.inr (.inl (some ah.length))))).bind fun a1 => (sF (a1 ++ [.inl (List.replicate (Int32.toNatClampNeg 6) 0)]) (some x0) 0 1 (.inr (.inr (.inl (some a1.length))))).bind fun a3 => (sF (a3 ++ [.inl (List.replicate (Int32.toNatClampNeg 64) 0)]) (some x0) 0 2 (.inr (.inr (.inl (some a3.length))))).bind fun a5 => some ((), a5)
set_option maxRecDepth 100000 in
set_option maxHeartbeats 4000000 in
theorem k_X0_init {l : Launch} {g : GX} (d : Nat) {Q : jQ} {x0 : Nat} (ah : AH) (out : Unit × AH) (h : f_X0_init x0 ah = some out) (hR : jRetV l g md_X0_init (jRm (d + 1) md_X0_init) Q (3, 390) out.1 out.2) : J l g md_X0_init (jRm (d + 1) md_X0_init) Q 0 [(0, .inr (.inr (.inl (some x0))))] [] ah (0, 0) := by
  unfold f_X0_init at h
  refine J_seg ok_X0_init 0 1 (pc' := 1) (ls' := [(0, .inr (.inr (.inl (some x0))))]) (st' := [.inr (.inr (.inl (some x0)))]) rfl ?_
  refine J_obj (jat ok_X0_init 1 (pc := 1) (i := .invokespecial 3) (n := 3) rfl rfl) mo_RX0_3 oi_i oi_c ⟨by show 1 ≤ d + 1; omega, by show 20 ≤ 64 * (d + 1); omega⟩ (Nat.le_of_ble_eq_true rfl) ?_
  refine J_seg ok_X0_init 2 2 (pc' := 8) (ls' := [(0, .inr (.inr (.inl (some x0))))]) (st' := [.inl 320, .inr (.inr (.inl (some x0)))]) rfl ?_
  refine J_newA (cs' := (1, 320)) (jat ok_X0_init 4 (pc := 8) (i := .newarray .int) (n := 2) rfl rfl) (by decide) (by decide) ac_int (by decide) ⟨Nat.le_of_ble_eq_true rfl, Nat.le_of_ble_eq_true rfl⟩ ?_
  obtain ⟨a1, h2, h⟩ := Option.bind_eq_some_iff.mp h
  refine J_put (jat ok_X0_init 5 (pc := 10) (i := .putfield 9) (n := 3) rfl rfl) fp_RX0_9_i (jPV_arr _ _) h2 ?_
  refine J_seg ok_X0_init 6 2 (pc' := 16) (ls' := [(0, .inr (.inr (.inl (some x0))))]) (st' := [.inl 6, .inr (.inr (.inl (some x0)))]) rfl ?_
  refine J_newA (cs' := (2, 326)) (jat ok_X0_init 8 (pc := 16) (i := .newarray .int) (n := 2) rfl rfl) (by decide) (by decide) ac_int (by decide) ⟨Nat.le_of_ble_eq_true rfl, Nat.le_of_ble_eq_true rfl⟩ ?_
  obtain ⟨a3, h4, h⟩ := Option.bind_eq_some_iff.mp h
  refine J_put (jat ok_X0_init 9 (pc := 18) (i := .putfield 15) (n := 3) rfl rfl) fp_RX0_15_i (jPV_arr _ _) h4 ?_
  refine J_seg ok_X0_init 10 2 (pc' := 24) (ls' := [(0, .inr (.inr (.inl (some x0))))]) (st' := [.inl 64, .inr (.inr (.inl (some x0)))]) rfl ?_
  refine J_newA (cs' := (3, 390)) (jat ok_X0_init 12 (pc := 24) (i := .newarray .int) (n := 2) rfl rfl) (by decide) (by decide) ac_int (by decide) ⟨Nat.le_of_ble_eq_true rfl, Nat.le_of_ble_eq_true rfl⟩ ?_
  obtain ⟨a5, h6, h⟩ := Option.bind_eq_some_iff.mp h
  refine J_put (jat ok_X0_init 13 (pc := 26) (i := .putfield 18) (n := 3) rfl rfl) fp_RX0_18_i (jPV_arr _ _) h6 ?_
  have h := Option.some.inj h
  subst h
  exact hR _ _ (jat ok_X0_init 14 (pc := 29) (i := .return_) (n := 1) rfl rfl)
theorem c_X0_init (l : Launch) (g : GX) (d : Nat) {x0 : Nat} {ah : AH} {q : Unit × AH} (h : f_X0_init x0 ah = some q) : jM l g (d + 1) md_X0_init [.inr (.inr (.inl (some x0)))] ah none q.2 :=
  jM_of (by decide) (Nat.le_of_ble_eq_true rfl) (k_X0_init d ah q h (fun pc ls hd => J_retv hd rfl rfl (Nat.le_refl _) rfl rfl))
def f_J6_bitCount_0f7a4 (x0 : Int32) (ah : AH) : Option (Int32 × AH) :=
  (some (((x0 - (((x0.toUInt32 >>> (Int32.toUInt32 1 &&& Int32.toUInt32 31)).toInt32) &&& 1431655765)) &&& 858993459) + ((((x0 - (((x0.toUInt32 >>> (Int32.toUInt32 1 &&& Int32.toUInt32 31)).toInt32) &&& 1431655765)).toUInt32 >>> (Int32.toUInt32 2 &&& Int32.toUInt32 31)).toInt32) &&& 858993459))).bind fun v1 => (some (((v1 + ((v1.toUInt32 >>> (Int32.toUInt32 4 &&& Int32.toUInt32 31)).toInt32)) &&& 252645135) + ((((v1 + ((v1.toUInt32 >>> (Int32.toUInt32 4 &&& Int32.toUInt32 31)).toInt32)) &&& 252645135).toUInt32 >>> (Int32.toUInt32 8 &&& Int32.toUInt32 31)).toInt32))).bind fun v3 => some ((v3 + ((v3.toUInt32 >>> (Int32.toUInt32 16 &&& Int32.toUInt32 31)).toInt32)) &&& 63, ah)
set_option maxRecDepth 100000 in
set_option maxHeartbeats 4000000 in
theorem k_J6_bitCount_0f7a4 {l : Launch} {g : GX} (d : Nat) {Q : jQ} {x0 : Int32} (ah : AH) (out : Int32 × AH) (h : f_J6_bitCount_0f7a4 x0 ah = some out) (hR : jRetI l g md_J6_bitCount_0f7a4 (jRm (d + 0) md_J6_bitCount_0f7a4) Q (0, 0) out.1 out.2) : J l g md_J6_bitCount_0f7a4 (jRm (d + 0) md_J6_bitCount_0f7a4) Q 0 [(0, .inl x0)] [] ah (0, 0) := by
  unfold f_J6_bitCount_0f7a4 at h
  refine J_seg ok_J6_bitCount_0f7a4 0 4 (pc' := 4) (ls' := [(0, .inl x0)]) (st' := [.inl ((x0.toUInt32 >>> (Int32.toUInt32 1 &&& Int32.toUInt32 31)).toInt32), .inl x0]) rfl ?_
  refine J_ldcw (jat ok_J6_bitCount_0f7a4 4 (pc := 4) (i := .ldc_w 265) (n := 3) rfl rfl) lc_RJ6_265 ?_
  refine J_seg ok_J6_bitCount_0f7a4 5 4 (pc' := 11) (ls' := [(0, .inl (x0 - (((x0.toUInt32 >>> (Int32.toUInt32 1 &&& Int32.toUInt32 31)).toInt32) &&& 1431655765)))]) (st' := [.inl (x0 - (((x0.toUInt32 >>> (Int32.toUInt32 1 &&& Int32.toUInt32 31)).toInt32) &&& 1431655765))]) rfl ?_
  refine J_ldcw (jat ok_J6_bitCount_0f7a4 9 (pc := 11) (i := .ldc_w 266) (n := 3) rfl rfl) lc_RJ6_266 ?_
  refine J_seg ok_J6_bitCount_0f7a4 10 4 (pc' := 18) (ls' := [(0, .inl (x0 - (((x0.toUInt32 >>> (Int32.toUInt32 1 &&& Int32.toUInt32 31)).toInt32) &&& 1431655765)))]) (st' := [.inl (((x0 - (((x0.toUInt32 >>> (Int32.toUInt32 1 &&& Int32.toUInt32 31)).toInt32) &&& 1431655765)).toUInt32 >>> (Int32.toUInt32 2 &&& Int32.toUInt32 31)).toInt32), .inl ((x0 - (((x0.toUInt32 >>> (Int32.toUInt32 1 &&& Int32.toUInt32 31)).toInt32) &&& 1431655765)) &&& 858993459)]) rfl ?_
  refine J_ldcw (jat ok_J6_bitCount_0f7a4 14 (pc := 18) (i := .ldc_w 266) (n := 3) rfl rfl) lc_RJ6_266 ?_
  refine J_seg ok_J6_bitCount_0f7a4 15 3 (pc' := 24) (ls' := [(0, .inl (((x0 - (((x0.toUInt32 >>> (Int32.toUInt32 1 &&& Int32.toUInt32 31)).toInt32) &&& 1431655765)) &&& 858993459) + ((((x0 - (((x0.toUInt32 >>> (Int32.toUInt32 1 &&& Int32.toUInt32 31)).toInt32) &&& 1431655765)).toUInt32 >>> (Int32.toUInt32 2 &&& Int32.toUInt32 31)).toInt32) &&& 858993459)))]) (st' := []) rfl ?_
  obtain ⟨v1, h2, h⟩ := Option.bind_eq_some_iff.mp h
  rw [Option.some.inj h2]
  refine J_seg ok_J6_bitCount_0f7a4 18 5 (pc' := 29) (ls' := [(0, .inl v1)]) (st' := [.inl (v1 + ((v1.toUInt32 >>> (Int32.toUInt32 4 &&& Int32.toUInt32 31)).toInt32))]) rfl ?_
  refine J_ldcw (jat ok_J6_bitCount_0f7a4 23 (pc := 29) (i := .ldc_w 267) (n := 3) rfl rfl) lc_RJ6_267 ?_
  refine J_seg ok_J6_bitCount_0f7a4 24 8 (pc' := 41) (ls' := [(0, .inl (((v1 + ((v1.toUInt32 >>> (Int32.toUInt32 4 &&& Int32.toUInt32 31)).toInt32)) &&& 252645135) + ((((v1 + ((v1.toUInt32 >>> (Int32.toUInt32 4 &&& Int32.toUInt32 31)).toInt32)) &&& 252645135).toUInt32 >>> (Int32.toUInt32 8 &&& Int32.toUInt32 31)).toInt32)))]) (st' := []) rfl ?_
  obtain ⟨v3, h4, h⟩ := Option.bind_eq_some_iff.mp h
  rw [Option.some.inj h4]
  refine J_seg ok_J6_bitCount_0f7a4 32 9 (pc' := 52) (ls' := [(0, .inl (v3 + ((v3.toUInt32 >>> (Int32.toUInt32 16 &&& Int32.toUInt32 31)).toInt32)))]) (st' := [.inl ((v3 + ((v3.toUInt32 >>> (Int32.toUInt32 16 &&& Int32.toUInt32 31)).toInt32)) &&& 63)]) rfl ?_
  have h := Option.some.inj h
  subst h
  exact hR _ _ (jat ok_J6_bitCount_0f7a4 41 (pc := 52) (i := .ireturn) (n := 1) rfl rfl)
theorem c_J6_bitCount_0f7a4 (l : Launch) (g : GX) (d : Nat) {x0 : Int32} {ah : AH} {q : Int32 × AH} (h : f_J6_bitCount_0f7a4 x0 ah = some q) : jM l g (d + 0) md_J6_bitCount_0f7a4 [.inl x0] ah (some (.inl q.1)) q.2 :=
  jM_of (by decide) (Nat.le_of_ble_eq_true rfl) (k_J6_bitCount_0f7a4 d ah q h (fun pc ls hd => J_reti hd rfl (jPV_int _) rfl (Nat.le_refl _) rfl rfl))
