def f_X1_init (x0 : Nat) (ah : AH) : Option (Unit × AH) :=
  (sF (ah ++ [.inl (List.replicate (Int32.toNatClampNeg 6) 0)]) (some x0) 1 0 (.inr (.inr (.inl (some ah.length))))).bind fun a1 => (sF (a1 ++ [.inl (List.replicate (Int32.toNatClampNeg 6) 0)]) (some x0) 1 1 (.inr (.inr (.inl (some a1.length))))).bind fun a3 => (sF (a3 ++ [.inl (List.replicate (Int32.toNatClampNeg 6) 0)]) (some x0) 1 2 (.inr (.inr (.inl (some a3.length))))).bind fun a5 => (sF (a5 ++ [.inl (List.replicate (Int32.toNatClampNeg 6) 0)]) (some x0) 1 3 (.inr (.inr (.inl (some a5.length))))).bind fun a7 => (sF (a7 ++ [.inl (List.replicate (Int32.toNatClampNeg 6) 0)]) (some x0) 1 4 (.inr (.inr (.inl (some a7.length))))).bind fun a9 => some ((), a9)
set_option maxRecDepth 100000 in
set_option maxHeartbeats 4000000 in
theorem k_X1_init {l : Launch} {g : GX} (d : Nat) {Q : jQ} {x0 : Nat} (ah : AH) (out : Unit × AH) (h : f_X1_init x0 ah = some out) (hR : jRetV l g md_X1_init (jRm (d + 1) md_X1_init) Q (5, 30) out.1 out.2) : J l g md_X1_init (jRm (d + 1) md_X1_init) Q 0 [(0, .inr (.inr (.inl (some x0))))] [] ah (0, 0) := by
  unfold f_X1_init at h
  refine J_seg ok_X1_init 0 1 (pc' := 1) (ls' := [(0, .inr (.inr (.inl (some x0))))]) (st' := [.inr (.inr (.inl (some x0)))]) rfl ?_
  refine J_obj (jat ok_X1_init 1 (pc := 1) (i := .invokespecial 3) (n := 3) rfl rfl) mo_RX1_3 oi_i oi_c ⟨by show 1 ≤ d + 1; omega, by show 20 ≤ 64 * (d + 1); omega⟩ (Nat.le_of_ble_eq_true rfl) ?_
  refine J_seg ok_X1_init 2 2 (pc' := 7) (ls' := [(0, .inr (.inr (.inl (some x0))))]) (st' := [.inl 6, .inr (.inr (.inl (some x0)))]) rfl ?_
  refine J_newA (cs' := (1, 6)) (jat ok_X1_init 4 (pc := 7) (i := .newarray .int) (n := 2) rfl rfl) (by decide) (by decide) ac_int (by decide) ⟨Nat.le_of_ble_eq_true rfl, Nat.le_of_ble_eq_true rfl⟩ ?_
  obtain ⟨a1, h2, h⟩ := Option.bind_eq_some_iff.mp h
  refine J_put (jat ok_X1_init 5 (pc := 9) (i := .putfield 9) (n := 3) rfl rfl) fp_RX1_9_i (jPV_arr _ _) h2 ?_
  refine J_seg ok_X1_init 6 2 (pc' := 15) (ls' := [(0, .inr (.inr (.inl (some x0))))]) (st' := [.inl 6, .inr (.inr (.inl (some x0)))]) rfl ?_
  refine J_newA (cs' := (2, 12)) (jat ok_X1_init 8 (pc := 15) (i := .newarray .int) (n := 2) rfl rfl) (by decide) (by decide) ac_int (by decide) ⟨Nat.le_of_ble_eq_true rfl, Nat.le_of_ble_eq_true rfl⟩ ?_
  obtain ⟨a3, h4, h⟩ := Option.bind_eq_some_iff.mp h
  refine J_put (jat ok_X1_init 9 (pc := 17) (i := .putfield 15) (n := 3) rfl rfl) fp_RX1_15_i (jPV_arr _ _) h4 ?_
  refine J_seg ok_X1_init 10 2 (pc' := 23) (ls' := [(0, .inr (.inr (.inl (some x0))))]) (st' := [.inl 6, .inr (.inr (.inl (some x0)))]) rfl ?_
  refine J_newA (cs' := (3, 18)) (jat ok_X1_init 12 (pc := 23) (i := .newarray .int) (n := 2) rfl rfl) (by decide) (by decide) ac_int (by decide) ⟨Nat.le_of_ble_eq_true rfl, Nat.le_of_ble_eq_true rfl⟩ ?_
  obtain ⟨a5, h6, h⟩ := Option.bind_eq_some_iff.mp h
  refine J_put (jat ok_X1_init 13 (pc := 25) (i := .putfield 18) (n := 3) rfl rfl) fp_RX1_18_i (jPV_arr _ _) h6 ?_
  refine J_seg ok_X1_init 14 2 (pc' := 31) (ls' := [(0, .inr (.inr (.inl (some x0))))]) (st' := [.inl 6, .inr (.inr (.inl (some x0)))]) rfl ?_
  refine J_newA (cs' := (4, 24)) (jat ok_X1_init 16 (pc := 31) (i := .newarray .int) (n := 2) rfl rfl) (by decide) (by decide) ac_int (by decide) ⟨Nat.le_of_ble_eq_true rfl, Nat.le_of_ble_eq_true rfl⟩ ?_
  obtain ⟨a7, h8, h⟩ := Option.bind_eq_some_iff.mp h
  refine J_put (jat ok_X1_init 17 (pc := 33) (i := .putfield 21) (n := 3) rfl rfl) fp_RX1_21_i (jPV_arr _ _) h8 ?_
  refine J_seg ok_X1_init 18 2 (pc' := 39) (ls' := [(0, .inr (.inr (.inl (some x0))))]) (st' := [.inl 6, .inr (.inr (.inl (some x0)))]) rfl ?_
  refine J_newA (cs' := (5, 30)) (jat ok_X1_init 20 (pc := 39) (i := .newarray .int) (n := 2) rfl rfl) (by decide) (by decide) ac_int (by decide) ⟨Nat.le_of_ble_eq_true rfl, Nat.le_of_ble_eq_true rfl⟩ ?_
  obtain ⟨a9, h10, h⟩ := Option.bind_eq_some_iff.mp h
  refine J_put (jat ok_X1_init 21 (pc := 41) (i := .putfield 24) (n := 3) rfl rfl) fp_RX1_24_i (jPV_arr _ _) h10 ?_
  have h := Option.some.inj h
  subst h
  exact hR _ _ (jat ok_X1_init 22 (pc := 44) (i := .return_) (n := 1) rfl rfl)
theorem c_X1_init (l : Launch) (g : GX) (d : Nat) {x0 : Nat} {ah : AH} {q : Unit × AH} (h : f_X1_init x0 ah = some q) : jM l g (d + 1) md_X1_init [.inr (.inr (.inl (some x0)))] ah none q.2 :=
  jM_of (by decide) (Nat.le_of_ble_eq_true rfl) (k_X1_init d ah q h (fun pc ls hd => J_retv hd rfl rfl (Nat.le_refl _) rfl rfl))
def f_X1_clear (x0 : Option Nat) (ah : AH) : Option (Unit × AH) :=
  (sF ah x0 1 5 (.inl 0)).bind fun a1 => (sF a1 x0 1 6 (.inl 0)).bind fun a3 => some ((), a3)
set_option maxRecDepth 100000 in
set_option maxHeartbeats 4000000 in
theorem k_X1_clear {l : Launch} {g : GX} (d : Nat) {Q : jQ} {x0 : Option Nat} (ah : AH) (out : Unit × AH) (h : f_X1_clear x0 ah = some out) (hR : jRetV l g md_X1_clear (jRm (d + 0) md_X1_clear) Q (0, 0) out.1 out.2) : J l g md_X1_clear (jRm (d + 0) md_X1_clear) Q 0 [(0, .inr (.inr (.inl x0)))] [] ah (0, 0) := by
  unfold f_X1_clear at h
  refine J_seg ok_X1_clear 0 2 (pc' := 2) (ls' := [(0, .inr (.inr (.inl x0)))]) (st' := [.inl 0, .inr (.inr (.inl x0))]) rfl ?_
  obtain ⟨a1, h2, h⟩ := Option.bind_eq_some_iff.mp h
  refine J_put (jat ok_X1_clear 2 (pc := 2) (i := .putfield 27) (n := 3) rfl rfl) (fp_RX1_27 _) (jPV_int _) h2 ?_
  refine J_seg ok_X1_clear 3 2 (pc' := 7) (ls' := [(0, .inr (.inr (.inl x0)))]) (st' := [.inl 0, .inr (.inr (.inl x0))]) rfl ?_
  obtain ⟨a3, h4, h⟩ := Option.bind_eq_some_iff.mp h
  refine J_put (jat ok_X1_clear 5 (pc := 7) (i := .putfield 31) (n := 3) rfl rfl) (fp_RX1_31 _) (jPV_int _) h4 ?_
  have h := Option.some.inj h
  subst h
  exact hR _ _ (jat ok_X1_clear 6 (pc := 10) (i := .return_) (n := 1) rfl rfl)
theorem c_X1_clear (l : Launch) (g : GX) (d : Nat) {x0 : Option Nat} {ah : AH} {q : Unit × AH} (h : f_X1_clear x0 ah = some q) : jM l g (d + 0) md_X1_clear [.inr (.inr (.inl x0))] ah none q.2 :=
  jM_of (by decide) (Nat.le_of_ble_eq_true rfl) (k_X1_clear d ah q h (fun pc ls hd => J_retv hd rfl rfl (Nat.le_refl _) rfl rfl))
def f_X1_join (x0 : Option Nat) (x1 : Int32) (x2 : Int32) (x3 : Int32) (x4 : Int32) (ah : AH) : Option (Unit × AH) :=
  (gI ah x0 1 5).bind fun v1 => if v1 < 0 then (some ((), ah)) else ((gI ah x0 1 5).bind fun v3 => if v3 < 6 then ((gR ah x0 1 0).bind fun v5 => (gI ah x0 1 5).bind fun v7 => (sA ah v5 v7 x1).bind fun a9 => (gR a9 x0 1 1).bind fun v11 => (gI a9 x0 1 5).bind fun v13 => (sA a9 v11 v13 x2).bind fun a15 => (gR a15 x0 1 2).bind fun v17 => (gI a15 x0 1 5).bind fun v19 => (sA a15 v17 v19 x3).bind fun a21 => (gR a21 x0 1 3).bind fun v23 => (gI a21 x0 1 5).bind fun v25 => (sA a21 v23 v25 0).bind fun a27 => (gR a27 x0 1 4).bind fun v29 => (gI a27 x0 1 5).bind fun v31 => (sA a27 v29 v31 x4).bind fun a33 => (gI a33 x0 1 5).bind fun v35 => (sF a33 x0 1 5 (.inl (v35 + 1))).bind fun a37 => some ((), a37)) else (some ((), ah)))
set_option maxRecDepth 100000 in
set_option maxHeartbeats 4000000 in
theorem k_X1_join {l : Launch} {g : GX} (d : Nat) {Q : jQ} {x0 : Option Nat} {x1 : Int32} {x2 : Int32} {x3 : Int32} {x4 : Int32} (ah : AH) (out : Unit × AH) (h : f_X1_join x0 x1 x2 x3 x4 ah = some out) (hR : jRetV l g md_X1_join (jRm (d + 0) md_X1_join) Q (0, 0) out.1 out.2) : J l g md_X1_join (jRm (d + 0) md_X1_join) Q 0 [(0, .inr (.inr (.inl x0))), (1, .inl x1), (2, .inl x2), (3, .inl x3), (4, .inl x4)] [] ah (0, 0) := by
  unfold f_X1_join at h
  refine J_seg ok_X1_join 0 1 (pc' := 1) (ls' := [(0, .inr (.inr (.inl x0))), (1, .inl x1), (2, .inl x2), (3, .inl x3), (4, .inl x4)]) (st' := [.inr (.inr (.inl x0))]) rfl ?_
  obtain ⟨v1, h2, h⟩ := Option.bind_eq_some_iff.mp h
  refine J_getI (jat ok_X1_join 1 (pc := 1) (i := .getfield 27) (n := 3) rfl rfl) fl_RX1_27 h2 ?_
  refine J_lt0 (jat ok_X1_join 2 (pc := 4) (i := .ifCond .lt 12) (n := 3) rfl rfl) (tgt := 16) (by decide) (fun c => ?_) (fun c => ?_)
  · have h := (if_pos c).symm.trans h
    have h := Option.some.inj h
    subst h
    exact hR _ _ (jat ok_X1_join 7 (pc := 16) (i := .return_) (n := 1) rfl rfl)
  · have h := (if_neg c).symm.trans h
    refine J_seg ok_X1_join 3 1 (pc' := 8) (ls' := [(0, .inr (.inr (.inl x0))), (1, .inl x1), (2, .inl x2), (3, .inl x3), (4, .inl x4)]) (st' := [.inr (.inr (.inl x0))]) rfl ?_
    obtain ⟨v3, h4, h⟩ := Option.bind_eq_some_iff.mp h
    refine J_getI (jat ok_X1_join 4 (pc := 8) (i := .getfield 27) (n := 3) rfl rfl) fl_RX1_27 h4 ?_
    refine J_seg ok_X1_join 5 1 (pc' := 13) (ls' := [(0, .inr (.inr (.inl x0))), (1, .inl x1), (2, .inl x2), (3, .inl x3), (4, .inl x4)]) (st' := [.inl 6, .inl v3]) rfl ?_
    refine J_lt (jat ok_X1_join 6 (pc := 13) (i := .if_icmp .lt 4) (n := 3) rfl rfl) (tgt := 17) (by decide) (fun c => ?_) (fun c => ?_)
    · have h := (if_pos c).symm.trans h
      refine J_seg ok_X1_join 8 1 (pc' := 18) (ls' := [(0, .inr (.inr (.inl x0))), (1, .inl x1), (2, .inl x2), (3, .inl x3), (4, .inl x4)]) (st' := [.inr (.inr (.inl x0))]) rfl ?_
      obtain ⟨v5, h6, h⟩ := Option.bind_eq_some_iff.mp h
      refine J_getR (jat ok_X1_join 9 (pc := 18) (i := .getfield 9) (n := 3) rfl rfl) fl_RX1_9 h6 ?_
      refine J_seg ok_X1_join 10 1 (pc' := 22) (ls' := [(0, .inr (.inr (.inl x0))), (1, .inl x1), (2, .inl x2), (3, .inl x3), (4, .inl x4)]) (st' := [.inr (.inr (.inl x0)), .inr (.inr (.inl v5))]) rfl ?_
      obtain ⟨v7, h8, h⟩ := Option.bind_eq_some_iff.mp h
      refine J_getI (jat ok_X1_join 11 (pc := 22) (i := .getfield 27) (n := 3) rfl rfl) fl_RX1_27 h8 ?_
      refine J_seg ok_X1_join 12 1 (pc' := 26) (ls' := [(0, .inr (.inr (.inl x0))), (1, .inl x1), (2, .inl x2), (3, .inl x3), (4, .inl x4)]) (st' := [.inl x1, .inl v7, .inr (.inr (.inl v5))]) rfl ?_
      obtain ⟨a9, h10, h⟩ := Option.bind_eq_some_iff.mp h
      refine J_iast (jat ok_X1_join 13 (pc := 26) (i := .iastore) (n := 1) rfl rfl) h10 ?_
      refine J_seg ok_X1_join 14 1 (pc' := 28) (ls' := [(0, .inr (.inr (.inl x0))), (1, .inl x1), (2, .inl x2), (3, .inl x3), (4, .inl x4)]) (st' := [.inr (.inr (.inl x0))]) rfl ?_
      obtain ⟨v11, h12, h⟩ := Option.bind_eq_some_iff.mp h
      refine J_getR (jat ok_X1_join 15 (pc := 28) (i := .getfield 15) (n := 3) rfl rfl) fl_RX1_15 h12 ?_
      refine J_seg ok_X1_join 16 1 (pc' := 32) (ls' := [(0, .inr (.inr (.inl x0))), (1, .inl x1), (2, .inl x2), (3, .inl x3), (4, .inl x4)]) (st' := [.inr (.inr (.inl x0)), .inr (.inr (.inl v11))]) rfl ?_
      obtain ⟨v13, h14, h⟩ := Option.bind_eq_some_iff.mp h
      refine J_getI (jat ok_X1_join 17 (pc := 32) (i := .getfield 27) (n := 3) rfl rfl) fl_RX1_27 h14 ?_
      refine J_seg ok_X1_join 18 1 (pc' := 36) (ls' := [(0, .inr (.inr (.inl x0))), (1, .inl x1), (2, .inl x2), (3, .inl x3), (4, .inl x4)]) (st' := [.inl x2, .inl v13, .inr (.inr (.inl v11))]) rfl ?_
      obtain ⟨a15, h16, h⟩ := Option.bind_eq_some_iff.mp h
      refine J_iast (jat ok_X1_join 19 (pc := 36) (i := .iastore) (n := 1) rfl rfl) h16 ?_
      refine J_seg ok_X1_join 20 1 (pc' := 38) (ls' := [(0, .inr (.inr (.inl x0))), (1, .inl x1), (2, .inl x2), (3, .inl x3), (4, .inl x4)]) (st' := [.inr (.inr (.inl x0))]) rfl ?_
      obtain ⟨v17, h18, h⟩ := Option.bind_eq_some_iff.mp h
      refine J_getR (jat ok_X1_join 21 (pc := 38) (i := .getfield 18) (n := 3) rfl rfl) fl_RX1_18 h18 ?_
      refine J_seg ok_X1_join 22 1 (pc' := 42) (ls' := [(0, .inr (.inr (.inl x0))), (1, .inl x1), (2, .inl x2), (3, .inl x3), (4, .inl x4)]) (st' := [.inr (.inr (.inl x0)), .inr (.inr (.inl v17))]) rfl ?_
      obtain ⟨v19, h20, h⟩ := Option.bind_eq_some_iff.mp h
      refine J_getI (jat ok_X1_join 23 (pc := 42) (i := .getfield 27) (n := 3) rfl rfl) fl_RX1_27 h20 ?_
      refine J_seg ok_X1_join 24 1 (pc' := 46) (ls' := [(0, .inr (.inr (.inl x0))), (1, .inl x1), (2, .inl x2), (3, .inl x3), (4, .inl x4)]) (st' := [.inl x3, .inl v19, .inr (.inr (.inl v17))]) rfl ?_
      obtain ⟨a21, h22, h⟩ := Option.bind_eq_some_iff.mp h
      refine J_iast (jat ok_X1_join 25 (pc := 46) (i := .iastore) (n := 1) rfl rfl) h22 ?_
      refine J_seg ok_X1_join 26 1 (pc' := 48) (ls' := [(0, .inr (.inr (.inl x0))), (1, .inl x1), (2, .inl x2), (3, .inl x3), (4, .inl x4)]) (st' := [.inr (.inr (.inl x0))]) rfl ?_
      obtain ⟨v23, h24, h⟩ := Option.bind_eq_some_iff.mp h
      refine J_getR (jat ok_X1_join 27 (pc := 48) (i := .getfield 21) (n := 3) rfl rfl) fl_RX1_21 h24 ?_
      refine J_seg ok_X1_join 28 1 (pc' := 52) (ls' := [(0, .inr (.inr (.inl x0))), (1, .inl x1), (2, .inl x2), (3, .inl x3), (4, .inl x4)]) (st' := [.inr (.inr (.inl x0)), .inr (.inr (.inl v23))]) rfl ?_
      obtain ⟨v25, h26, h⟩ := Option.bind_eq_some_iff.mp h
      refine J_getI (jat ok_X1_join 29 (pc := 52) (i := .getfield 27) (n := 3) rfl rfl) fl_RX1_27 h26 ?_
      refine J_seg ok_X1_join 30 1 (pc' := 56) (ls' := [(0, .inr (.inr (.inl x0))), (1, .inl x1), (2, .inl x2), (3, .inl x3), (4, .inl x4)]) (st' := [.inl 0, .inl v25, .inr (.inr (.inl v23))]) rfl ?_
      obtain ⟨a27, h28, h⟩ := Option.bind_eq_some_iff.mp h
      refine J_iast (jat ok_X1_join 31 (pc := 56) (i := .iastore) (n := 1) rfl rfl) h28 ?_
      refine J_seg ok_X1_join 32 1 (pc' := 58) (ls' := [(0, .inr (.inr (.inl x0))), (1, .inl x1), (2, .inl x2), (3, .inl x3), (4, .inl x4)]) (st' := [.inr (.inr (.inl x0))]) rfl ?_
      obtain ⟨v29, h30, h⟩ := Option.bind_eq_some_iff.mp h
      refine J_getR (jat ok_X1_join 33 (pc := 58) (i := .getfield 24) (n := 3) rfl rfl) fl_RX1_24 h30 ?_
      refine J_seg ok_X1_join 34 1 (pc' := 62) (ls' := [(0, .inr (.inr (.inl x0))), (1, .inl x1), (2, .inl x2), (3, .inl x3), (4, .inl x4)]) (st' := [.inr (.inr (.inl x0)), .inr (.inr (.inl v29))]) rfl ?_
      obtain ⟨v31, h32, h⟩ := Option.bind_eq_some_iff.mp h
      refine J_getI (jat ok_X1_join 35 (pc := 62) (i := .getfield 27) (n := 3) rfl rfl) fl_RX1_27 h32 ?_
      refine J_seg ok_X1_join 36 1 (pc' := 67) (ls' := [(0, .inr (.inr (.inl x0))), (1, .inl x1), (2, .inl x2), (3, .inl x3), (4, .inl x4)]) (st' := [.inl x4, .inl v31, .inr (.inr (.inl v29))]) rfl ?_
      obtain ⟨a33, h34, h⟩ := Option.bind_eq_some_iff.mp h
      refine J_iast (jat ok_X1_join 37 (pc := 67) (i := .iastore) (n := 1) rfl rfl) h34 ?_
      refine J_seg ok_X1_join 38 2 (pc' := 70) (ls' := [(0, .inr (.inr (.inl x0))), (1, .inl x1), (2, .inl x2), (3, .inl x3), (4, .inl x4)]) (st' := [.inr (.inr (.inl x0)), .inr (.inr (.inl x0))]) rfl ?_
      obtain ⟨v35, h36, h⟩ := Option.bind_eq_some_iff.mp h
      refine J_getI (jat ok_X1_join 40 (pc := 70) (i := .getfield 27) (n := 3) rfl rfl) fl_RX1_27 h36 ?_
      refine J_seg ok_X1_join 41 2 (pc' := 75) (ls' := [(0, .inr (.inr (.inl x0))), (1, .inl x1), (2, .inl x2), (3, .inl x3), (4, .inl x4)]) (st' := [.inl (v35 + 1), .inr (.inr (.inl x0))]) rfl ?_
      obtain ⟨a37, h38, h⟩ := Option.bind_eq_some_iff.mp h
      refine J_put (jat ok_X1_join 43 (pc := 75) (i := .putfield 27) (n := 3) rfl rfl) (fp_RX1_27 _) (jPV_int _) h38 ?_
      have h := Option.some.inj h
      subst h
      exact hR _ _ (jat ok_X1_join 44 (pc := 78) (i := .return_) (n := 1) rfl rfl)
    · have h := (if_neg c).symm.trans h
      have h := Option.some.inj h
      subst h
      exact hR _ _ (jat ok_X1_join 7 (pc := 16) (i := .return_) (n := 1) rfl rfl)
theorem c_X1_join (l : Launch) (g : GX) (d : Nat) {x0 : Option Nat} {x1 : Int32} {x2 : Int32} {x3 : Int32} {x4 : Int32} {ah : AH} {q : Unit × AH} (h : f_X1_join x0 x1 x2 x3 x4 ah = some q) : jM l g (d + 0) md_X1_join [.inr (.inr (.inl x0)), .inl x1, .inl x2, .inl x3, .inl x4] ah none q.2 :=
  jM_of (by decide) (Nat.le_of_ble_eq_true rfl) (k_X1_join d ah q h (fun pc ls hd => J_retv hd rfl rfl (Nat.le_refl _) rfl rfl))
def f_X1_pair (x0 : Option Nat) (x1 : Int32) (x2 : Int32) (ah : AH) : Option (Unit × AH) :=
  if qO ah x0 1 = true then ((f_X1_has x0 x1 ah).bind fun q1 => if q1.1 = 0 then (some ((), q1.2)) else (if qO q1.2 x0 1 = true then ((f_X1_has x0 x2 q1.2).bind fun q4 => if q4.1 = 0 then (some ((), q4.2)) else ((gR q4.2 x0 1 3).bind fun v7 => (gA q4.2 v7 x1).bind fun v9 => (sA q4.2 v7 x1 (v9 ||| (1 <<< (x2 &&& 31)))).bind fun a11 => (gR a11 x0 1 3).bind fun v13 => (gA a11 v13 x2).bind fun v15 => (sA a11 v13 x2 (v15 ||| (1 <<< (x1 &&& 31)))).bind fun a17 => (gI a17 x0 1 6).bind fun v19 => (sF a17 x0 1 6 (.inl (v19 + 1))).bind fun a21 => some ((), a21))) else none)) else none
set_option maxRecDepth 100000 in
set_option maxHeartbeats 4000000 in
theorem k_X1_pair {l : Launch} {g : GX} (d : Nat) {Q : jQ} {x0 : Option Nat} {x1 : Int32} {x2 : Int32} (ah : AH) (out : Unit × AH) (h : f_X1_pair x0 x1 x2 ah = some out) (hR : jRetV l g md_X1_pair (jRm (d + 1) md_X1_pair) Q (0, 0) out.1 out.2) : J l g md_X1_pair (jRm (d + 1) md_X1_pair) Q 0 [(0, .inr (.inr (.inl x0))), (1, .inl x1), (2, .inl x2)] [] ah (0, 0) := by
  unfold f_X1_pair at h
  refine J_seg ok_X1_pair 0 2 (pc' := 2) (ls' := [(0, .inr (.inr (.inl x0))), (1, .inl x1), (2, .inl x2)]) (st' := [.inl x1, .inr (.inr (.inl x0))]) rfl ?_
  by_cases c3 : qO ah x0 1 = true
  case neg => exact absurd ((if_neg c3).symm.trans h) (by simp)
  have h := (if_pos c3).symm.trans h
  obtain ⟨q1, h2, h⟩ := Option.bind_eq_some_iff.mp h
  refine J_callV (md' := md_X1_has) (As := [.inl x1]) (st := []) (cs' := (0, 0)) (st' := [.inl q1.1]) (jat ok_X1_pair 2 (pc := 2) (i := .invokevirtual 34) (n := 3) rfl rfl) ml_RX1_34 yv_X1_has c3 (c_X1_has l g (d + 0) h2) (jRo_of (by decide)) (Nat.le_of_ble_eq_true rfl) ⟨Nat.le_of_ble_eq_true rfl, Nat.le_of_ble_eq_true rfl⟩ rfl rfl rfl ?_
  refine J_eq0 (jat ok_X1_pair 3 (pc := 5) (i := .ifCond .eq 45) (n := 3) rfl rfl) (tgt := 50) (by decide) (fun c => ?_) (fun c => ?_)
  · have h := (if_pos c).symm.trans h
    have h := Option.some.inj h
    subst h
    exact hR _ _ (jat ok_X1_pair 34 (pc := 50) (i := .return_) (n := 1) rfl rfl)
  · have h := (if_neg c).symm.trans h
    refine J_seg ok_X1_pair 4 2 (pc' := 10) (ls' := [(0, .inr (.inr (.inl x0))), (1, .inl x1), (2, .inl x2)]) (st' := [.inl x2, .inr (.inr (.inl x0))]) rfl ?_
    by_cases c6 : qO q1.2 x0 1 = true
    case neg => exact absurd ((if_neg c6).symm.trans h) (by simp)
    have h := (if_pos c6).symm.trans h
    obtain ⟨q4, h5, h⟩ := Option.bind_eq_some_iff.mp h
    refine J_callV (md' := md_X1_has) (As := [.inl x2]) (st := []) (cs' := (0, 0)) (st' := [.inl q4.1]) (jat ok_X1_pair 6 (pc := 10) (i := .invokevirtual 34) (n := 3) rfl rfl) ml_RX1_34 yv_X1_has c6 (c_X1_has l g (d + 0) h5) (jRo_of (by decide)) (Nat.le_of_ble_eq_true rfl) ⟨Nat.le_of_ble_eq_true rfl, Nat.le_of_ble_eq_true rfl⟩ rfl rfl rfl ?_
    refine J_eq0 (jat ok_X1_pair 7 (pc := 13) (i := .ifCond .eq 37) (n := 3) rfl rfl) (tgt := 50) (by decide) (fun c => ?_) (fun c => ?_)
    · have h := (if_pos c).symm.trans h
      have h := Option.some.inj h
      subst h
      exact hR _ _ (jat ok_X1_pair 34 (pc := 50) (i := .return_) (n := 1) rfl rfl)
    · have h := (if_neg c).symm.trans h
      refine J_seg ok_X1_pair 8 1 (pc' := 17) (ls' := [(0, .inr (.inr (.inl x0))), (1, .inl x1), (2, .inl x2)]) (st' := [.inr (.inr (.inl x0))]) rfl ?_
      obtain ⟨v7, h8, h⟩ := Option.bind_eq_some_iff.mp h
      refine J_getR (jat ok_X1_pair 9 (pc := 17) (i := .getfield 21) (n := 3) rfl rfl) fl_RX1_21 h8 ?_
      refine J_seg ok_X1_pair 10 2 (pc' := 22) (ls' := [(0, .inr (.inr (.inl x0))), (1, .inl x1), (2, .inl x2)]) (st' := [.inl x1, .inr (.inr (.inl v7)), .inl x1, .inr (.inr (.inl v7))]) rfl ?_
      obtain ⟨v9, h10, h⟩ := Option.bind_eq_some_iff.mp h
      refine J_iald (jat ok_X1_pair 12 (pc := 22) (i := .iaload) (n := 1) rfl rfl) h10 ?_
      refine J_seg ok_X1_pair 13 4 (pc' := 27) (ls' := [(0, .inr (.inr (.inl x0))), (1, .inl x1), (2, .inl x2)]) (st' := [.inl (v9 ||| (1 <<< (x2 &&& 31))), .inl x1, .inr (.inr (.inl v7))]) rfl ?_
      obtain ⟨a11, h12, h⟩ := Option.bind_eq_some_iff.mp h
      refine J_iast (jat ok_X1_pair 17 (pc := 27) (i := .iastore) (n := 1) rfl rfl) h12 ?_
      refine J_seg ok_X1_pair 18 1 (pc' := 29) (ls' := [(0, .inr (.inr (.inl x0))), (1, .inl x1), (2, .inl x2)]) (st' := [.inr (.inr (.inl x0))]) rfl ?_
      obtain ⟨v13, h14, h⟩ := Option.bind_eq_some_iff.mp h
      refine J_getR (jat ok_X1_pair 19 (pc := 29) (i := .getfield 21) (n := 3) rfl rfl) fl_RX1_21 h14 ?_
      refine J_seg ok_X1_pair 20 2 (pc' := 34) (ls' := [(0, .inr (.inr (.inl x0))), (1, .inl x1), (2, .inl x2)]) (st' := [.inl x2, .inr (.inr (.inl v13)), .inl x2, .inr (.inr (.inl v13))]) rfl ?_
      obtain ⟨v15, h16, h⟩ := Option.bind_eq_some_iff.mp h
      refine J_iald (jat ok_X1_pair 22 (pc := 34) (i := .iaload) (n := 1) rfl rfl) h16 ?_
      refine J_seg ok_X1_pair 23 4 (pc' := 39) (ls' := [(0, .inr (.inr (.inl x0))), (1, .inl x1), (2, .inl x2)]) (st' := [.inl (v15 ||| (1 <<< (x1 &&& 31))), .inl x2, .inr (.inr (.inl v13))]) rfl ?_
      obtain ⟨a17, h18, h⟩ := Option.bind_eq_some_iff.mp h
      refine J_iast (jat ok_X1_pair 27 (pc := 39) (i := .iastore) (n := 1) rfl rfl) h18 ?_
      refine J_seg ok_X1_pair 28 2 (pc' := 42) (ls' := [(0, .inr (.inr (.inl x0))), (1, .inl x1), (2, .inl x2)]) (st' := [.inr (.inr (.inl x0)), .inr (.inr (.inl x0))]) rfl ?_
      obtain ⟨v19, h20, h⟩ := Option.bind_eq_some_iff.mp h
      refine J_getI (jat ok_X1_pair 30 (pc := 42) (i := .getfield 31) (n := 3) rfl rfl) fl_RX1_31 h20 ?_
      refine J_seg ok_X1_pair 31 2 (pc' := 47) (ls' := [(0, .inr (.inr (.inl x0))), (1, .inl x1), (2, .inl x2)]) (st' := [.inl (v19 + 1), .inr (.inr (.inl x0))]) rfl ?_
      obtain ⟨a21, h22, h⟩ := Option.bind_eq_some_iff.mp h
      refine J_put (jat ok_X1_pair 33 (pc := 47) (i := .putfield 31) (n := 3) rfl rfl) (fp_RX1_31 _) (jPV_int _) h22 ?_
      have h := Option.some.inj h
      subst h
      exact hR _ _ (jat ok_X1_pair 34 (pc := 50) (i := .return_) (n := 1) rfl rfl)
theorem c_X1_pair (l : Launch) (g : GX) (d : Nat) {x0 : Option Nat} {x1 : Int32} {x2 : Int32} {ah : AH} {q : Unit × AH} (h : f_X1_pair x0 x1 x2 ah = some q) : jM l g (d + 1) md_X1_pair [.inr (.inr (.inl x0)), .inl x1, .inl x2] ah none q.2 :=
  jM_of (by decide) (Nat.le_of_ble_eq_true rfl) (k_X1_pair d ah q h (fun pc ls hd => J_retv hd rfl rfl (Nat.le_refl _) rfl rfl))
def f_X1_everyone (x0 : Option Nat) (ah : AH) : Option (Int32 × AH) :=
  (gI ah x0 1 5).bind fun v1 => some ((1 <<< (v1 &&& 31)) - 1, ah)
set_option maxRecDepth 100000 in
set_option maxHeartbeats 4000000 in
theorem k_X1_everyone {l : Launch} {g : GX} (d : Nat) {Q : jQ} {x0 : Option Nat} (ah : AH) (out : Int32 × AH) (h : f_X1_everyone x0 ah = some out) (hR : jRetI l g md_X1_everyone (jRm (d + 0) md_X1_everyone) Q (0, 0) out.1 out.2) : J l g md_X1_everyone (jRm (d + 0) md_X1_everyone) Q 0 [(0, .inr (.inr (.inl x0)))] [] ah (0, 0) := by
  unfold f_X1_everyone at h
  refine J_seg ok_X1_everyone 0 2 (pc' := 2) (ls' := [(0, .inr (.inr (.inl x0)))]) (st' := [.inr (.inr (.inl x0)), .inl 1]) rfl ?_
  obtain ⟨v1, h2, h⟩ := Option.bind_eq_some_iff.mp h
  refine J_getI (jat ok_X1_everyone 2 (pc := 2) (i := .getfield 27) (n := 3) rfl rfl) fl_RX1_27 h2 ?_
  refine J_seg ok_X1_everyone 3 3 (pc' := 8) (ls' := [(0, .inr (.inr (.inl x0)))]) (st' := [.inl ((1 <<< (v1 &&& 31)) - 1)]) rfl ?_
  have h := Option.some.inj h
  subst h
  exact hR _ _ (jat ok_X1_everyone 6 (pc := 8) (i := .ireturn) (n := 1) rfl rfl)
theorem c_X1_everyone (l : Launch) (g : GX) (d : Nat) {x0 : Option Nat} {ah : AH} {q : Int32 × AH} (h : f_X1_everyone x0 ah = some q) : jM l g (d + 0) md_X1_everyone [.inr (.inr (.inl x0))] ah (some (.inl q.1)) q.2 :=
  jM_of (by decide) (Nat.le_of_ble_eq_true rfl) (k_X1_everyone d ah q h (fun pc ls hd => J_reti hd rfl (jPV_int _) rfl (Nat.le_refl _) rfl rfl))
def f_X1_kindOf (x0 : Option Nat) (x1 : Int32) (ah : AH) : Option (Int32 × AH) :=
  if qO ah x0 1 = true then ((f_X1_has x0 x1 ah).bind fun q1 => if q1.1 = 0 then (some (0, q1.2)) else ((gR q1.2 x0 1 0).bind fun v4 => (gA q1.2 v4 x1).bind fun v6 => some (v6, q1.2))) else none
set_option maxRecDepth 100000 in
set_option maxHeartbeats 4000000 in
theorem k_X1_kindOf {l : Launch} {g : GX} (d : Nat) {Q : jQ} {x0 : Option Nat} {x1 : Int32} (ah : AH) (out : Int32 × AH) (h : f_X1_kindOf x0 x1 ah = some out) (hR : jRetI l g md_X1_kindOf (jRm (d + 1) md_X1_kindOf) Q (0, 0) out.1 out.2) : J l g md_X1_kindOf (jRm (d + 1) md_X1_kindOf) Q 0 [(0, .inr (.inr (.inl x0))), (1, .inl x1)] [] ah (0, 0) := by
  unfold f_X1_kindOf at h
  refine J_seg ok_X1_kindOf 0 2 (pc' := 2) (ls' := [(0, .inr (.inr (.inl x0))), (1, .inl x1)]) (st' := [.inl x1, .inr (.inr (.inl x0))]) rfl ?_
  by_cases c3 : qO ah x0 1 = true
  case neg => exact absurd ((if_neg c3).symm.trans h) (by simp)
  have h := (if_pos c3).symm.trans h
  obtain ⟨q1, h2, h⟩ := Option.bind_eq_some_iff.mp h
  refine J_callV (md' := md_X1_has) (As := [.inl x1]) (st := []) (cs' := (0, 0)) (st' := [.inl q1.1]) (jat ok_X1_kindOf 2 (pc := 2) (i := .invokevirtual 34) (n := 3) rfl rfl) ml_RX1_34 yv_X1_has c3 (c_X1_has l g (d + 0) h2) (jRo_of (by decide)) (Nat.le_of_ble_eq_true rfl) ⟨Nat.le_of_ble_eq_true rfl, Nat.le_of_ble_eq_true rfl⟩ rfl rfl rfl ?_
  refine J_eq0 (jat ok_X1_kindOf 3 (pc := 5) (i := .ifCond .eq 12) (n := 3) rfl rfl) (tgt := 17) (by decide) (fun c => ?_) (fun c => ?_)
  · have h := (if_pos c).symm.trans h
    refine J_seg ok_X1_kindOf 9 1 (pc' := 18) (ls' := [(0, .inr (.inr (.inl x0))), (1, .inl x1)]) (st' := [.inl 0]) rfl ?_
    have h := Option.some.inj h
    subst h
    exact hR _ _ (jat ok_X1_kindOf 10 (pc := 18) (i := .ireturn) (n := 1) rfl rfl)
  · have h := (if_neg c).symm.trans h
    refine J_seg ok_X1_kindOf 4 1 (pc' := 9) (ls' := [(0, .inr (.inr (.inl x0))), (1, .inl x1)]) (st' := [.inr (.inr (.inl x0))]) rfl ?_
    obtain ⟨v4, h5, h⟩ := Option.bind_eq_some_iff.mp h
    refine J_getR (jat ok_X1_kindOf 5 (pc := 9) (i := .getfield 9) (n := 3) rfl rfl) fl_RX1_9 h5 ?_
    refine J_seg ok_X1_kindOf 6 1 (pc' := 13) (ls' := [(0, .inr (.inr (.inl x0))), (1, .inl x1)]) (st' := [.inl x1, .inr (.inr (.inl v4))]) rfl ?_
    obtain ⟨v6, h7, h⟩ := Option.bind_eq_some_iff.mp h
    refine J_iald (jat ok_X1_kindOf 7 (pc := 13) (i := .iaload) (n := 1) rfl rfl) h7 ?_
    refine J_seg ok_X1_kindOf 8 1 (pc' := 18) (ls' := [(0, .inr (.inr (.inl x0))), (1, .inl x1)]) (st' := [.inl v6]) rfl ?_
    have h := Option.some.inj h
    subst h
    exact hR _ _ (jat ok_X1_kindOf 10 (pc := 18) (i := .ireturn) (n := 1) rfl rfl)
theorem c_X1_kindOf (l : Launch) (g : GX) (d : Nat) {x0 : Option Nat} {x1 : Int32} {ah : AH} {q : Int32 × AH} (h : f_X1_kindOf x0 x1 ah = some q) : jM l g (d + 1) md_X1_kindOf [.inr (.inr (.inl x0)), .inl x1] ah (some (.inl q.1)) q.2 :=
  jM_of (by decide) (Nat.le_of_ble_eq_true rfl) (k_X1_kindOf d ah q h (fun pc ls hd => J_reti hd rfl (jPV_int _) rfl (Nat.le_refl _) rfl rfl))
def f_X1_aimOf (x0 : Option Nat) (x1 : Int32) (ah : AH) : Option (Int32 × AH) :=
  if qO ah x0 1 = true then ((f_X1_has x0 x1 ah).bind fun q1 => if q1.1 = 0 then (some (0, q1.2)) else ((gR q1.2 x0 1 1).bind fun v4 => (gA q1.2 v4 x1).bind fun v6 => some (v6, q1.2))) else none
set_option maxRecDepth 100000 in
set_option maxHeartbeats 4000000 in
theorem k_X1_aimOf {l : Launch} {g : GX} (d : Nat) {Q : jQ} {x0 : Option Nat} {x1 : Int32} (ah : AH) (out : Int32 × AH) (h : f_X1_aimOf x0 x1 ah = some out) (hR : jRetI l g md_X1_aimOf (jRm (d + 1) md_X1_aimOf) Q (0, 0) out.1 out.2) : J l g md_X1_aimOf (jRm (d + 1) md_X1_aimOf) Q 0 [(0, .inr (.inr (.inl x0))), (1, .inl x1)] [] ah (0, 0) := by
  unfold f_X1_aimOf at h
  refine J_seg ok_X1_aimOf 0 2 (pc' := 2) (ls' := [(0, .inr (.inr (.inl x0))), (1, .inl x1)]) (st' := [.inl x1, .inr (.inr (.inl x0))]) rfl ?_
  by_cases c3 : qO ah x0 1 = true
  case neg => exact absurd ((if_neg c3).symm.trans h) (by simp)
  have h := (if_pos c3).symm.trans h
  obtain ⟨q1, h2, h⟩ := Option.bind_eq_some_iff.mp h
  refine J_callV (md' := md_X1_has) (As := [.inl x1]) (st := []) (cs' := (0, 0)) (st' := [.inl q1.1]) (jat ok_X1_aimOf 2 (pc := 2) (i := .invokevirtual 34) (n := 3) rfl rfl) ml_RX1_34 yv_X1_has c3 (c_X1_has l g (d + 0) h2) (jRo_of (by decide)) (Nat.le_of_ble_eq_true rfl) ⟨Nat.le_of_ble_eq_true rfl, Nat.le_of_ble_eq_true rfl⟩ rfl rfl rfl ?_
  refine J_eq0 (jat ok_X1_aimOf 3 (pc := 5) (i := .ifCond .eq 12) (n := 3) rfl rfl) (tgt := 17) (by decide) (fun c => ?_) (fun c => ?_)
  · have h := (if_pos c).symm.trans h
    refine J_seg ok_X1_aimOf 9 1 (pc' := 18) (ls' := [(0, .inr (.inr (.inl x0))), (1, .inl x1)]) (st' := [.inl 0]) rfl ?_
    have h := Option.some.inj h
    subst h
    exact hR _ _ (jat ok_X1_aimOf 10 (pc := 18) (i := .ireturn) (n := 1) rfl rfl)
  · have h := (if_neg c).symm.trans h
    refine J_seg ok_X1_aimOf 4 1 (pc' := 9) (ls' := [(0, .inr (.inr (.inl x0))), (1, .inl x1)]) (st' := [.inr (.inr (.inl x0))]) rfl ?_
    obtain ⟨v4, h5, h⟩ := Option.bind_eq_some_iff.mp h
    refine J_getR (jat ok_X1_aimOf 5 (pc := 9) (i := .getfield 15) (n := 3) rfl rfl) fl_RX1_15 h5 ?_
    refine J_seg ok_X1_aimOf 6 1 (pc' := 13) (ls' := [(0, .inr (.inr (.inl x0))), (1, .inl x1)]) (st' := [.inl x1, .inr (.inr (.inl v4))]) rfl ?_
    obtain ⟨v6, h7, h⟩ := Option.bind_eq_some_iff.mp h
    refine J_iald (jat ok_X1_aimOf 7 (pc := 13) (i := .iaload) (n := 1) rfl rfl) h7 ?_
    refine J_seg ok_X1_aimOf 8 1 (pc' := 18) (ls' := [(0, .inr (.inr (.inl x0))), (1, .inl x1)]) (st' := [.inl v6]) rfl ?_
    have h := Option.some.inj h
    subst h
    exact hR _ _ (jat ok_X1_aimOf 10 (pc := 18) (i := .ireturn) (n := 1) rfl rfl)
theorem c_X1_aimOf (l : Launch) (g : GX) (d : Nat) {x0 : Option Nat} {x1 : Int32} {ah : AH} {q : Int32 × AH} (h : f_X1_aimOf x0 x1 ah = some q) : jM l g (d + 1) md_X1_aimOf [.inr (.inr (.inl x0)), .inl x1] ah (some (.inl q.1)) q.2 :=
  jM_of (by decide) (Nat.le_of_ble_eq_true rfl) (k_X1_aimOf d ah q h (fun pc ls hd => J_reti hd rfl (jPV_int _) rfl (Nat.le_refl _) rfl rfl))
def f_X1_zealOf (x0 : Option Nat) (x1 : Int32) (ah : AH) : Option (Int32 × AH) :=
  if qO ah x0 1 = true then ((f_X1_has x0 x1 ah).bind fun q1 => if q1.1 = 0 then (some (0, q1.2)) else ((gR q1.2 x0 1 2).bind fun v4 => (gA q1.2 v4 x1).bind fun v6 => some (v6, q1.2))) else none
set_option maxRecDepth 100000 in
set_option maxHeartbeats 4000000 in
theorem k_X1_zealOf {l : Launch} {g : GX} (d : Nat) {Q : jQ} {x0 : Option Nat} {x1 : Int32} (ah : AH) (out : Int32 × AH) (h : f_X1_zealOf x0 x1 ah = some out) (hR : jRetI l g md_X1_zealOf (jRm (d + 1) md_X1_zealOf) Q (0, 0) out.1 out.2) : J l g md_X1_zealOf (jRm (d + 1) md_X1_zealOf) Q 0 [(0, .inr (.inr (.inl x0))), (1, .inl x1)] [] ah (0, 0) := by
  unfold f_X1_zealOf at h
  refine J_seg ok_X1_zealOf 0 2 (pc' := 2) (ls' := [(0, .inr (.inr (.inl x0))), (1, .inl x1)]) (st' := [.inl x1, .inr (.inr (.inl x0))]) rfl ?_
  by_cases c3 : qO ah x0 1 = true
  case neg => exact absurd ((if_neg c3).symm.trans h) (by simp)
  have h := (if_pos c3).symm.trans h
  obtain ⟨q1, h2, h⟩ := Option.bind_eq_some_iff.mp h
  refine J_callV (md' := md_X1_has) (As := [.inl x1]) (st := []) (cs' := (0, 0)) (st' := [.inl q1.1]) (jat ok_X1_zealOf 2 (pc := 2) (i := .invokevirtual 34) (n := 3) rfl rfl) ml_RX1_34 yv_X1_has c3 (c_X1_has l g (d + 0) h2) (jRo_of (by decide)) (Nat.le_of_ble_eq_true rfl) ⟨Nat.le_of_ble_eq_true rfl, Nat.le_of_ble_eq_true rfl⟩ rfl rfl rfl ?_
  refine J_eq0 (jat ok_X1_zealOf 3 (pc := 5) (i := .ifCond .eq 12) (n := 3) rfl rfl) (tgt := 17) (by decide) (fun c => ?_) (fun c => ?_)
  · have h := (if_pos c).symm.trans h
    refine J_seg ok_X1_zealOf 9 1 (pc' := 18) (ls' := [(0, .inr (.inr (.inl x0))), (1, .inl x1)]) (st' := [.inl 0]) rfl ?_
    have h := Option.some.inj h
    subst h
    exact hR _ _ (jat ok_X1_zealOf 10 (pc := 18) (i := .ireturn) (n := 1) rfl rfl)
  · have h := (if_neg c).symm.trans h
    refine J_seg ok_X1_zealOf 4 1 (pc' := 9) (ls' := [(0, .inr (.inr (.inl x0))), (1, .inl x1)]) (st' := [.inr (.inr (.inl x0))]) rfl ?_
    obtain ⟨v4, h5, h⟩ := Option.bind_eq_some_iff.mp h
    refine J_getR (jat ok_X1_zealOf 5 (pc := 9) (i := .getfield 18) (n := 3) rfl rfl) fl_RX1_18 h5 ?_
    refine J_seg ok_X1_zealOf 6 1 (pc' := 13) (ls' := [(0, .inr (.inr (.inl x0))), (1, .inl x1)]) (st' := [.inl x1, .inr (.inr (.inl v4))]) rfl ?_
    obtain ⟨v6, h7, h⟩ := Option.bind_eq_some_iff.mp h
    refine J_iald (jat ok_X1_zealOf 7 (pc := 13) (i := .iaload) (n := 1) rfl rfl) h7 ?_
    refine J_seg ok_X1_zealOf 8 1 (pc' := 18) (ls' := [(0, .inr (.inr (.inl x0))), (1, .inl x1)]) (st' := [.inl v6]) rfl ?_
    have h := Option.some.inj h
    subst h
    exact hR _ _ (jat ok_X1_zealOf 10 (pc := 18) (i := .ireturn) (n := 1) rfl rfl)
theorem c_X1_zealOf (l : Launch) (g : GX) (d : Nat) {x0 : Option Nat} {x1 : Int32} {ah : AH} {q : Int32 × AH} (h : f_X1_zealOf x0 x1 ah = some q) : jM l g (d + 1) md_X1_zealOf [.inr (.inr (.inl x0)), .inl x1] ah (some (.inl q.1)) q.2 :=
  jM_of (by decide) (Nat.le_of_ble_eq_true rfl) (k_X1_zealOf d ah q h (fun pc ls hd => J_reti hd rfl (jPV_int _) rfl (Nat.le_refl _) rfl rfl))
def f_X1_firstVictimOf (x0 : Option Nat) (x1 : Int32) (ah : AH) : Option (Int32 × AH) :=
  if qO ah x0 1 = true then ((f_X1_has x0 x1 ah).bind fun q1 => if q1.1 = 0 then (some ((-9), q1.2)) else ((gR q1.2 x0 1 4).bind fun v4 => (gA q1.2 v4 x1).bind fun v6 => some (v6, q1.2))) else none
set_option maxRecDepth 100000 in
set_option maxHeartbeats 4000000 in
theorem k_X1_firstVictimOf {l : Launch} {g : GX} (d : Nat) {Q : jQ} {x0 : Option Nat} {x1 : Int32} (ah : AH) (out : Int32 × AH) (h : f_X1_firstVictimOf x0 x1 ah = some out) (hR : jRetI l g md_X1_firstVictimOf (jRm (d + 1) md_X1_firstVictimOf) Q (0, 0) out.1 out.2) : J l g md_X1_firstVictimOf (jRm (d + 1) md_X1_firstVictimOf) Q 0 [(0, .inr (.inr (.inl x0))), (1, .inl x1)] [] ah (0, 0) := by
  unfold f_X1_firstVictimOf at h
  refine J_seg ok_X1_firstVictimOf 0 2 (pc' := 2) (ls' := [(0, .inr (.inr (.inl x0))), (1, .inl x1)]) (st' := [.inl x1, .inr (.inr (.inl x0))]) rfl ?_
  by_cases c3 : qO ah x0 1 = true
  case neg => exact absurd ((if_neg c3).symm.trans h) (by simp)
  have h := (if_pos c3).symm.trans h
  obtain ⟨q1, h2, h⟩ := Option.bind_eq_some_iff.mp h
  refine J_callV (md' := md_X1_has) (As := [.inl x1]) (st := []) (cs' := (0, 0)) (st' := [.inl q1.1]) (jat ok_X1_firstVictimOf 2 (pc := 2) (i := .invokevirtual 34) (n := 3) rfl rfl) ml_RX1_34 yv_X1_has c3 (c_X1_has l g (d + 0) h2) (jRo_of (by decide)) (Nat.le_of_ble_eq_true rfl) ⟨Nat.le_of_ble_eq_true rfl, Nat.le_of_ble_eq_true rfl⟩ rfl rfl rfl ?_
  refine J_eq0 (jat ok_X1_firstVictimOf 3 (pc := 5) (i := .ifCond .eq 12) (n := 3) rfl rfl) (tgt := 17) (by decide) (fun c => ?_) (fun c => ?_)
  · have h := (if_pos c).symm.trans h
    refine J_seg ok_X1_firstVictimOf 9 1 (pc' := 19) (ls' := [(0, .inr (.inr (.inl x0))), (1, .inl x1)]) (st' := [.inl (-9)]) rfl ?_
    have h := Option.some.inj h
    subst h
    exact hR _ _ (jat ok_X1_firstVictimOf 10 (pc := 19) (i := .ireturn) (n := 1) rfl rfl)
  · have h := (if_neg c).symm.trans h
    refine J_seg ok_X1_firstVictimOf 4 1 (pc' := 9) (ls' := [(0, .inr (.inr (.inl x0))), (1, .inl x1)]) (st' := [.inr (.inr (.inl x0))]) rfl ?_
    obtain ⟨v4, h5, h⟩ := Option.bind_eq_some_iff.mp h
    refine J_getR (jat ok_X1_firstVictimOf 5 (pc := 9) (i := .getfield 24) (n := 3) rfl rfl) fl_RX1_24 h5 ?_
    refine J_seg ok_X1_firstVictimOf 6 1 (pc' := 13) (ls' := [(0, .inr (.inr (.inl x0))), (1, .inl x1)]) (st' := [.inl x1, .inr (.inr (.inl v4))]) rfl ?_
    obtain ⟨v6, h7, h⟩ := Option.bind_eq_some_iff.mp h
    refine J_iald (jat ok_X1_firstVictimOf 7 (pc := 13) (i := .iaload) (n := 1) rfl rfl) h7 ?_
    refine J_seg ok_X1_firstVictimOf 8 1 (pc' := 19) (ls' := [(0, .inr (.inr (.inl x0))), (1, .inl x1)]) (st' := [.inl v6]) rfl ?_
    have h := Option.some.inj h
    subst h
    exact hR _ _ (jat ok_X1_firstVictimOf 10 (pc := 19) (i := .ireturn) (n := 1) rfl rfl)
theorem c_X1_firstVictimOf (l : Launch) (g : GX) (d : Nat) {x0 : Option Nat} {x1 : Int32} {ah : AH} {q : Int32 × AH} (h : f_X1_firstVictimOf x0 x1 ah = some q) : jM l g (d + 1) md_X1_firstVictimOf [.inr (.inr (.inl x0)), .inl x1] ah (some (.inl q.1)) q.2 :=
  jM_of (by decide) (Nat.le_of_ble_eq_true rfl) (k_X1_firstVictimOf d ah q h (fun pc ls hd => J_reti hd rfl (jPV_int _) rfl (Nat.le_refl _) rfl rfl))
def f_X1_isOf_j21 (x2 : Int32) (x3 : Int32) (ah : AH) : Option (Int32 × AH) :=
  if x3 = 5 then (if x2 = 3 then (some (1, ah)) else (some (0, ah))) else (some (0, ah))
set_option maxRecDepth 100000 in
set_option maxHeartbeats 4000000 in
theorem k_X1_isOf_j21 {l : Launch} {g : GX} (d : Nat) {Q : jQ} {x2 : Int32} {x3 : Int32} (ah : AH) (out : Int32 × AH) (h : f_X1_isOf_j21 x2 x3 ah = some out) (hR : jRetZ l g md_X1_isOf (jRm (d + 2) md_X1_isOf) Q (0, 0) out.1 out.2) : J l g md_X1_isOf (jRm (d + 2) md_X1_isOf) Q 21 [(2, .inl x2), (3, .inl x3)] [] ah (0, 0) := by
  unfold f_X1_isOf_j21 at h
  refine J_seg ok_X1_isOf 13 2 (pc' := 23) (ls' := [(2, .inl x2), (3, .inl x3)]) (st' := [.inl 5, .inl x3]) rfl ?_
  refine J_ne (jat ok_X1_isOf 15 (pc := 23) (i := .if_icmp .ne 12) (n := 3) rfl rfl) (tgt := 35) (by decide) (fun c => ?_) (fun c => ?_)
  · have h := (if_neg c).symm.trans h
    refine J_seg ok_X1_isOf 21 1 (pc' := 36) (ls' := [(2, .inl x2), (3, .inl x3)]) (st' := [.inl 0]) rfl ?_
    have h := Option.some.inj h
    subst h
    exact hR _ _ (jat ok_X1_isOf 22 (pc := 36) (i := .ireturn) (n := 1) rfl rfl) (Or.inl rfl)
  · have h := (if_pos c).symm.trans h
    refine J_seg ok_X1_isOf 16 2 (pc' := 28) (ls' := [(2, .inl x2), (3, .inl x3)]) (st' := [.inl 3, .inl x2]) rfl ?_
    refine J_ne (jat ok_X1_isOf 18 (pc := 28) (i := .if_icmp .ne 7) (n := 3) rfl rfl) (tgt := 35) (by decide) (fun c => ?_) (fun c => ?_)
    · have h := (if_neg c).symm.trans h
      refine J_seg ok_X1_isOf 21 1 (pc' := 36) (ls' := [(2, .inl x2), (3, .inl x3)]) (st' := [.inl 0]) rfl ?_
      have h := Option.some.inj h
      subst h
      exact hR _ _ (jat ok_X1_isOf 22 (pc := 36) (i := .ireturn) (n := 1) rfl rfl) (Or.inl rfl)
    · have h := (if_pos c).symm.trans h
      refine J_seg ok_X1_isOf 19 2 (pc' := 36) (ls' := [(2, .inl x2), (3, .inl x3)]) (st' := [.inl 1]) rfl ?_
      have h := Option.some.inj h
      subst h
      exact hR _ _ (jat ok_X1_isOf 22 (pc := 36) (i := .ireturn) (n := 1) rfl rfl) (Or.inr rfl)
def f_X1_isOf (x0 : Option Nat) (x1 : Int32) (x2 : Int32) (ah : AH) : Option (Int32 × AH) :=
  if qO ah x0 1 = true then ((f_X1_kindOf x0 x1 ah).bind fun q1 => if q1.1 = x2 then (some (1, q1.2)) else (if q1.1 = 4 then (if x2 = 1 then (some (1, q1.2)) else (f_X1_isOf_j21 x2 q1.1 q1.2)) else (f_X1_isOf_j21 x2 q1.1 q1.2))) else none
set_option maxRecDepth 100000 in
set_option maxHeartbeats 4000000 in
theorem k_X1_isOf {l : Launch} {g : GX} (d : Nat) {Q : jQ} {x0 : Option Nat} {x1 : Int32} {x2 : Int32} (ah : AH) (out : Int32 × AH) (h : f_X1_isOf x0 x1 x2 ah = some out) (hR : jRetZ l g md_X1_isOf (jRm (d + 2) md_X1_isOf) Q (0, 0) out.1 out.2) : J l g md_X1_isOf (jRm (d + 2) md_X1_isOf) Q 0 [(0, .inr (.inr (.inl x0))), (1, .inl x1), (2, .inl x2)] [] ah (0, 0) := by
  unfold f_X1_isOf at h
  refine J_seg ok_X1_isOf 0 2 (pc' := 2) (ls' := [(0, .inr (.inr (.inl x0))), (1, .inl x1), (2, .inl x2)]) (st' := [.inl x1, .inr (.inr (.inl x0))]) rfl ?_
  by_cases c3 : qO ah x0 1 = true
  case neg => exact absurd ((if_neg c3).symm.trans h) (by simp)
  have h := (if_pos c3).symm.trans h
  obtain ⟨q1, h2, h⟩ := Option.bind_eq_some_iff.mp h
  refine J_callV (md' := md_X1_kindOf) (As := [.inl x1]) (st := []) (cs' := (0, 0)) (st' := [.inl q1.1]) (jat ok_X1_isOf 2 (pc := 2) (i := .invokevirtual 38) (n := 3) rfl rfl) ml_RX1_38 yv_X1_kindOf c3 (c_X1_kindOf l g (d + 0) h2) (jRo_of (by decide)) (Nat.le_of_ble_eq_true rfl) ⟨Nat.le_of_ble_eq_true rfl, Nat.le_of_ble_eq_true rfl⟩ rfl rfl rfl ?_
  refine J_seg ok_X1_isOf 3 3 (pc' := 8) (ls' := [(3, .inl q1.1), (0, .inr (.inr (.inl x0))), (1, .inl x1), (2, .inl x2)]) (st' := [.inl x2, .inl q1.1]) rfl ?_
  refine J_eq (jat ok_X1_isOf 6 (pc := 8) (i := .if_icmp .eq 23) (n := 3) rfl rfl) (tgt := 31) (by decide) (fun c => ?_) (fun c => ?_)
  · have h := (if_pos c).symm.trans h
    refine J_seg ok_X1_isOf 19 2 (pc' := 36) (ls' := [(3, .inl q1.1), (0, .inr (.inr (.inl x0))), (1, .inl x1), (2, .inl x2)]) (st' := [.inl 1]) rfl ?_
    have h := Option.some.inj h
    subst h
    exact hR _ _ (jat ok_X1_isOf 22 (pc := 36) (i := .ireturn) (n := 1) rfl rfl) (Or.inr rfl)
  · have h := (if_neg c).symm.trans h
    refine J_seg ok_X1_isOf 7 2 (pc' := 13) (ls' := [(3, .inl q1.1), (0, .inr (.inr (.inl x0))), (1, .inl x1), (2, .inl x2)]) (st' := [.inl 4, .inl q1.1]) rfl ?_
    refine J_ne (jat ok_X1_isOf 9 (pc := 13) (i := .if_icmp .ne 8) (n := 3) rfl rfl) (tgt := 21) (by decide) (fun c => ?_) (fun c => ?_)
    · have h := (if_neg c).symm.trans h
      refine J_sub (ls' := [(2, .inl x2), (3, .inl q1.1)]) [3, 0] rfl ?_
      exact k_X1_isOf_j21 d _ _ h hR
    · have h := (if_pos c).symm.trans h
      refine J_seg ok_X1_isOf 10 2 (pc' := 18) (ls' := [(3, .inl q1.1), (0, .inr (.inr (.inl x0))), (1, .inl x1), (2, .inl x2)]) (st' := [.inl 1, .inl x2]) rfl ?_
      refine J_eq (jat ok_X1_isOf 12 (pc := 18) (i := .if_icmp .eq 13) (n := 3) rfl rfl) (tgt := 31) (by decide) (fun c => ?_) (fun c => ?_)
      · have h := (if_pos c).symm.trans h
        refine J_seg ok_X1_isOf 19 2 (pc' := 36) (ls' := [(3, .inl q1.1), (0, .inr (.inr (.inl x0))), (1, .inl x1), (2, .inl x2)]) (st' := [.inl 1]) rfl ?_
        have h := Option.some.inj h
        subst h
        exact hR _ _ (jat ok_X1_isOf 22 (pc := 36) (i := .ireturn) (n := 1) rfl rfl) (Or.inr rfl)
      · have h := (if_neg c).symm.trans h
        refine J_sub (ls' := [(2, .inl x2), (3, .inl q1.1)]) [3, 0] rfl ?_
        exact k_X1_isOf_j21 d _ _ h hR
theorem c_X1_isOf (l : Launch) (g : GX) (d : Nat) {x0 : Option Nat} {x1 : Int32} {x2 : Int32} {ah : AH} {q : Int32 × AH} (h : f_X1_isOf x0 x1 x2 ah = some q) : jM l g (d + 2) md_X1_isOf [.inr (.inr (.inl x0)), .inl x1, .inl x2] ah (some (.inl q.1)) q.2 :=
  jM_of (by decide) (Nat.le_of_ble_eq_true rfl) (k_X1_isOf d ah q h (fun pc ls hd c => J_reti hd rfl (jPV_z c) rfl (Nat.le_refl _) rfl rfl))
def f_X1_power_j43 (x0 : Option Nat) (x1 : Int32) (x2 : Int32) (ah : AH) : Option (Int32 × AH) :=
  if qO ah x0 1 = true then ((f_X1_isOf x0 x1 5 ah).bind fun q13 => if q13.1 = 0 then (some (x2, q13.2)) else (some ((if 0 < (x2 - 1) then (x2 - 1) else 0), q13.2))) else none
set_option maxRecDepth 100000 in
set_option maxHeartbeats 4000000 in
theorem k_X1_power_j43 {l : Launch} {g : GX} (d : Nat) {Q : jQ} {x0 : Option Nat} {x1 : Int32} {x2 : Int32} (ah : AH) (out : Int32 × AH) (h : f_X1_power_j43 x0 x1 x2 ah = some out) (hR : jRetI l g md_X1_power (jRm (d + 3) md_X1_power) Q (0, 0) out.1 out.2) : J l g md_X1_power (jRm (d + 3) md_X1_power) Q 43 [(0, .inr (.inr (.inl x0))), (1, .inl x1), (2, .inl x2)] [] ah (0, 0) := by
  unfold f_X1_power_j43 at h
  refine J_seg ok_X1_power 25 3 (pc' := 46) (ls' := [(0, .inr (.inr (.inl x0))), (1, .inl x1), (2, .inl x2)]) (st' := [.inl 5, .inl x1, .inr (.inr (.inl x0))]) rfl ?_
  by_cases c15 : qO ah x0 1 = true
  case neg => exact absurd ((if_neg c15).symm.trans h) (by simp)
  have h := (if_pos c15).symm.trans h
  obtain ⟨q13, h14, h⟩ := Option.bind_eq_some_iff.mp h
  refine J_callV (md' := md_X1_isOf) (As := [.inl x1, .inl 5]) (st := []) (cs' := (0, 0)) (st' := [.inl q13.1]) (jat ok_X1_power 28 (pc := 46) (i := .invokevirtual 45) (n := 3) rfl rfl) ml_RX1_45 yv_X1_isOf c15 (c_X1_isOf l g (d + 0) h14) (jRo_of (by decide)) (Nat.le_of_ble_eq_true rfl) ⟨Nat.le_of_ble_eq_true rfl, Nat.le_of_ble_eq_true rfl⟩ rfl rfl rfl ?_
  refine J_eq0 (jat ok_X1_power 29 (pc := 49) (i := .ifCond .eq 11) (n := 3) rfl rfl) (tgt := 60) (by decide) (fun c => ?_) (fun c => ?_)
  · have h := (if_pos c).symm.trans h
    refine J_seg ok_X1_power 36 1 (pc' := 61) (ls' := [(0, .inr (.inr (.inl x0))), (1, .inl x1), (2, .inl x2)]) (st' := [.inl x2]) rfl ?_
    have h := Option.some.inj h
    subst h
    exact hR _ _ (jat ok_X1_power 37 (pc := 61) (i := .ireturn) (n := 1) rfl rfl)
  · have h := (if_neg c).symm.trans h
    refine J_seg ok_X1_power 30 4 (pc' := 56) (ls' := [(0, .inr (.inr (.inl x0))), (1, .inl x1), (2, .inl x2)]) (st' := [.inl (x2 - 1), .inl 0]) rfl ?_
    refine J_max (jat ok_X1_power 34 (pc := 56) (i := .invokestatic 49) (n := 3) rfl rfl) mm_RX1_49 mw_max ⟨by show 1 ≤ d + 3; omega, by show 21 ≤ 64 * (d + 3); omega⟩ (Nat.le_of_ble_eq_true rfl) ⟨Nat.le_of_ble_eq_true rfl, Nat.le_of_ble_eq_true rfl⟩ ?_
    refine J_seg ok_X1_power 35 2 (pc' := 61) (ls' := [(2, .inl (if 0 < (x2 - 1) then (x2 - 1) else 0)), (0, .inr (.inr (.inl x0))), (1, .inl x1)]) (st' := [.inl (if 0 < (x2 - 1) then (x2 - 1) else 0)]) rfl ?_
    have h := Option.some.inj h
    subst h
    exact hR _ _ (jat ok_X1_power 37 (pc := 61) (i := .ireturn) (n := 1) rfl rfl)
def f_X1_power_j30 (x0 : Option Nat) (x1 : Int32) (x2 : Int32) (ah : AH) : Option (Int32 × AH) :=
  if qO ah x0 1 = true then ((f_X1_isOf x0 x1 3 ah).bind fun q10 => if q10.1 = 0 then (f_X1_power_j43 x0 x1 x2 q10.2) else (f_X1_power_j43 x0 x1 (x2 / 2) q10.2)) else none
set_option maxRecDepth 100000 in
set_option maxHeartbeats 4000000 in
theorem k_X1_power_j30 {l : Launch} {g : GX} (d : Nat) {Q : jQ} {x0 : Option Nat} {x1 : Int32} {x2 : Int32} (ah : AH) (out : Int32 × AH) (h : f_X1_power_j30 x0 x1 x2 ah = some out) (hR : jRetI l g md_X1_power (jRm (d + 3) md_X1_power) Q (0, 0) out.1 out.2) : J l g md_X1_power (jRm (d + 3) md_X1_power) Q 30 [(0, .inr (.inr (.inl x0))), (1, .inl x1), (2, .inl x2)] [] ah (0, 0) := by
  unfold f_X1_power_j30 at h
  refine J_seg ok_X1_power 16 3 (pc' := 33) (ls' := [(0, .inr (.inr (.inl x0))), (1, .inl x1), (2, .inl x2)]) (st' := [.inl 3, .inl x1, .inr (.inr (.inl x0))]) rfl ?_
  by_cases c12 : qO ah x0 1 = true
  case neg => exact absurd ((if_neg c12).symm.trans h) (by simp)
  have h := (if_pos c12).symm.trans h
  obtain ⟨q10, h11, h⟩ := Option.bind_eq_some_iff.mp h
  refine J_callV (md' := md_X1_isOf) (As := [.inl x1, .inl 3]) (st := []) (cs' := (0, 0)) (st' := [.inl q10.1]) (jat ok_X1_power 19 (pc := 33) (i := .invokevirtual 45) (n := 3) rfl rfl) ml_RX1_45 yv_X1_isOf c12 (c_X1_isOf l g (d + 0) h11) (jRo_of (by decide)) (Nat.le_of_ble_eq_true rfl) ⟨Nat.le_of_ble_eq_true rfl, Nat.le_of_ble_eq_true rfl⟩ rfl rfl rfl ?_
  refine J_eq0 (jat ok_X1_power 20 (pc := 36) (i := .ifCond .eq 7) (n := 3) rfl rfl) (tgt := 43) (by decide) (fun c => ?_) (fun c => ?_)
  · have h := (if_pos c).symm.trans h
    refine J_sub (ls' := [(0, .inr (.inr (.inl x0))), (1, .inl x1), (2, .inl x2)]) [0, 1, 2] rfl ?_
    exact k_X1_power_j43 d _ _ h hR
  · have h := (if_neg c).symm.trans h
    refine J_seg ok_X1_power 21 2 (pc' := 41) (ls' := [(0, .inr (.inr (.inl x0))), (1, .inl x1), (2, .inl x2)]) (st' := [.inl 2, .inl x2]) rfl ?_
    refine J_idiv (jat ok_X1_power 23 (pc := 41) (i := .idiv) (n := 1) rfl rfl) (by decide) ?_
    refine J_seg ok_X1_power 24 1 (pc' := 43) (ls' := [(2, .inl (x2 / 2)), (0, .inr (.inr (.inl x0))), (1, .inl x1)]) (st' := []) rfl ?_
    refine J_sub (ls' := [(0, .inr (.inr (.inl x0))), (1, .inl x1), (2, .inl (x2 / 2))]) [1, 2, 0] rfl ?_
    exact k_X1_power_j43 d _ _ h hR
def f_X1_power_j18 (x0 : Option Nat) (x1 : Int32) (x2 : Int32) (ah : AH) : Option (Int32 × AH) :=
  if qO ah x0 1 = true then ((f_X1_isOf x0 x1 4 ah).bind fun q7 => if q7.1 = 0 then (f_X1_power_j30 x0 x1 x2 q7.2) else (f_X1_power_j30 x0 x1 (x2 + 2) q7.2)) else none
set_option maxRecDepth 100000 in
set_option maxHeartbeats 4000000 in
theorem k_X1_power_j18 {l : Launch} {g : GX} (d : Nat) {Q : jQ} {x0 : Option Nat} {x1 : Int32} {x2 : Int32} (ah : AH) (out : Int32 × AH) (h : f_X1_power_j18 x0 x1 x2 ah = some out) (hR : jRetI l g md_X1_power (jRm (d + 3) md_X1_power) Q (0, 0) out.1 out.2) : J l g md_X1_power (jRm (d + 3) md_X1_power) Q 18 [(0, .inr (.inr (.inl x0))), (1, .inl x1), (2, .inl x2)] [] ah (0, 0) := by
  unfold f_X1_power_j18 at h
  refine J_seg ok_X1_power 10 3 (pc' := 21) (ls' := [(0, .inr (.inr (.inl x0))), (1, .inl x1), (2, .inl x2)]) (st' := [.inl 4, .inl x1, .inr (.inr (.inl x0))]) rfl ?_
  by_cases c9 : qO ah x0 1 = true
  case neg => exact absurd ((if_neg c9).symm.trans h) (by simp)
  have h := (if_pos c9).symm.trans h
  obtain ⟨q7, h8, h⟩ := Option.bind_eq_some_iff.mp h
  refine J_callV (md' := md_X1_isOf) (As := [.inl x1, .inl 4]) (st := []) (cs' := (0, 0)) (st' := [.inl q7.1]) (jat ok_X1_power 13 (pc := 21) (i := .invokevirtual 45) (n := 3) rfl rfl) ml_RX1_45 yv_X1_isOf c9 (c_X1_isOf l g (d + 0) h8) (jRo_of (by decide)) (Nat.le_of_ble_eq_true rfl) ⟨Nat.le_of_ble_eq_true rfl, Nat.le_of_ble_eq_true rfl⟩ rfl rfl rfl ?_
  refine J_eq0 (jat ok_X1_power 14 (pc := 24) (i := .ifCond .eq 6) (n := 3) rfl rfl) (tgt := 30) (by decide) (fun c => ?_) (fun c => ?_)
  · have h := (if_pos c).symm.trans h
    refine J_sub (ls' := [(0, .inr (.inr (.inl x0))), (1, .inl x1), (2, .inl x2)]) [0, 1, 2] rfl ?_
    exact k_X1_power_j30 d _ _ h hR
  · have h := (if_neg c).symm.trans h
    refine J_seg ok_X1_power 15 1 (pc' := 30) (ls' := [(2, .inl (x2 + 2)), (0, .inr (.inr (.inl x0))), (1, .inl x1)]) (st' := []) rfl ?_
    refine J_sub (ls' := [(0, .inr (.inr (.inl x0))), (1, .inl x1), (2, .inl (x2 + 2))]) [1, 2, 0] rfl ?_
    exact k_X1_power_j30 d _ _ h hR
def f_X1_power (x0 : Option Nat) (x1 : Int32) (ah : AH) : Option (Int32 × AH) :=
  if qO ah x0 1 = true then ((f_X1_zealOf x0 x1 ah).bind fun q1 => if qO q1.2 x0 1 = true then ((f_X1_isOf x0 x1 1 q1.2).bind fun q4 => if q4.1 = 0 then (f_X1_power_j18 x0 x1 q1.1 q4.2) else (f_X1_power_j18 x0 x1 (q1.1 + 1) q4.2)) else none) else none
set_option maxRecDepth 100000 in
set_option maxHeartbeats 4000000 in
theorem k_X1_power {l : Launch} {g : GX} (d : Nat) {Q : jQ} {x0 : Option Nat} {x1 : Int32} (ah : AH) (out : Int32 × AH) (h : f_X1_power x0 x1 ah = some out) (hR : jRetI l g md_X1_power (jRm (d + 3) md_X1_power) Q (0, 0) out.1 out.2) : J l g md_X1_power (jRm (d + 3) md_X1_power) Q 0 [(0, .inr (.inr (.inl x0))), (1, .inl x1)] [] ah (0, 0) := by
  unfold f_X1_power at h
  refine J_seg ok_X1_power 0 2 (pc' := 2) (ls' := [(0, .inr (.inr (.inl x0))), (1, .inl x1)]) (st' := [.inl x1, .inr (.inr (.inl x0))]) rfl ?_
  by_cases c3 : qO ah x0 1 = true
  case neg => exact absurd ((if_neg c3).symm.trans h) (by simp)
  have h := (if_pos c3).symm.trans h
  obtain ⟨q1, h2, h⟩ := Option.bind_eq_some_iff.mp h
  refine J_callV (md' := md_X1_zealOf) (As := [.inl x1]) (st := []) (cs' := (0, 0)) (st' := [.inl q1.1]) (jat ok_X1_power 2 (pc := 2) (i := .invokevirtual 42) (n := 3) rfl rfl) ml_RX1_42 yv_X1_zealOf c3 (c_X1_zealOf l g (d + 1) h2) (jRo_of (by decide)) (Nat.le_of_ble_eq_true rfl) ⟨Nat.le_of_ble_eq_true rfl, Nat.le_of_ble_eq_true rfl⟩ rfl rfl rfl ?_
  refine J_seg ok_X1_power 3 4 (pc' := 9) (ls' := [(2, .inl q1.1), (0, .inr (.inr (.inl x0))), (1, .inl x1)]) (st' := [.inl 1, .inl x1, .inr (.inr (.inl x0))]) rfl ?_
  by_cases c6 : qO q1.2 x0 1 = true
  case neg => exact absurd ((if_neg c6).symm.trans h) (by simp)
  have h := (if_pos c6).symm.trans h
  obtain ⟨q4, h5, h⟩ := Option.bind_eq_some_iff.mp h
  refine J_callV (md' := md_X1_isOf) (As := [.inl x1, .inl 1]) (st := []) (cs' := (0, 0)) (st' := [.inl q4.1]) (jat ok_X1_power 7 (pc := 9) (i := .invokevirtual 45) (n := 3) rfl rfl) ml_RX1_45 yv_X1_isOf c6 (c_X1_isOf l g (d + 0) h5) (jRo_of (by decide)) (Nat.le_of_ble_eq_true rfl) ⟨Nat.le_of_ble_eq_true rfl, Nat.le_of_ble_eq_true rfl⟩ rfl rfl rfl ?_
  refine J_eq0 (jat ok_X1_power 8 (pc := 12) (i := .ifCond .eq 6) (n := 3) rfl rfl) (tgt := 18) (by decide) (fun c => ?_) (fun c => ?_)
  · have h := (if_pos c).symm.trans h
    refine J_sub (ls' := [(0, .inr (.inr (.inl x0))), (1, .inl x1), (2, .inl q1.1)]) [1, 2, 0] rfl ?_
    exact k_X1_power_j18 d _ _ h hR
  · have h := (if_neg c).symm.trans h
    refine J_seg ok_X1_power 9 1 (pc' := 18) (ls' := [(2, .inl (q1.1 + 1)), (0, .inr (.inr (.inl x0))), (1, .inl x1)]) (st' := []) rfl ?_
    refine J_sub (ls' := [(0, .inr (.inr (.inl x0))), (1, .inl x1), (2, .inl (q1.1 + 1))]) [1, 2, 0] rfl ?_
    exact k_X1_power_j18 d _ _ h hR
theorem c_X1_power (l : Launch) (g : GX) (d : Nat) {x0 : Option Nat} {x1 : Int32} {ah : AH} {q : Int32 × AH} (h : f_X1_power x0 x1 ah = some q) : jM l g (d + 3) md_X1_power [.inr (.inr (.inl x0)), .inl x1] ah (some (.inl q.1)) q.2 :=
  jM_of (by decide) (Nat.le_of_ble_eq_true rfl) (k_X1_power d ah q h (fun pc ls hd => J_reti hd rfl (jPV_int _) rfl (Nat.le_refl _) rfl rfl))
def f_X1_against (x0 : Option Nat) (x1 : Int32) (x2 : Int32) (ah : AH) : Option (Int32 × AH) :=
  if qO ah x0 1 = true then ((f_X1_lovedBy x0 x1 ah).bind fun q1 => (f_X5_isIn q1.1 x2 q1.2).bind fun q4 => if q4.1 = 0 then (if qO q4.2 x0 1 = true then ((f_X1_power x0 x1 q4.2).bind fun q6 => if qO q6.2 x0 1 = true then ((f_X1_isOf x0 x2 2 q6.2).bind fun q9 => if q9.1 = 0 then (some (q6.1, q9.2)) else (some ((if 0 < (q6.1 - 1) then (q6.1 - 1) else 0), q9.2))) else none) else none) else (some (0, q4.2))) else none
set_option maxRecDepth 100000 in
set_option maxHeartbeats 4000000 in
theorem k_X1_against {l : Launch} {g : GX} (d : Nat) {Q : jQ} {x0 : Option Nat} {x1 : Int32} {x2 : Int32} (ah : AH) (out : Int32 × AH) (h : f_X1_against x0 x1 x2 ah = some out) (hR : jRetI l g md_X1_against (jRm (d + 4) md_X1_against) Q (0, 0) out.1 out.2) : J l g md_X1_against (jRm (d + 4) md_X1_against) Q 0 [(0, .inr (.inr (.inl x0))), (1, .inl x1), (2, .inl x2)] [] ah (0, 0) := by
  unfold f_X1_against at h
  refine J_seg ok_X1_against 0 2 (pc' := 2) (ls' := [(0, .inr (.inr (.inl x0))), (1, .inl x1), (2, .inl x2)]) (st' := [.inl x1, .inr (.inr (.inl x0))]) rfl ?_
  by_cases c3 : qO ah x0 1 = true
  case neg => exact absurd ((if_neg c3).symm.trans h) (by simp)
  have h := (if_pos c3).symm.trans h
  obtain ⟨q1, h2, h⟩ := Option.bind_eq_some_iff.mp h
  refine J_callV (md' := md_X1_lovedBy) (As := [.inl x1]) (st := []) (cs' := (0, 0)) (st' := [.inl q1.1]) (jat ok_X1_against 2 (pc := 2) (i := .invokevirtual 55) (n := 3) rfl rfl) ml_RX1_55 yv_X1_lovedBy c3 (c_X1_lovedBy l g (d + 2) h2) (jRo_of (by decide)) (Nat.le_of_ble_eq_true rfl) ⟨Nat.le_of_ble_eq_true rfl, Nat.le_of_ble_eq_true rfl⟩ rfl rfl rfl ?_
  refine J_seg ok_X1_against 3 1 (pc' := 6) (ls' := [(0, .inr (.inr (.inl x0))), (1, .inl x1), (2, .inl x2)]) (st' := [.inl x2, .inl q1.1]) rfl ?_
  obtain ⟨q4, h5, h⟩ := Option.bind_eq_some_iff.mp h
  refine J_callS (md' := md_X5_isIn) (As := [.inl q1.1, .inl x2]) (st := []) (cs' := (0, 0)) (st' := [.inl q4.1]) (jat ok_X1_against 4 (pc := 6) (i := .invokestatic 58) (n := 3) rfl rfl) (Or.inr ⟨_, mn_RX1_58⟩) ys_X5_isIn (c_X5_isIn l g (d + 3) h5) (jRo_of (by decide)) (Nat.le_of_ble_eq_true rfl) ⟨Nat.le_of_ble_eq_true rfl, Nat.le_of_ble_eq_true rfl⟩ rfl rfl rfl ?_
  refine J_eq0 (jat ok_X1_against 5 (pc := 9) (i := .ifCond .eq 5) (n := 3) rfl rfl) (tgt := 14) (by decide) (fun c => ?_) (fun c => ?_)
  · have h := (if_pos c).symm.trans h
    refine J_seg ok_X1_against 8 2 (pc' := 16) (ls' := [(0, .inr (.inr (.inl x0))), (1, .inl x1), (2, .inl x2)]) (st' := [.inl x1, .inr (.inr (.inl x0))]) rfl ?_
    by_cases c8 : qO q4.2 x0 1 = true
    case neg => exact absurd ((if_neg c8).symm.trans h) (by simp)
    have h := (if_pos c8).symm.trans h
    obtain ⟨q6, h7, h⟩ := Option.bind_eq_some_iff.mp h
    refine J_callV (md' := md_X1_power) (As := [.inl x1]) (st := []) (cs' := (0, 0)) (st' := [.inl q6.1]) (jat ok_X1_against 10 (pc := 16) (i := .invokevirtual 61) (n := 3) rfl rfl) ml_RX1_61 yv_X1_power c8 (c_X1_power l g (d + 0) h7) (jRo_of (by decide)) (Nat.le_of_ble_eq_true rfl) ⟨Nat.le_of_ble_eq_true rfl, Nat.le_of_ble_eq_true rfl⟩ rfl rfl rfl ?_
    refine J_seg ok_X1_against 11 4 (pc' := 23) (ls' := [(3, .inl q6.1), (0, .inr (.inr (.inl x0))), (1, .inl x1), (2, .inl x2)]) (st' := [.inl 2, .inl x2, .inr (.inr (.inl x0))]) rfl ?_
    by_cases c11 : qO q6.2 x0 1 = true
    case neg => exact absurd ((if_neg c11).symm.trans h) (by simp)
    have h := (if_pos c11).symm.trans h
    obtain ⟨q9, h10, h⟩ := Option.bind_eq_some_iff.mp h
    refine J_callV (md' := md_X1_isOf) (As := [.inl x2, .inl 2]) (st := []) (cs' := (0, 0)) (st' := [.inl q9.1]) (jat ok_X1_against 15 (pc := 23) (i := .invokevirtual 45) (n := 3) rfl rfl) ml_RX1_45 yv_X1_isOf c11 (c_X1_isOf l g (d + 1) h10) (jRo_of (by decide)) (Nat.le_of_ble_eq_true rfl) ⟨Nat.le_of_ble_eq_true rfl, Nat.le_of_ble_eq_true rfl⟩ rfl rfl rfl ?_
    refine J_eq0 (jat ok_X1_against 16 (pc := 26) (i := .ifCond .eq 13) (n := 3) rfl rfl) (tgt := 39) (by decide) (fun c => ?_) (fun c => ?_)
    · have h := (if_pos c).symm.trans h
      refine J_seg ok_X1_against 23 1 (pc' := 40) (ls' := [(3, .inl q6.1), (0, .inr (.inr (.inl x0))), (1, .inl x1), (2, .inl x2)]) (st' := [.inl q6.1]) rfl ?_
      have h := Option.some.inj h
      subst h
      exact hR _ _ (jat ok_X1_against 24 (pc := 40) (i := .ireturn) (n := 1) rfl rfl)
    · have h := (if_neg c).symm.trans h
      refine J_seg ok_X1_against 17 4 (pc' := 33) (ls' := [(3, .inl q6.1), (0, .inr (.inr (.inl x0))), (1, .inl x1), (2, .inl x2)]) (st' := [.inl (q6.1 - 1), .inl 0]) rfl ?_
      refine J_max (jat ok_X1_against 21 (pc := 33) (i := .invokestatic 49) (n := 3) rfl rfl) mm_RX1_49 mw_max ⟨by show 1 ≤ d + 4; omega, by show 21 ≤ 64 * (d + 4); omega⟩ (Nat.le_of_ble_eq_true rfl) ⟨Nat.le_of_ble_eq_true rfl, Nat.le_of_ble_eq_true rfl⟩ ?_
      refine J_seg ok_X1_against 22 1 (pc' := 40) (ls' := [(3, .inl q6.1), (0, .inr (.inr (.inl x0))), (1, .inl x1), (2, .inl x2)]) (st' := [.inl (if 0 < (q6.1 - 1) then (q6.1 - 1) else 0)]) rfl ?_
      have h := Option.some.inj h
      subst h
      exact hR _ _ (jat ok_X1_against 24 (pc := 40) (i := .ireturn) (n := 1) rfl rfl)
  · have h := (if_neg c).symm.trans h
    refine J_seg ok_X1_against 6 1 (pc' := 13) (ls' := [(0, .inr (.inr (.inl x0))), (1, .inl x1), (2, .inl x2)]) (st' := [.inl 0]) rfl ?_
    have h := Option.some.inj h
    subst h
    exact hR _ _ (jat ok_X1_against 7 (pc := 13) (i := .ireturn) (n := 1) rfl rfl)
theorem c_X1_against (l : Launch) (g : GX) (d : Nat) {x0 : Option Nat} {x1 : Int32} {x2 : Int32} {ah : AH} {q : Int32 × AH} (h : f_X1_against x0 x1 x2 ah = some q) : jM l g (d + 4) md_X1_against [.inr (.inr (.inl x0)), .inl x1, .inl x2] ah (some (.inl q.1)) q.2 :=
  jM_of (by decide) (Nat.le_of_ble_eq_true rfl) (k_X1_against d ah q h (fun pc ls hd => J_reti hd rfl (jPV_int _) rfl (Nat.le_refl _) rfl rfl))
def f_X2_init (x0 : Nat) (x1 : Int32) (ah : AH) : Option (Unit × AH) :=
  if ¬ (if 0 < x1 then x1 else 0) < 0 ∧ Int32.toNatClampNeg (if 0 < x1 then x1 else 0) ≤ 60 then ((sF (ah ++ [.inl (List.replicate (Int32.toNatClampNeg (if 0 < x1 then x1 else 0)) 0)]) (some x0) 2 0 (.inr (.inr (.inl (some ah.length))))).bind fun a2 => (sF a2 (some x0) 2 1 (.inl (-1))).bind fun a4 => some ((), a4)) else none
set_option maxRecDepth 100000 in
set_option maxHeartbeats 4000000 in
theorem k_X2_init {l : Launch} {g : GX} (d : Nat) {Q : jQ} {x0 : Nat} {x1 : Int32} (ah : AH) (out : Unit × AH) (h : f_X2_init x0 x1 ah = some out) (hR : jRetV l g md_X2_init (jRm (d + 1) md_X2_init) Q (1, 60) out.1 out.2) : J l g md_X2_init (jRm (d + 1) md_X2_init) Q 0 [(0, .inr (.inr (.inl (some x0)))), (1, .inl x1)] [] ah (0, 0) := by
  unfold f_X2_init at h
  refine J_seg ok_X2_init 0 1 (pc' := 1) (ls' := [(0, .inr (.inr (.inl (some x0)))), (1, .inl x1)]) (st' := [.inr (.inr (.inl (some x0)))]) rfl ?_
  refine J_obj (jat ok_X2_init 1 (pc := 1) (i := .invokespecial 3) (n := 3) rfl rfl) mo_RX2_3 oi_i oi_c ⟨by show 1 ≤ d + 1; omega, by show 20 ≤ 64 * (d + 1); omega⟩ (Nat.le_of_ble_eq_true rfl) ?_
  refine J_seg ok_X2_init 2 3 (pc' := 7) (ls' := [(0, .inr (.inr (.inl (some x0)))), (1, .inl x1)]) (st' := [.inl x1, .inl 0, .inr (.inr (.inl (some x0)))]) rfl ?_
  refine J_max (jat ok_X2_init 5 (pc := 7) (i := .invokestatic 9) (n := 3) rfl rfl) mm_RX2_9 mw_max ⟨by show 1 ≤ d + 1; omega, by show 21 ≤ 64 * (d + 1); omega⟩ (Nat.le_of_ble_eq_true rfl) ⟨Nat.le_of_ble_eq_true rfl, Nat.le_of_ble_eq_true rfl⟩ ?_
  by_cases c1 : ¬ (if 0 < x1 then x1 else 0) < 0 ∧ Int32.toNatClampNeg (if 0 < x1 then x1 else 0) ≤ 60
  case neg => exact absurd ((if_neg c1).symm.trans h) (by simp)
  have h := (if_pos c1).symm.trans h
  refine J_newA (cs' := (1, 0 + (Int32.toNatClampNeg (if 0 < x1 then x1 else 0)))) (jat ok_X2_init 6 (pc := 10) (i := .newarray .int) (n := 2) rfl rfl) c1.1 (Nat.le_trans c1.2 (by decide)) ac_int rfl ⟨Nat.le_of_ble_eq_true rfl, by show 0 + (Int32.toNatClampNeg (if 0 < x1 then x1 else 0)) ≤ 60; have := c1.2; omega⟩ ?_
  refine J_wid (n := 60) (by show 0 + (Int32.toNatClampNeg (if 0 < x1 then x1 else 0)) ≤ 60; have := c1.2; omega) ?_
  obtain ⟨a2, h3, h⟩ := Option.bind_eq_some_iff.mp h
  refine J_put (jat ok_X2_init 7 (pc := 12) (i := .putfield 15) (n := 3) rfl rfl) fp_RX2_15_i (jPV_arr _ _) h3 ?_
  refine J_seg ok_X2_init 8 2 (pc' := 17) (ls' := [(0, .inr (.inr (.inl (some x0)))), (1, .inl x1)]) (st' := [.inl (-1), .inr (.inr (.inl (some x0)))]) rfl ?_
  obtain ⟨a4, h5, h⟩ := Option.bind_eq_some_iff.mp h
  refine J_put (jat ok_X2_init 10 (pc := 17) (i := .putfield 21) (n := 3) rfl rfl) (fp_RX2_21 _) (jPV_int _) h5 ?_
  have h := Option.some.inj h
  subst h
  exact hR _ _ (jat ok_X2_init 11 (pc := 20) (i := .return_) (n := 1) rfl rfl)
theorem c_X2_init (l : Launch) (g : GX) (d : Nat) {x0 : Nat} {x1 : Int32} {ah : AH} {q : Unit × AH} (h : f_X2_init x0 x1 ah = some q) : jM l g (d + 1) md_X2_init [.inr (.inr (.inl (some x0))), .inl x1] ah none q.2 :=
  jM_of (by decide) (Nat.le_of_ble_eq_true rfl) (k_X2_init d ah q h (fun pc ls hd => J_retv hd rfl rfl (Nat.le_refl _) rfl rfl))
def f_X2_isMissing (x0 : Option Nat) (ah : AH) : Option (Int32 × AH) :=
  (gI ah x0 2 1).bind fun v1 => if 0 ≤ v1 then (some (0, ah)) else (some (1, ah))
set_option maxRecDepth 100000 in
set_option maxHeartbeats 4000000 in
theorem k_X2_isMissing {l : Launch} {g : GX} (d : Nat) {Q : jQ} {x0 : Option Nat} (ah : AH) (out : Int32 × AH) (h : f_X2_isMissing x0 ah = some out) (hR : jRetZ l g md_X2_isMissing (jRm (d + 0) md_X2_isMissing) Q (0, 0) out.1 out.2) : J l g md_X2_isMissing (jRm (d + 0) md_X2_isMissing) Q 0 [(0, .inr (.inr (.inl x0)))] [] ah (0, 0) := by
  unfold f_X2_isMissing at h
  refine J_seg ok_X2_isMissing 0 1 (pc' := 1) (ls' := [(0, .inr (.inr (.inl x0)))]) (st' := [.inr (.inr (.inl x0))]) rfl ?_
  obtain ⟨v1, h2, h⟩ := Option.bind_eq_some_iff.mp h
  refine J_getI (jat ok_X2_isMissing 1 (pc := 1) (i := .getfield 21) (n := 3) rfl rfl) fl_RX2_21 h2 ?_
  refine J_ge0 (jat ok_X2_isMissing 2 (pc := 4) (i := .ifCond .ge 7) (n := 3) rfl rfl) (tgt := 11) (by decide) (fun c => ?_) (fun c => ?_)
  · have h := (if_pos c).symm.trans h
    refine J_seg ok_X2_isMissing 5 1 (pc' := 12) (ls' := [(0, .inr (.inr (.inl x0)))]) (st' := [.inl 0]) rfl ?_
    have h := Option.some.inj h
    subst h
    exact hR _ _ (jat ok_X2_isMissing 6 (pc := 12) (i := .ireturn) (n := 1) rfl rfl) (Or.inl rfl)
  · have h := (if_neg c).symm.trans h
    refine J_seg ok_X2_isMissing 3 2 (pc' := 12) (ls' := [(0, .inr (.inr (.inl x0)))]) (st' := [.inl 1]) rfl ?_
    have h := Option.some.inj h
    subst h
    exact hR _ _ (jat ok_X2_isMissing 6 (pc := 12) (i := .ireturn) (n := 1) rfl rfl) (Or.inr rfl)
theorem c_X2_isMissing (l : Launch) (g : GX) (d : Nat) {x0 : Option Nat} {ah : AH} {q : Int32 × AH} (h : f_X2_isMissing x0 ah = some q) : jM l g (d + 0) md_X2_isMissing [.inr (.inr (.inl x0))] ah (some (.inl q.1)) q.2 :=
  jM_of (by decide) (Nat.le_of_ble_eq_true rfl) (k_X2_isMissing d ah q h (fun pc ls hd c => J_reti hd rfl (jPV_z c) rfl (Nat.le_refl _) rfl rfl))
def f_X2_holds (x0 : Option Nat) (x1 : Int32) (ah : AH) : Option (Int32 × AH) :=
  if x1 < 0 then (some (0, ah)) else ((gI ah x0 2 1).bind fun v1 => if v1 ≤ x1 then (some (0, ah)) else ((gR ah x0 2 0).bind fun v3 => (lA ah v3).bind fun v5 => if v5 ≤ x1 then (some (0, ah)) else (some (1, ah))))
set_option maxRecDepth 100000 in
set_option maxHeartbeats 4000000 in
theorem k_X2_holds {l : Launch} {g : GX} (d : Nat) {Q : jQ} {x0 : Option Nat} {x1 : Int32} (ah : AH) (out : Int32 × AH) (h : f_X2_holds x0 x1 ah = some out) (hR : jRetZ l g md_X2_holds (jRm (d + 0) md_X2_holds) Q (0, 0) out.1 out.2) : J l g md_X2_holds (jRm (d + 0) md_X2_holds) Q 0 [(0, .inr (.inr (.inl x0))), (1, .inl x1)] [] ah (0, 0) := by
  unfold f_X2_holds at h
  refine J_seg ok_X2_holds 0 1 (pc' := 1) (ls' := [(0, .inr (.inr (.inl x0))), (1, .inl x1)]) (st' := [.inl x1]) rfl ?_
  refine J_lt0 (jat ok_X2_holds 1 (pc := 1) (i := .ifCond .lt 24) (n := 3) rfl rfl) (tgt := 25) (by decide) (fun c => ?_) (fun c => ?_)
  · have h := (if_pos c).symm.trans h
    refine J_seg ok_X2_holds 13 1 (pc' := 26) (ls' := [(0, .inr (.inr (.inl x0))), (1, .inl x1)]) (st' := [.inl 0]) rfl ?_
    have h := Option.some.inj h
    subst h
    exact hR _ _ (jat ok_X2_holds 14 (pc := 26) (i := .ireturn) (n := 1) rfl rfl) (Or.inl rfl)
  · have h := (if_neg c).symm.trans h
    refine J_seg ok_X2_holds 2 2 (pc' := 6) (ls' := [(0, .inr (.inr (.inl x0))), (1, .inl x1)]) (st' := [.inr (.inr (.inl x0)), .inl x1]) rfl ?_
    obtain ⟨v1, h2, h⟩ := Option.bind_eq_some_iff.mp h
    refine J_getI (jat ok_X2_holds 4 (pc := 6) (i := .getfield 21) (n := 3) rfl rfl) fl_RX2_21 h2 ?_
    refine J_ge (jat ok_X2_holds 5 (pc := 9) (i := .if_icmp .ge 16) (n := 3) rfl rfl) (tgt := 25) (by decide) (fun c => ?_) (fun c => ?_)
    · have h := (if_pos c).symm.trans h
      refine J_seg ok_X2_holds 13 1 (pc' := 26) (ls' := [(0, .inr (.inr (.inl x0))), (1, .inl x1)]) (st' := [.inl 0]) rfl ?_
      have h := Option.some.inj h
      subst h
      exact hR _ _ (jat ok_X2_holds 14 (pc := 26) (i := .ireturn) (n := 1) rfl rfl) (Or.inl rfl)
    · have h := (if_neg c).symm.trans h
      refine J_seg ok_X2_holds 6 2 (pc' := 14) (ls' := [(0, .inr (.inr (.inl x0))), (1, .inl x1)]) (st' := [.inr (.inr (.inl x0)), .inl x1]) rfl ?_
      obtain ⟨v3, h4, h⟩ := Option.bind_eq_some_iff.mp h
      refine J_getR (jat ok_X2_holds 8 (pc := 14) (i := .getfield 15) (n := 3) rfl rfl) fl_RX2_15 h4 ?_
      obtain ⟨v5, h6, h⟩ := Option.bind_eq_some_iff.mp h
      refine J_alen (jat ok_X2_holds 9 (pc := 17) (i := .arraylength) (n := 1) rfl rfl) h6 ?_
      refine J_ge (jat ok_X2_holds 10 (pc := 18) (i := .if_icmp .ge 7) (n := 3) rfl rfl) (tgt := 25) (by decide) (fun c => ?_) (fun c => ?_)
      · have h := (if_pos c).symm.trans h
        refine J_seg ok_X2_holds 13 1 (pc' := 26) (ls' := [(0, .inr (.inr (.inl x0))), (1, .inl x1)]) (st' := [.inl 0]) rfl ?_
        have h := Option.some.inj h
        subst h
        exact hR _ _ (jat ok_X2_holds 14 (pc := 26) (i := .ireturn) (n := 1) rfl rfl) (Or.inl rfl)
      · have h := (if_neg c).symm.trans h
        refine J_seg ok_X2_holds 11 2 (pc' := 26) (ls' := [(0, .inr (.inr (.inl x0))), (1, .inl x1)]) (st' := [.inl 1]) rfl ?_
        have h := Option.some.inj h
        subst h
        exact hR _ _ (jat ok_X2_holds 14 (pc := 26) (i := .ireturn) (n := 1) rfl rfl) (Or.inr rfl)
theorem c_X2_holds (l : Launch) (g : GX) (d : Nat) {x0 : Option Nat} {x1 : Int32} {ah : AH} {q : Int32 × AH} (h : f_X2_holds x0 x1 ah = some q) : jM l g (d + 0) md_X2_holds [.inr (.inr (.inl x0)), .inl x1] ah (some (.inl q.1)) q.2 :=
  jM_of (by decide) (Nat.le_of_ble_eq_true rfl) (k_X2_holds d ah q h (fun pc ls hd c => J_reti hd rfl (jPV_z c) rfl (Nat.le_refl _) rfl rfl))
def f_X2_holdsSpan (x0 : Option Nat) (x1 : Int32) (x2 : Int32) (ah : AH) : Option (Int32 × AH) :=
  if x1 < 0 then (some (0, ah)) else (if x2 < 0 then (some (0, ah)) else ((gI ah x0 2 1).bind fun v1 => (gR ah x0 2 0).bind fun v3 => (lA ah v3).bind fun v5 => if 0 < (lg_cmp ((Int32.toInt64 x1) + (Int32.toInt64 x2)) (Int32.toInt64 (if v5 < v1 then v5 else v1))) then (some (0, ah)) else (some (1, ah))))
set_option maxRecDepth 100000 in
set_option maxHeartbeats 4000000 in
theorem k_X2_holdsSpan {l : Launch} {g : GX} (d : Nat) {Q : jQ} {x0 : Option Nat} {x1 : Int32} {x2 : Int32} (ah : AH) (out : Int32 × AH) (h : f_X2_holdsSpan x0 x1 x2 ah = some out) (hR : jRetZ l g md_X2_holdsSpan (jRm (d + 1) md_X2_holdsSpan) Q (0, 0) out.1 out.2) : J l g md_X2_holdsSpan (jRm (d + 1) md_X2_holdsSpan) Q 0 [(0, .inr (.inr (.inl x0))), (1, .inl x1), (2, .inl x2)] [] ah (0, 0) := by
  unfold f_X2_holdsSpan at h
  refine J_seg ok_X2_holdsSpan 0 1 (pc' := 1) (ls' := [(0, .inr (.inr (.inl x0))), (1, .inl x1), (2, .inl x2)]) (st' := [.inl x1]) rfl ?_
  refine J_lt0 (jat ok_X2_holdsSpan 1 (pc := 1) (i := .ifCond .lt 33) (n := 3) rfl rfl) (tgt := 34) (by decide) (fun c => ?_) (fun c => ?_)
  · have h := (if_pos c).symm.trans h
    refine J_seg ok_X2_holdsSpan 20 1 (pc' := 35) (ls' := [(0, .inr (.inr (.inl x0))), (1, .inl x1), (2, .inl x2)]) (st' := [.inl 0]) rfl ?_
    have h := Option.some.inj h
    subst h
    exact hR _ _ (jat ok_X2_holdsSpan 21 (pc := 35) (i := .ireturn) (n := 1) rfl rfl) (Or.inl rfl)
  · have h := (if_neg c).symm.trans h
    refine J_seg ok_X2_holdsSpan 2 1 (pc' := 5) (ls' := [(0, .inr (.inr (.inl x0))), (1, .inl x1), (2, .inl x2)]) (st' := [.inl x2]) rfl ?_
    refine J_lt0 (jat ok_X2_holdsSpan 3 (pc := 5) (i := .ifCond .lt 29) (n := 3) rfl rfl) (tgt := 34) (by decide) (fun c => ?_) (fun c => ?_)
    · have h := (if_pos c).symm.trans h
      refine J_seg ok_X2_holdsSpan 20 1 (pc' := 35) (ls' := [(0, .inr (.inr (.inl x0))), (1, .inl x1), (2, .inl x2)]) (st' := [.inl 0]) rfl ?_
      have h := Option.some.inj h
      subst h
      exact hR _ _ (jat ok_X2_holdsSpan 21 (pc := 35) (i := .ireturn) (n := 1) rfl rfl) (Or.inl rfl)
    · have h := (if_neg c).symm.trans h
      refine J_seg ok_X2_holdsSpan 4 6 (pc' := 14) (ls' := [(0, .inr (.inr (.inl x0))), (1, .inl x1), (2, .inl x2)]) (st' := [.inr (.inr (.inl x0)), .inr (.inl ((Int32.toInt64 x1) + (Int32.toInt64 x2)))]) rfl ?_
      obtain ⟨v1, h2, h⟩ := Option.bind_eq_some_iff.mp h
      refine J_getI (jat ok_X2_holdsSpan 10 (pc := 14) (i := .getfield 21) (n := 3) rfl rfl) fl_RX2_21 h2 ?_
      refine J_seg ok_X2_holdsSpan 11 1 (pc' := 18) (ls' := [(0, .inr (.inr (.inl x0))), (1, .inl x1), (2, .inl x2)]) (st' := [.inr (.inr (.inl x0)), .inl v1, .inr (.inl ((Int32.toInt64 x1) + (Int32.toInt64 x2)))]) rfl ?_
      obtain ⟨v3, h4, h⟩ := Option.bind_eq_some_iff.mp h
      refine J_getR (jat ok_X2_holdsSpan 12 (pc := 18) (i := .getfield 15) (n := 3) rfl rfl) fl_RX2_15 h4 ?_
      obtain ⟨v5, h6, h⟩ := Option.bind_eq_some_iff.mp h
      refine J_alen (jat ok_X2_holdsSpan 13 (pc := 21) (i := .arraylength) (n := 1) rfl rfl) h6 ?_
      refine J_min (jat ok_X2_holdsSpan 14 (pc := 22) (i := .invokestatic 25) (n := 3) rfl rfl) mm_RX2_25 mw_min ⟨by show 1 ≤ d + 1; omega, by show 21 ≤ 64 * (d + 1); omega⟩ (Nat.le_of_ble_eq_true rfl) ⟨Nat.le_of_ble_eq_true rfl, Nat.le_of_ble_eq_true rfl⟩ ?_
      refine J_seg ok_X2_holdsSpan 15 2 (pc' := 27) (ls' := [(0, .inr (.inr (.inl x0))), (1, .inl x1), (2, .inl x2)]) (st' := [.inl (lg_cmp ((Int32.toInt64 x1) + (Int32.toInt64 x2)) (Int32.toInt64 (if v5 < v1 then v5 else v1)))]) rfl ?_
      refine J_gt0 (jat ok_X2_holdsSpan 17 (pc := 27) (i := .ifCond .gt 7) (n := 3) rfl rfl) (tgt := 34) (by decide) (fun c => ?_) (fun c => ?_)
      · have h := (if_pos c).symm.trans h
        refine J_seg ok_X2_holdsSpan 20 1 (pc' := 35) (ls' := [(0, .inr (.inr (.inl x0))), (1, .inl x1), (2, .inl x2)]) (st' := [.inl 0]) rfl ?_
        have h := Option.some.inj h
        subst h
        exact hR _ _ (jat ok_X2_holdsSpan 21 (pc := 35) (i := .ireturn) (n := 1) rfl rfl) (Or.inl rfl)
      · have h := (if_neg c).symm.trans h
        refine J_seg ok_X2_holdsSpan 18 2 (pc' := 35) (ls' := [(0, .inr (.inr (.inl x0))), (1, .inl x1), (2, .inl x2)]) (st' := [.inl 1]) rfl ?_
        have h := Option.some.inj h
        subst h
        exact hR _ _ (jat ok_X2_holdsSpan 21 (pc := 35) (i := .ireturn) (n := 1) rfl rfl) (Or.inr rfl)
theorem c_X2_holdsSpan (l : Launch) (g : GX) (d : Nat) {x0 : Option Nat} {x1 : Int32} {x2 : Int32} {ah : AH} {q : Int32 × AH} (h : f_X2_holdsSpan x0 x1 x2 ah = some q) : jM l g (d + 1) md_X2_holdsSpan [.inr (.inr (.inl x0)), .inl x1, .inl x2] ah (some (.inl q.1)) q.2 :=
  jM_of (by decide) (Nat.le_of_ble_eq_true rfl) (k_X2_holdsSpan d ah q h (fun pc ls hd c => J_reti hd rfl (jPV_z c) rfl (Nat.le_refl _) rfl rfl))
def f_X2_get (x0 : Option Nat) (x1 : Int32) (ah : AH) : Option (Int32 × AH) :=
  if qO ah x0 2 = true then ((f_X2_holds x0 x1 ah).bind fun q1 => if q1.1 = 0 then (some (0, q1.2)) else ((gR q1.2 x0 2 0).bind fun v4 => (gA q1.2 v4 x1).bind fun v6 => some (v6, q1.2))) else none
set_option maxRecDepth 100000 in
set_option maxHeartbeats 4000000 in
theorem k_X2_get {l : Launch} {g : GX} (d : Nat) {Q : jQ} {x0 : Option Nat} {x1 : Int32} (ah : AH) (out : Int32 × AH) (h : f_X2_get x0 x1 ah = some out) (hR : jRetI l g md_X2_get (jRm (d + 1) md_X2_get) Q (0, 0) out.1 out.2) : J l g md_X2_get (jRm (d + 1) md_X2_get) Q 0 [(0, .inr (.inr (.inl x0))), (1, .inl x1)] [] ah (0, 0) := by
  unfold f_X2_get at h
  refine J_seg ok_X2_get 0 2 (pc' := 2) (ls' := [(0, .inr (.inr (.inl x0))), (1, .inl x1)]) (st' := [.inl x1, .inr (.inr (.inl x0))]) rfl ?_
  by_cases c3 : qO ah x0 2 = true
  case neg => exact absurd ((if_neg c3).symm.trans h) (by simp)
  have h := (if_pos c3).symm.trans h
  obtain ⟨q1, h2, h⟩ := Option.bind_eq_some_iff.mp h
  refine J_callV (md' := md_X2_holds) (As := [.inl x1]) (st := []) (cs' := (0, 0)) (st' := [.inl q1.1]) (jat ok_X2_get 2 (pc := 2) (i := .invokevirtual 28) (n := 3) rfl rfl) ml_RX2_28 yv_X2_holds c3 (c_X2_holds l g (d + 0) h2) (jRo_of (by decide)) (Nat.le_of_ble_eq_true rfl) ⟨Nat.le_of_ble_eq_true rfl, Nat.le_of_ble_eq_true rfl⟩ rfl rfl rfl ?_
  refine J_eq0 (jat ok_X2_get 3 (pc := 5) (i := .ifCond .eq 12) (n := 3) rfl rfl) (tgt := 17) (by decide) (fun c => ?_) (fun c => ?_)
  · have h := (if_pos c).symm.trans h
    refine J_seg ok_X2_get 9 1 (pc' := 18) (ls' := [(0, .inr (.inr (.inl x0))), (1, .inl x1)]) (st' := [.inl 0]) rfl ?_
    have h := Option.some.inj h
    subst h
    exact hR _ _ (jat ok_X2_get 10 (pc := 18) (i := .ireturn) (n := 1) rfl rfl)
  · have h := (if_neg c).symm.trans h
    refine J_seg ok_X2_get 4 1 (pc' := 9) (ls' := [(0, .inr (.inr (.inl x0))), (1, .inl x1)]) (st' := [.inr (.inr (.inl x0))]) rfl ?_
    obtain ⟨v4, h5, h⟩ := Option.bind_eq_some_iff.mp h
    refine J_getR (jat ok_X2_get 5 (pc := 9) (i := .getfield 15) (n := 3) rfl rfl) fl_RX2_15 h5 ?_
    refine J_seg ok_X2_get 6 1 (pc' := 13) (ls' := [(0, .inr (.inr (.inl x0))), (1, .inl x1)]) (st' := [.inl x1, .inr (.inr (.inl v4))]) rfl ?_
    obtain ⟨v6, h7, h⟩ := Option.bind_eq_some_iff.mp h
    refine J_iald (jat ok_X2_get 7 (pc := 13) (i := .iaload) (n := 1) rfl rfl) h7 ?_
    refine J_seg ok_X2_get 8 1 (pc' := 18) (ls' := [(0, .inr (.inr (.inl x0))), (1, .inl x1)]) (st' := [.inl v6]) rfl ?_
    have h := Option.some.inj h
    subst h
    exact hR _ _ (jat ok_X2_get 10 (pc := 18) (i := .ireturn) (n := 1) rfl rfl)
theorem c_X2_get (l : Launch) (g : GX) (d : Nat) {x0 : Option Nat} {x1 : Int32} {ah : AH} {q : Int32 × AH} (h : f_X2_get x0 x1 ah = some q) : jM l g (d + 1) md_X2_get [.inr (.inr (.inl x0)), .inl x1] ah (some (.inl q.1)) q.2 :=
  jM_of (by decide) (Nat.le_of_ble_eq_true rfl) (k_X2_get d ah q h (fun pc ls hd => J_reti hd rfl (jPV_int _) rfl (Nat.le_refl _) rfl rfl))
def f_X2_set (x0 : Option Nat) (x1 : Int32) (x2 : Int32) (ah : AH) : Option (Unit × AH) :=
  if qO ah x0 2 = true then ((f_X2_holds x0 x1 ah).bind fun q1 => if q1.1 = 0 then (some ((), q1.2)) else ((gR q1.2 x0 2 0).bind fun v4 => (sA q1.2 v4 x1 x2).bind fun a6 => some ((), a6))) else none
set_option maxRecDepth 100000 in
set_option maxHeartbeats 4000000 in
theorem k_X2_set {l : Launch} {g : GX} (d : Nat) {Q : jQ} {x0 : Option Nat} {x1 : Int32} {x2 : Int32} (ah : AH) (out : Unit × AH) (h : f_X2_set x0 x1 x2 ah = some out) (hR : jRetV l g md_X2_set (jRm (d + 1) md_X2_set) Q (0, 0) out.1 out.2) : J l g md_X2_set (jRm (d + 1) md_X2_set) Q 0 [(0, .inr (.inr (.inl x0))), (1, .inl x1), (2, .inl x2)] [] ah (0, 0) := by
  unfold f_X2_set at h
  refine J_seg ok_X2_set 0 2 (pc' := 2) (ls' := [(0, .inr (.inr (.inl x0))), (1, .inl x1), (2, .inl x2)]) (st' := [.inl x1, .inr (.inr (.inl x0))]) rfl ?_
  by_cases c3 : qO ah x0 2 = true
  case neg => exact absurd ((if_neg c3).symm.trans h) (by simp)
  have h := (if_pos c3).symm.trans h
  obtain ⟨q1, h2, h⟩ := Option.bind_eq_some_iff.mp h
  refine J_callV (md' := md_X2_holds) (As := [.inl x1]) (st := []) (cs' := (0, 0)) (st' := [.inl q1.1]) (jat ok_X2_set 2 (pc := 2) (i := .invokevirtual 28) (n := 3) rfl rfl) ml_RX2_28 yv_X2_holds c3 (c_X2_holds l g (d + 0) h2) (jRo_of (by decide)) (Nat.le_of_ble_eq_true rfl) ⟨Nat.le_of_ble_eq_true rfl, Nat.le_of_ble_eq_true rfl⟩ rfl rfl rfl ?_
  refine J_eq0 (jat ok_X2_set 3 (pc := 5) (i := .ifCond .eq 10) (n := 3) rfl rfl) (tgt := 15) (by decide) (fun c => ?_) (fun c => ?_)
  · have h := (if_pos c).symm.trans h
    have h := Option.some.inj h
    subst h
    exact hR _ _ (jat ok_X2_set 9 (pc := 15) (i := .return_) (n := 1) rfl rfl)
  · have h := (if_neg c).symm.trans h
    refine J_seg ok_X2_set 4 1 (pc' := 9) (ls' := [(0, .inr (.inr (.inl x0))), (1, .inl x1), (2, .inl x2)]) (st' := [.inr (.inr (.inl x0))]) rfl ?_
    obtain ⟨v4, h5, h⟩ := Option.bind_eq_some_iff.mp h
    refine J_getR (jat ok_X2_set 5 (pc := 9) (i := .getfield 15) (n := 3) rfl rfl) fl_RX2_15 h5 ?_
    refine J_seg ok_X2_set 6 2 (pc' := 14) (ls' := [(0, .inr (.inr (.inl x0))), (1, .inl x1), (2, .inl x2)]) (st' := [.inl x2, .inl x1, .inr (.inr (.inl v4))]) rfl ?_
    obtain ⟨a6, h7, h⟩ := Option.bind_eq_some_iff.mp h
    refine J_iast (jat ok_X2_set 8 (pc := 14) (i := .iastore) (n := 1) rfl rfl) h7 ?_
    have h := Option.some.inj h
    subst h
    exact hR _ _ (jat ok_X2_set 9 (pc := 15) (i := .return_) (n := 1) rfl rfl)
theorem c_X2_set (l : Launch) (g : GX) (d : Nat) {x0 : Option Nat} {x1 : Int32} {x2 : Int32} {ah : AH} {q : Unit × AH} (h : f_X2_set x0 x1 x2 ah = some q) : jM l g (d + 1) md_X2_set [.inr (.inr (.inl x0)), .inl x1, .inl x2] ah none q.2 :=
  jM_of (by decide) (Nat.le_of_ble_eq_true rfl) (k_X2_set d ah q h (fun pc ls hd => J_retv hd rfl rfl (Nat.le_refl _) rfl rfl))
def f_X2_renew_b19 (k0 : Option Nat) (k2 : Int32) (s19 : Int32) (ah : AH) : Option ((Unit × AH) ⊕ (((Unit) × AH) ⊕ ((Int32) × AH))) :=
  (gI ah k0 2 1).bind fun v7 => if v7 ≤ s19 then (some (.inr (.inl ((), ah)))) else (if qO ah k0 2 = true then ((f_X2_set k0 s19 k2 ah).bind fun q9 => some (.inr (.inr (s19 + 1, q9.2)))) else none)
set_option maxRecDepth 100000 in
set_option maxHeartbeats 4000000 in
theorem k_X2_renew_b19 {l : Launch} {g : GX} (d : Nat) {Q : jQ} {k0 : Option Nat} {k2 : Int32} (s19 : Int32) (ah : AH) (out : (Unit × AH) ⊕ (((Unit) × AH) ⊕ ((Int32) × AH))) (h : f_X2_renew_b19 k0 k2 s19 ah = some out) (hR : ∀ q, out = .inl q → jRetN q.1 q.2) (hX : ∀ q, out = .inr (.inl q) → J l g md_X2_renew (jRm (d + 2) md_X2_renew) Q 39 [] [] q.2 (0, 0)) (hN : ∀ q, out = .inr (.inr q) → J l g md_X2_renew (jRm (d + 2) md_X2_renew) Q 19 [(0, .inr (.inr (.inl k0))), (2, .inl k2), (3, .inl q.1)] [] q.2 (0, 0)) : J l g md_X2_renew (jRm (d + 2) md_X2_renew) Q 19 [(0, .inr (.inr (.inl k0))), (2, .inl k2), (3, .inl s19)] [] ah (0, 0) := by
  unfold f_X2_renew_b19 at h
  refine J_seg ok_X2_renew 11 2 (pc' := 21) (ls' := [(0, .inr (.inr (.inl k0))), (2, .inl k2), (3, .inl s19)]) (st' := [.inr (.inr (.inl k0)), .inl s19]) rfl ?_
  obtain ⟨v7, h8, h⟩ := Option.bind_eq_some_iff.mp h
  refine J_getI (jat ok_X2_renew 13 (pc := 21) (i := .getfield 21) (n := 3) rfl rfl) fl_RX2_21 h8 ?_
  refine J_ge (jat ok_X2_renew 14 (pc := 24) (i := .if_icmp .ge 15) (n := 3) rfl rfl) (tgt := 39) (by decide) (fun c => ?_) (fun c => ?_)
  · have h := (if_pos c).symm.trans h
    exact J_sub (ls' := []) [] rfl (hX ((), ah) (Option.some.inj h).symm)
  · have h := (if_neg c).symm.trans h
    refine J_seg ok_X2_renew 15 3 (pc' := 30) (ls' := [(0, .inr (.inr (.inl k0))), (2, .inl k2), (3, .inl s19)]) (st' := [.inl k2, .inl s19, .inr (.inr (.inl k0))]) rfl ?_
    by_cases c11 : qO ah k0 2 = true
    case neg => exact absurd ((if_neg c11).symm.trans h) (by simp)
    have h := (if_pos c11).symm.trans h
    obtain ⟨q9, h10, h⟩ := Option.bind_eq_some_iff.mp h
    refine J_callV (md' := md_X2_set) (As := [.inl s19, .inl k2]) (st := []) (cs' := (0, 0)) (st' := []) (jat ok_X2_renew 18 (pc := 30) (i := .invokevirtual 32) (n := 3) rfl rfl) ml_RX2_32 yv_X2_set c11 (c_X2_set l g (d + 0) h10) (jRo_of (by decide)) (Nat.le_of_ble_eq_true rfl) ⟨Nat.le_of_ble_eq_true rfl, Nat.le_of_ble_eq_true rfl⟩ rfl rfl rfl ?_
    refine J_seg ok_X2_renew 19 2 (pc' := 19) (ls' := [(3, .inl (s19 + 1)), (0, .inr (.inr (.inl k0))), (2, .inl k2)]) (st' := []) rfl ?_
    exact J_sub (ls' := [(0, .inr (.inr (.inl k0))), (2, .inl k2), (3, .inl (s19 + 1))]) [1, 2, 0] rfl (hN (s19 + 1, q9.2) (Option.some.inj h).symm)
def f_X2_renew (x0 : Option Nat) (x1 : Int32) (x2 : Int32) (ah : AH) : Option (Unit × AH) :=
  (gR ah x0 2 0).bind fun v1 => (lA ah v1).bind fun v3 => (sF ah x0 2 1 (.inl (if 0 < (if v3 < x1 then v3 else x1) then (if v3 < x1 then v3 else x1) else 0))).bind fun a5 => (jloop (f_X2_renew_b19 x0 x2) jfuel 0 a5).bind fun q12 => match q12 with | .inl r => none | .inr z14 => some ((), z14.2)
set_option maxRecDepth 100000 in
set_option maxHeartbeats 4000000 in
theorem k_X2_renew {l : Launch} {g : GX} (d : Nat) {Q : jQ} {x0 : Option Nat} {x1 : Int32} {x2 : Int32} (ah : AH) (out : Unit × AH) (h : f_X2_renew x0 x1 x2 ah = some out) (hR : jRetV l g md_X2_renew (jRm (d + 2) md_X2_renew) Q (0, 0) out.1 out.2) : J l g md_X2_renew (jRm (d + 2) md_X2_renew) Q 0 [(0, .inr (.inr (.inl x0))), (1, .inl x1), (2, .inl x2)] [] ah (0, 0) := by
  unfold f_X2_renew at h
  refine J_seg ok_X2_renew 0 4 (pc' := 4) (ls' := [(0, .inr (.inr (.inl x0))), (1, .inl x1), (2, .inl x2)]) (st' := [.inr (.inr (.inl x0)), .inl x1, .inl 0, .inr (.inr (.inl x0))]) rfl ?_
  obtain ⟨v1, h2, h⟩ := Option.bind_eq_some_iff.mp h
  refine J_getR (jat ok_X2_renew 4 (pc := 4) (i := .getfield 15) (n := 3) rfl rfl) fl_RX2_15 h2 ?_
  obtain ⟨v3, h4, h⟩ := Option.bind_eq_some_iff.mp h
  refine J_alen (jat ok_X2_renew 5 (pc := 7) (i := .arraylength) (n := 1) rfl rfl) h4 ?_
  refine J_min (jat ok_X2_renew 6 (pc := 8) (i := .invokestatic 25) (n := 3) rfl rfl) mm_RX2_25 mw_min ⟨by show 1 ≤ d + 2; omega, by show 21 ≤ 64 * (d + 2); omega⟩ (Nat.le_of_ble_eq_true rfl) ⟨Nat.le_of_ble_eq_true rfl, Nat.le_of_ble_eq_true rfl⟩ ?_
  refine J_max (jat ok_X2_renew 7 (pc := 11) (i := .invokestatic 9) (n := 3) rfl rfl) mm_RX2_9 mw_max ⟨by show 1 ≤ d + 2; omega, by show 21 ≤ 64 * (d + 2); omega⟩ (Nat.le_of_ble_eq_true rfl) ⟨Nat.le_of_ble_eq_true rfl, Nat.le_of_ble_eq_true rfl⟩ ?_
  obtain ⟨a5, h6, h⟩ := Option.bind_eq_some_iff.mp h
  refine J_put (jat ok_X2_renew 8 (pc := 14) (i := .putfield 21) (n := 3) rfl rfl) (fp_RX2_21 _) (jPV_int _) h6 ?_
  refine J_seg ok_X2_renew 9 2 (pc' := 19) (ls' := [(3, .inl 0), (0, .inr (.inr (.inl x0))), (1, .inl x1), (2, .inl x2)]) (st' := []) rfl ?_
  obtain ⟨q12, h13, h⟩ := Option.bind_eq_some_iff.mp h
  refine J_sub (ls' := [(0, .inr (.inr (.inl x0))), (2, .inl x2), (3, .inl 0)]) [1, 3, 0] rfl ?_
  refine J_loop (pE := 39) (lh := fun t15 => [(0, .inr (.inr (.inl x0))), (2, .inl x2), (3, .inl t15)]) (lx := fun z14 => []) (P := jRetN) (fun s ah out hb hR hX hN => k_X2_renew_b19 d s ah out hb hR hX hN) jfuel 0 _ _ h13 (fun r e => ?_) (fun z14 e => ?_)
  · subst e
    dsimp only at h
    cases h
  · subst e
    dsimp only at h
    have h := Option.some.inj h
    subst h
    exact hR _ _ (jat ok_X2_renew 21 (pc := 39) (i := .return_) (n := 1) rfl rfl)
theorem c_X2_renew (l : Launch) (g : GX) (d : Nat) {x0 : Option Nat} {x1 : Int32} {x2 : Int32} {ah : AH} {q : Unit × AH} (h : f_X2_renew x0 x1 x2 ah = some q) : jM l g (d + 2) md_X2_renew [.inr (.inr (.inl x0)), .inl x1, .inl x2] ah none q.2 :=
  jM_of (by decide) (Nat.le_of_ble_eq_true rfl) (k_X2_renew d ah q h (fun pc ls hd => J_retv hd rfl rfl (Nat.le_refl _) rfl rfl))
def f_X2_discard (x0 : Option Nat) (ah : AH) : Option (Unit × AH) :=
  (sF ah x0 2 1 (.inl (-1))).bind fun a1 => some ((), a1)
set_option maxRecDepth 100000 in
set_option maxHeartbeats 4000000 in
theorem k_X2_discard {l : Launch} {g : GX} (d : Nat) {Q : jQ} {x0 : Option Nat} (ah : AH) (out : Unit × AH) (h : f_X2_discard x0 ah = some out) (hR : jRetV l g md_X2_discard (jRm (d + 0) md_X2_discard) Q (0, 0) out.1 out.2) : J l g md_X2_discard (jRm (d + 0) md_X2_discard) Q 0 [(0, .inr (.inr (.inl x0)))] [] ah (0, 0) := by
  unfold f_X2_discard at h
  refine J_seg ok_X2_discard 0 2 (pc' := 2) (ls' := [(0, .inr (.inr (.inl x0)))]) (st' := [.inl (-1), .inr (.inr (.inl x0))]) rfl ?_
  obtain ⟨a1, h2, h⟩ := Option.bind_eq_some_iff.mp h
  refine J_put (jat ok_X2_discard 2 (pc := 2) (i := .putfield 21) (n := 3) rfl rfl) (fp_RX2_21 _) (jPV_int _) h2 ?_
  have h := Option.some.inj h
  subst h
  exact hR _ _ (jat ok_X2_discard 3 (pc := 5) (i := .return_) (n := 1) rfl rfl)
theorem c_X2_discard (l : Launch) (g : GX) (d : Nat) {x0 : Option Nat} {ah : AH} {q : Unit × AH} (h : f_X2_discard x0 ah = some q) : jM l g (d + 0) md_X2_discard [.inr (.inr (.inl x0))] ah none q.2 :=
  jM_of (by decide) (Nat.le_of_ble_eq_true rfl) (k_X2_discard d ah q h (fun pc ls hd => J_retv hd rfl rfl (Nat.le_refl _) rfl rfl))
def f_X2_take (x0 : Option Nat) (x1 : Option Nat) (x2 : Int32) (x3 : Int32) (x4 : Int32) (ah : AH) : Option (Unit × AH) :=
  if qO ah x1 2 = true then ((f_X2_holdsSpan x1 x2 x4 ah).bind fun q1 => if q1.1 = 0 then (some ((), q1.2)) else (if qO q1.2 x0 2 = true then ((f_X2_holdsSpan x0 x3 x4 q1.2).bind fun q4 => if q4.1 = 0 then (some ((), q4.2)) else ((gR q4.2 x1 2 0).bind fun v7 => (gR q4.2 x0 2 0).bind fun v9 => (cA q4.2 v7 x2 v9 x3 x4).bind fun a11 => some ((), a11))) else none)) else none
set_option maxRecDepth 100000 in
set_option maxHeartbeats 4000000 in
theorem k_X2_take {l : Launch} {g : GX} (d : Nat) {Q : jQ} {x0 : Option Nat} {x1 : Option Nat} {x2 : Int32} {x3 : Int32} {x4 : Int32} (ah : AH) (out : Unit × AH) (h : f_X2_take x0 x1 x2 x3 x4 ah = some out) (hR : jRetV l g md_X2_take (jRm (d + 2) md_X2_take) Q (0, 0) out.1 out.2) : J l g md_X2_take (jRm (d + 2) md_X2_take) Q 0 [(0, .inr (.inr (.inl x0))), (1, .inr (.inr (.inl x1))), (2, .inl x2), (3, .inl x3), (4, .inl x4)] [] ah (0, 0) := by
  unfold f_X2_take at h
  refine J_seg ok_X2_take 0 3 (pc' := 4) (ls' := [(0, .inr (.inr (.inl x0))), (1, .inr (.inr (.inl x1))), (2, .inl x2), (3, .inl x3), (4, .inl x4)]) (st' := [.inl x4, .inl x2, .inr (.inr (.inl x1))]) rfl ?_
  by_cases c3 : qO ah x1 2 = true
  case neg => exact absurd ((if_neg c3).symm.trans h) (by simp)
  have h := (if_pos c3).symm.trans h
  obtain ⟨q1, h2, h⟩ := Option.bind_eq_some_iff.mp h
  refine J_callV (md' := md_X2_holdsSpan) (As := [.inl x2, .inl x4]) (st := []) (cs' := (0, 0)) (st' := [.inl q1.1]) (jat ok_X2_take 3 (pc := 4) (i := .invokevirtual 36) (n := 3) rfl rfl) ml_RX2_36 yv_X2_holdsSpan c3 (c_X2_holdsSpan l g (d + 0) h2) (jRo_of (by decide)) (Nat.le_of_ble_eq_true rfl) ⟨Nat.le_of_ble_eq_true rfl, Nat.le_of_ble_eq_true rfl⟩ rfl rfl rfl ?_
  refine J_eq0 (jat ok_X2_take 4 (pc := 7) (i := .ifCond .eq 28) (n := 3) rfl rfl) (tgt := 35) (by decide) (fun c => ?_) (fun c => ?_)
  · have h := (if_pos c).symm.trans h
    have h := Option.some.inj h
    subst h
    exact hR _ _ (jat ok_X2_take 18 (pc := 35) (i := .return_) (n := 1) rfl rfl)
  · have h := (if_neg c).symm.trans h
    refine J_seg ok_X2_take 5 3 (pc' := 14) (ls' := [(0, .inr (.inr (.inl x0))), (1, .inr (.inr (.inl x1))), (2, .inl x2), (3, .inl x3), (4, .inl x4)]) (st' := [.inl x4, .inl x3, .inr (.inr (.inl x0))]) rfl ?_
    by_cases c6 : qO q1.2 x0 2 = true
    case neg => exact absurd ((if_neg c6).symm.trans h) (by simp)
    have h := (if_pos c6).symm.trans h
    obtain ⟨q4, h5, h⟩ := Option.bind_eq_some_iff.mp h
    refine J_callV (md' := md_X2_holdsSpan) (As := [.inl x3, .inl x4]) (st := []) (cs' := (0, 0)) (st' := [.inl q4.1]) (jat ok_X2_take 8 (pc := 14) (i := .invokevirtual 36) (n := 3) rfl rfl) ml_RX2_36 yv_X2_holdsSpan c6 (c_X2_holdsSpan l g (d + 0) h5) (jRo_of (by decide)) (Nat.le_of_ble_eq_true rfl) ⟨Nat.le_of_ble_eq_true rfl, Nat.le_of_ble_eq_true rfl⟩ rfl rfl rfl ?_
    refine J_eq0 (jat ok_X2_take 9 (pc := 17) (i := .ifCond .eq 18) (n := 3) rfl rfl) (tgt := 35) (by decide) (fun c => ?_) (fun c => ?_)
    · have h := (if_pos c).symm.trans h
      have h := Option.some.inj h
      subst h
      exact hR _ _ (jat ok_X2_take 18 (pc := 35) (i := .return_) (n := 1) rfl rfl)
    · have h := (if_neg c).symm.trans h
      refine J_seg ok_X2_take 10 1 (pc' := 21) (ls' := [(0, .inr (.inr (.inl x0))), (1, .inr (.inr (.inl x1))), (2, .inl x2), (3, .inl x3), (4, .inl x4)]) (st' := [.inr (.inr (.inl x1))]) rfl ?_
      obtain ⟨v7, h8, h⟩ := Option.bind_eq_some_iff.mp h
      refine J_getR (jat ok_X2_take 11 (pc := 21) (i := .getfield 15) (n := 3) rfl rfl) fl_RX2_15 h8 ?_
      refine J_seg ok_X2_take 12 2 (pc' := 26) (ls' := [(0, .inr (.inr (.inl x0))), (1, .inr (.inr (.inl x1))), (2, .inl x2), (3, .inl x3), (4, .inl x4)]) (st' := [.inr (.inr (.inl x0)), .inl x2, .inr (.inr (.inl v7))]) rfl ?_
      obtain ⟨v9, h10, h⟩ := Option.bind_eq_some_iff.mp h
      refine J_getR (jat ok_X2_take 14 (pc := 26) (i := .getfield 15) (n := 3) rfl rfl) fl_RX2_15 h10 ?_
      refine J_seg ok_X2_take 15 2 (pc' := 32) (ls' := [(0, .inr (.inr (.inl x0))), (1, .inr (.inr (.inl x1))), (2, .inl x2), (3, .inl x3), (4, .inl x4)]) (st' := [.inl x4, .inl x3, .inr (.inr (.inl v9)), .inl x2, .inr (.inr (.inl v7))]) rfl ?_
      obtain ⟨a11, h12, h⟩ := Option.bind_eq_some_iff.mp h
      refine J_cpy (jat ok_X2_take 17 (pc := 32) (i := .invokestatic 40) (n := 3) rfl rfl) mc_RX2_40 ay_w ⟨by show 1 ≤ d + 2; omega, by show 8 + (nativeFrameWords "java/lang/System" "arraycopy" 5 + 11) ≤ 64 * (d + 2); have := (by decide : nativeFrameWords "java/lang/System" "arraycopy" 5 ≤ 40); omega⟩ (Nat.le_of_ble_eq_true rfl) h12 ?_
      have h := Option.some.inj h
      subst h
      exact hR _ _ (jat ok_X2_take 18 (pc := 35) (i := .return_) (n := 1) rfl rfl)
theorem c_X2_take (l : Launch) (g : GX) (d : Nat) {x0 : Option Nat} {x1 : Option Nat} {x2 : Int32} {x3 : Int32} {x4 : Int32} {ah : AH} {q : Unit × AH} (h : f_X2_take x0 x1 x2 x3 x4 ah = some q) : jM l g (d + 2) md_X2_take [.inr (.inr (.inl x0)), .inr (.inr (.inl x1)), .inl x2, .inl x3, .inl x4] ah none q.2 :=
  jM_of (by decide) (Nat.le_of_ble_eq_true rfl) (k_X2_take d ah q h (fun pc ls hd => J_retv hd rfl rfl (Nat.le_refl _) rfl rfl))
def f_X2_meanCut_b4 (k0 : Option Nat) (s4 : Int64 × Int32) (ah : AH) : Option ((Unit × AH) ⊕ (((Int64) × AH) ⊕ ((Int64 × Int32) × AH))) :=
  (gI ah k0 2 1).bind fun v1 => if v1 ≤ s4.2 then (some (.inr (.inl (s4.1, ah)))) else (if qO ah k0 2 = true then ((f_X2_get k0 s4.2 ah).bind fun q3 => some (.inr (.inr ((s4.1 + (Int32.toInt64 q3.1), s4.2 + 1), q3.2)))) else none)
set_option maxRecDepth 100000 in
set_option maxHeartbeats 4000000 in
theorem k_X2_meanCut_b4 {l : Launch} {g : GX} (d : Nat) {Q : jQ} {k0 : Option Nat} (s4 : Int64 × Int32) (ah : AH) (out : (Unit × AH) ⊕ (((Int64) × AH) ⊕ ((Int64 × Int32) × AH))) (h : f_X2_meanCut_b4 k0 s4 ah = some out) (hR : ∀ q, out = .inl q → jRetN q.1 q.2) (hX : ∀ q, out = .inr (.inl q) → J l g md_X2_meanCut (jRm (d + 2) md_X2_meanCut) Q 27 [(0, .inr (.inr (.inl k0))), (1, .inr (.inl q.1))] [] q.2 (0, 0)) (hN : ∀ q, out = .inr (.inr q) → J l g md_X2_meanCut (jRm (d + 2) md_X2_meanCut) Q 4 [(0, .inr (.inr (.inl k0))), (1, .inr (.inl q.1.1)), (3, .inl q.1.2)] [] q.2 (0, 0)) : J l g md_X2_meanCut (jRm (d + 2) md_X2_meanCut) Q 4 [(0, .inr (.inr (.inl k0))), (1, .inr (.inl s4.1)), (3, .inl s4.2)] [] ah (0, 0) := by
  unfold f_X2_meanCut_b4 at h
  refine J_seg ok_X2_meanCut 4 2 (pc' := 6) (ls' := [(0, .inr (.inr (.inl k0))), (1, .inr (.inl s4.1)), (3, .inl s4.2)]) (st' := [.inr (.inr (.inl k0)), .inl s4.2]) rfl ?_
  obtain ⟨v1, h2, h⟩ := Option.bind_eq_some_iff.mp h
  refine J_getI (jat ok_X2_meanCut 6 (pc := 6) (i := .getfield 21) (n := 3) rfl rfl) fl_RX2_21 h2 ?_
  refine J_ge (jat ok_X2_meanCut 7 (pc := 9) (i := .if_icmp .ge 18) (n := 3) rfl rfl) (tgt := 27) (by decide) (fun c => ?_) (fun c => ?_)
  · have h := (if_pos c).symm.trans h
    exact J_sub (ls' := [(0, .inr (.inr (.inl k0))), (1, .inr (.inl s4.1))]) [0, 1] rfl (hX (s4.1, ah) (Option.some.inj h).symm)
  · have h := (if_neg c).symm.trans h
    refine J_seg ok_X2_meanCut 8 3 (pc' := 15) (ls' := [(0, .inr (.inr (.inl k0))), (1, .inr (.inl s4.1)), (3, .inl s4.2)]) (st' := [.inl s4.2, .inr (.inr (.inl k0)), .inr (.inl s4.1)]) rfl ?_
    by_cases c5 : qO ah k0 2 = true
    case neg => exact absurd ((if_neg c5).symm.trans h) (by simp)
    have h := (if_pos c5).symm.trans h
    obtain ⟨q3, h4, h⟩ := Option.bind_eq_some_iff.mp h
    refine J_callV (md' := md_X2_get) (As := [.inl s4.2]) (st := [.inr (.inl s4.1)]) (cs' := (0, 0)) (st' := [.inl q3.1, .inr (.inl s4.1)]) (jat ok_X2_meanCut 11 (pc := 15) (i := .invokevirtual 46) (n := 3) rfl rfl) ml_RX2_46 yv_X2_get c5 (c_X2_get l g (d + 0) h4) (jRo_of (by decide)) (Nat.le_of_ble_eq_true rfl) ⟨Nat.le_of_ble_eq_true rfl, Nat.le_of_ble_eq_true rfl⟩ rfl rfl rfl ?_
    refine J_seg ok_X2_meanCut 12 5 (pc' := 4) (ls' := [(3, .inl (s4.2 + 1)), (1, .inr (.inl (s4.1 + (Int32.toInt64 q3.1)))), (0, .inr (.inr (.inl k0)))]) (st' := []) rfl ?_
    exact J_sub (ls' := [(0, .inr (.inr (.inl k0))), (1, .inr (.inl (s4.1 + (Int32.toInt64 q3.1)))), (3, .inl (s4.2 + 1))]) [2, 1, 0] rfl (hN ((s4.1 + (Int32.toInt64 q3.1), s4.2 + 1), q3.2) (Option.some.inj h).symm)
def f_X2_meanCut (x0 : Option Nat) (ah : AH) : Option (Int32 × AH) :=
  (jloop (f_X2_meanCut_b4 x0) jfuel (0, 0) ah).bind fun q6 => match q6 with | .inl r => none | .inr z8 => (gI z8.2 x0 2 1).bind fun v10 => if v10 ≤ 0 then (some (0, z8.2)) else ((gI z8.2 x0 2 1).bind fun v12 => if (Int32.toInt64 v12) = 0 then none else (some (Int64.toInt32 (z8.1 / (Int32.toInt64 v12)), z8.2)))
set_option maxRecDepth 100000 in
set_option maxHeartbeats 4000000 in
theorem k_X2_meanCut {l : Launch} {g : GX} (d : Nat) {Q : jQ} {x0 : Option Nat} (ah : AH) (out : Int32 × AH) (h : f_X2_meanCut x0 ah = some out) (hR : jRetI l g md_X2_meanCut (jRm (d + 2) md_X2_meanCut) Q (0, 0) out.1 out.2) : J l g md_X2_meanCut (jRm (d + 2) md_X2_meanCut) Q 0 [(0, .inr (.inr (.inl x0)))] [] ah (0, 0) := by
  unfold f_X2_meanCut at h
  refine J_seg ok_X2_meanCut 0 4 (pc' := 4) (ls' := [(3, .inl 0), (1, .inr (.inl 0)), (0, .inr (.inr (.inl x0)))]) (st' := []) rfl ?_
  obtain ⟨q6, h7, h⟩ := Option.bind_eq_some_iff.mp h
  refine J_sub (ls' := [(0, .inr (.inr (.inl x0))), (1, .inr (.inl 0)), (3, .inl 0)]) [2, 1, 0] rfl ?_
  refine J_loop (pE := 27) (lh := fun t9 => [(0, .inr (.inr (.inl x0))), (1, .inr (.inl t9.1)), (3, .inl t9.2)]) (lx := fun z8 => [(0, .inr (.inr (.inl x0))), (1, .inr (.inl z8))]) (P := jRetN) (fun s ah out hb hR hX hN => k_X2_meanCut_b4 d s ah out hb hR hX hN) jfuel (0, 0) _ _ h7 (fun r e => ?_) (fun z8 e => ?_)
  · subst e
    dsimp only at h
    cases h
  · subst e
    dsimp only at h
    refine J_seg ok_X2_meanCut 17 1 (pc' := 28) (ls' := [(0, .inr (.inr (.inl x0))), (1, .inr (.inl z8.1))]) (st' := [.inr (.inr (.inl x0))]) rfl ?_
    obtain ⟨v10, h11, h⟩ := Option.bind_eq_some_iff.mp h
    refine J_getI (jat ok_X2_meanCut 18 (pc := 28) (i := .getfield 21) (n := 3) rfl rfl) fl_RX2_21 h11 ?_
    refine J_le0 (jat ok_X2_meanCut 19 (pc := 31) (i := .ifCond .le 14) (n := 3) rfl rfl) (tgt := 45) (by decide) (fun c => ?_) (fun c => ?_)
    · have h := (if_pos c).symm.trans h
      refine J_seg ok_X2_meanCut 27 1 (pc' := 46) (ls' := [(0, .inr (.inr (.inl x0))), (1, .inr (.inl z8.1))]) (st' := [.inl 0]) rfl ?_
      have h := Option.some.inj h
      subst h
      exact hR _ _ (jat ok_X2_meanCut 28 (pc := 46) (i := .ireturn) (n := 1) rfl rfl)
    · have h := (if_neg c).symm.trans h
      refine J_seg ok_X2_meanCut 20 2 (pc' := 36) (ls' := [(0, .inr (.inr (.inl x0))), (1, .inr (.inl z8.1))]) (st' := [.inr (.inr (.inl x0)), .inr (.inl z8.1)]) rfl ?_
      obtain ⟨v12, h13, h⟩ := Option.bind_eq_some_iff.mp h
      refine J_getI (jat ok_X2_meanCut 22 (pc := 36) (i := .getfield 21) (n := 3) rfl rfl) fl_RX2_21 h13 ?_
      refine J_seg ok_X2_meanCut 23 1 (pc' := 40) (ls' := [(0, .inr (.inr (.inl x0))), (1, .inr (.inl z8.1))]) (st' := [.inr (.inl (Int32.toInt64 v12)), .inr (.inl z8.1)]) rfl ?_
      by_cases e14 : (Int32.toInt64 v12) = 0
      · exact absurd ((if_pos e14).symm.trans h) (by simp)
      have h := (if_neg e14).symm.trans h
      refine J_ldiv (jat ok_X2_meanCut 24 (pc := 40) (i := .ldiv) (n := 1) rfl rfl) e14 ?_
      refine J_seg ok_X2_meanCut 25 2 (pc' := 46) (ls' := [(0, .inr (.inr (.inl x0))), (1, .inr (.inl z8.1))]) (st' := [.inl (Int64.toInt32 (z8.1 / (Int32.toInt64 v12)))]) rfl ?_
      have h := Option.some.inj h
      subst h
      exact hR _ _ (jat ok_X2_meanCut 28 (pc := 46) (i := .ireturn) (n := 1) rfl rfl)
theorem c_X2_meanCut (l : Launch) (g : GX) (d : Nat) {x0 : Option Nat} {ah : AH} {q : Int32 × AH} (h : f_X2_meanCut x0 ah = some q) : jM l g (d + 2) md_X2_meanCut [.inr (.inr (.inl x0))] ah (some (.inl q.1)) q.2 :=
  jM_of (by decide) (Nat.le_of_ble_eq_true rfl) (k_X2_meanCut d ah q h (fun pc ls hd => J_reti hd rfl (jPV_int _) rfl (Nat.le_refl _) rfl rfl))
