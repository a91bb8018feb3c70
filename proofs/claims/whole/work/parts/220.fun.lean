def f_X6_countOf (x0 : Option Nat) (x1 : Int32) (ah : AH) : Option (Int32 × AH) :=
  if x1 = 0 then ((gI ah x0 6 1).bind fun v1 => some (v1, ah)) else (if x1 = 1 then (if qO ah x0 6 = true then ((f_X6_victimsNow x0 ah).bind fun q3 => (f_X6_bits q3.1 q3.2).bind fun q6 => some (q6.1, q6.2)) else none) else (if x1 = 2 then ((gI ah x0 6 6).bind fun v8 => some (v8, ah)) else (if x1 = 3 then ((gR ah x0 6 0).bind fun v10 => (gA ah v10 0).bind fun v12 => some (v12, ah)) else (if x1 = 4 then ((gR ah x0 6 0).bind fun v14 => (gA ah v14 19).bind fun v16 => (f_X6_bits v16 ah).bind fun q18 => some (q18.1, q18.2)) else (if x1 = 5 then (if qO ah x0 6 = true then ((f_X6_sumFrom x0 13 ah).bind fun q20 => some (q20.1, q20.2)) else none) else (if x1 = 6 then (if qO ah x0 6 = true then ((f_X6_zealots x0 ah).bind fun q23 => some (q23.1, q23.2)) else none) else (if qO ah x0 6 = true then ((f_X6_thereOf x0 x1 ah).bind fun q26 => some (q26.1, q26.2)) else none)))))))
set_option maxRecDepth 100000 in
set_option maxHeartbeats 4000000 in
theorem k_X6_countOf {l : Launch} {g : GX} (d : Nat) {Q : jQ} {x0 : Option Nat} {x1 : Int32} (ah : AH) (out : Int32 × AH) (h : f_X6_countOf x0 x1 ah = some out) (hR : jRetI l g md_X6_countOf (jRm (d + 2) md_X6_countOf) Q (0, 0) out.1 out.2) : J l g md_X6_countOf (jRm (d + 2) md_X6_countOf) Q 0 [(0, .inr (.inr (.inl x0))), (1, .inl x1)] [] ah (0, 0) := by
  unfold f_X6_countOf at h
  refine J_seg ok_X6_countOf 0 1 (pc' := 1) (ls' := [(0, .inr (.inr (.inl x0))), (1, .inl x1)]) (st' := [.inl x1]) rfl ?_
  by_cases c0 : x1 = 0
  · have h := (if_pos c0).symm.trans h
    refine J_tabIn sw_X6_countOf_1 (off := 43) (tgt := 44) (by rw [c0]; decide) (by rw [c0]; decide) (by rw [c0]; decide) (by decide) ?_
    refine J_seg ok_X6_countOf 1 1 (pc' := 45) (ls' := [(0, .inr (.inr (.inl x0))), (1, .inl x1)]) (st' := [.inr (.inr (.inl x0))]) rfl ?_
    obtain ⟨v1, h2, h⟩ := Option.bind_eq_some_iff.mp h
    refine J_getI (jat ok_X6_countOf 2 (pc := 45) (i := .getfield 148) (n := 3) rfl rfl) fl_RX6_148 h2 ?_
    have h := Option.some.inj h
    subst h
    exact hR _ _ (jat ok_X6_countOf 3 (pc := 48) (i := .ireturn) (n := 1) rfl rfl)
  · have h := (if_neg c0).symm.trans h
    by_cases c1 : x1 = 1
    · have h := (if_pos c1).symm.trans h
      refine J_tabIn sw_X6_countOf_1 (off := 48) (tgt := 49) (by rw [c1]; decide) (by rw [c1]; decide) (by rw [c1]; decide) (by decide) ?_
      refine J_seg ok_X6_countOf 4 1 (pc' := 50) (ls' := [(0, .inr (.inr (.inl x0))), (1, .inl x1)]) (st' := [.inr (.inr (.inl x0))]) rfl ?_
      by_cases c5 : qO ah x0 6 = true
      case neg => exact absurd ((if_neg c5).symm.trans h) (by simp)
      have h := (if_pos c5).symm.trans h
      obtain ⟨q3, h4, h⟩ := Option.bind_eq_some_iff.mp h
      refine J_callV (md' := md_X6_victimsNow) (As := []) (st := []) (cs' := (0, 0)) (st' := [.inl q3.1]) (jat ok_X6_countOf 5 (pc := 50) (i := .invokevirtual 232) (n := 3) rfl rfl) ml_RX6_232 yv_X6_victimsNow c5 (c_X6_victimsNow l g (d + 0) h4) (jRo_of (by decide)) (Nat.le_of_ble_eq_true rfl) ⟨Nat.le_of_ble_eq_true rfl, Nat.le_of_ble_eq_true rfl⟩ rfl rfl rfl ?_
      obtain ⟨q6, h7, h⟩ := Option.bind_eq_some_iff.mp h
      refine J_callS (md' := md_X6_bits) (As := [.inl q3.1]) (st := []) (cs' := (0, 0)) (st' := [.inl q6.1]) (jat ok_X6_countOf 6 (pc := 53) (i := .invokestatic 183) (n := 3) rfl rfl) (Or.inl ml_RX6_183) ys_X6_bits (c_X6_bits l g (d + 1) h7) (jRo_of (by decide)) (Nat.le_of_ble_eq_true rfl) ⟨Nat.le_of_ble_eq_true rfl, Nat.le_of_ble_eq_true rfl⟩ rfl rfl rfl ?_
      have h := Option.some.inj h
      subst h
      exact hR _ _ (jat ok_X6_countOf 7 (pc := 56) (i := .ireturn) (n := 1) rfl rfl)
    · have h := (if_neg c1).symm.trans h
      by_cases c2 : x1 = 2
      · have h := (if_pos c2).symm.trans h
        refine J_tabIn sw_X6_countOf_1 (off := 56) (tgt := 57) (by rw [c2]; decide) (by rw [c2]; decide) (by rw [c2]; decide) (by decide) ?_
        refine J_seg ok_X6_countOf 8 1 (pc' := 58) (ls' := [(0, .inr (.inr (.inl x0))), (1, .inl x1)]) (st' := [.inr (.inr (.inl x0))]) rfl ?_
        obtain ⟨v8, h9, h⟩ := Option.bind_eq_some_iff.mp h
        refine J_getI (jat ok_X6_countOf 9 (pc := 58) (i := .getfield 151) (n := 3) rfl rfl) fl_RX6_151 h9 ?_
        have h := Option.some.inj h
        subst h
        exact hR _ _ (jat ok_X6_countOf 10 (pc := 61) (i := .ireturn) (n := 1) rfl rfl)
      · have h := (if_neg c2).symm.trans h
        by_cases c3 : x1 = 3
        · have h := (if_pos c3).symm.trans h
          refine J_tabIn sw_X6_countOf_1 (off := 61) (tgt := 62) (by rw [c3]; decide) (by rw [c3]; decide) (by rw [c3]; decide) (by decide) ?_
          refine J_seg ok_X6_countOf 11 1 (pc' := 63) (ls' := [(0, .inr (.inr (.inl x0))), (1, .inl x1)]) (st' := [.inr (.inr (.inl x0))]) rfl ?_
          obtain ⟨v10, h11, h⟩ := Option.bind_eq_some_iff.mp h
          refine J_getR (jat ok_X6_countOf 12 (pc := 63) (i := .getfield 7) (n := 3) rfl rfl) fl_RX6_7 h11 ?_
          refine J_seg ok_X6_countOf 13 1 (pc' := 67) (ls' := [(0, .inr (.inr (.inl x0))), (1, .inl x1)]) (st' := [.inl 0, .inr (.inr (.inl v10))]) rfl ?_
          obtain ⟨v12, h13, h⟩ := Option.bind_eq_some_iff.mp h
          refine J_iald (jat ok_X6_countOf 14 (pc := 67) (i := .iaload) (n := 1) rfl rfl) h13 ?_
          have h := Option.some.inj h
          subst h
          exact hR _ _ (jat ok_X6_countOf 15 (pc := 68) (i := .ireturn) (n := 1) rfl rfl)
        · have h := (if_neg c3).symm.trans h
          by_cases c4 : x1 = 4
          · have h := (if_pos c4).symm.trans h
            refine J_tabIn sw_X6_countOf_1 (off := 68) (tgt := 69) (by rw [c4]; decide) (by rw [c4]; decide) (by rw [c4]; decide) (by decide) ?_
            refine J_seg ok_X6_countOf 16 1 (pc' := 70) (ls' := [(0, .inr (.inr (.inl x0))), (1, .inl x1)]) (st' := [.inr (.inr (.inl x0))]) rfl ?_
            obtain ⟨v14, h15, h⟩ := Option.bind_eq_some_iff.mp h
            refine J_getR (jat ok_X6_countOf 17 (pc := 70) (i := .getfield 7) (n := 3) rfl rfl) fl_RX6_7 h15 ?_
            refine J_seg ok_X6_countOf 18 1 (pc' := 75) (ls' := [(0, .inr (.inr (.inl x0))), (1, .inl x1)]) (st' := [.inl 19, .inr (.inr (.inl v14))]) rfl ?_
            obtain ⟨v16, h17, h⟩ := Option.bind_eq_some_iff.mp h
            refine J_iald (jat ok_X6_countOf 19 (pc := 75) (i := .iaload) (n := 1) rfl rfl) h17 ?_
            obtain ⟨q18, h19, h⟩ := Option.bind_eq_some_iff.mp h
            refine J_callS (md' := md_X6_bits) (As := [.inl v16]) (st := []) (cs' := (0, 0)) (st' := [.inl q18.1]) (jat ok_X6_countOf 20 (pc := 76) (i := .invokestatic 183) (n := 3) rfl rfl) (Or.inl ml_RX6_183) ys_X6_bits (c_X6_bits l g (d + 1) h19) (jRo_of (by decide)) (Nat.le_of_ble_eq_true rfl) ⟨Nat.le_of_ble_eq_true rfl, Nat.le_of_ble_eq_true rfl⟩ rfl rfl rfl ?_
            have h := Option.some.inj h
            subst h
            exact hR _ _ (jat ok_X6_countOf 21 (pc := 79) (i := .ireturn) (n := 1) rfl rfl)
          · have h := (if_neg c4).symm.trans h
            by_cases c5 : x1 = 5
            · have h := (if_pos c5).symm.trans h
              refine J_tabIn sw_X6_countOf_1 (off := 79) (tgt := 80) (by rw [c5]; decide) (by rw [c5]; decide) (by rw [c5]; decide) (by decide) ?_
              refine J_seg ok_X6_countOf 22 2 (pc' := 83) (ls' := [(0, .inr (.inr (.inl x0))), (1, .inl x1)]) (st' := [.inl 13, .inr (.inr (.inl x0))]) rfl ?_
              by_cases c22 : qO ah x0 6 = true
              case neg => exact absurd ((if_neg c22).symm.trans h) (by simp)
              have h := (if_pos c22).symm.trans h
              obtain ⟨q20, h21, h⟩ := Option.bind_eq_some_iff.mp h
              refine J_callV (md' := md_X6_sumFrom) (As := [.inl 13]) (st := []) (cs' := (0, 0)) (st' := [.inl q20.1]) (jat ok_X6_countOf 24 (pc := 83) (i := .invokevirtual 286) (n := 3) rfl rfl) ml_RX6_286 yv_X6_sumFrom c22 (c_X6_sumFrom l g (d + 1) h21) (jRo_of (by decide)) (Nat.le_of_ble_eq_true rfl) ⟨Nat.le_of_ble_eq_true rfl, Nat.le_of_ble_eq_true rfl⟩ rfl rfl rfl ?_
              have h := Option.some.inj h
              subst h
              exact hR _ _ (jat ok_X6_countOf 25 (pc := 86) (i := .ireturn) (n := 1) rfl rfl)
            · have h := (if_neg c5).symm.trans h
              by_cases c6 : x1 = 6
              · have h := (if_pos c6).symm.trans h
                refine J_tabIn sw_X6_countOf_1 (off := 86) (tgt := 87) (by rw [c6]; decide) (by rw [c6]; decide) (by rw [c6]; decide) (by decide) ?_
                refine J_seg ok_X6_countOf 26 1 (pc' := 88) (ls' := [(0, .inr (.inr (.inl x0))), (1, .inl x1)]) (st' := [.inr (.inr (.inl x0))]) rfl ?_
                by_cases c25 : qO ah x0 6 = true
                case neg => exact absurd ((if_neg c25).symm.trans h) (by simp)
                have h := (if_pos c25).symm.trans h
                obtain ⟨q23, h24, h⟩ := Option.bind_eq_some_iff.mp h
                refine J_callV (md' := md_X6_zealots) (As := []) (st := []) (cs' := (0, 0)) (st' := [.inl q23.1]) (jat ok_X6_countOf 27 (pc := 88) (i := .invokevirtual 289) (n := 3) rfl rfl) ml_RX6_289 yv_X6_zealots c25 (c_X6_zealots l g (d + 0) h24) (jRo_of (by decide)) (Nat.le_of_ble_eq_true rfl) ⟨Nat.le_of_ble_eq_true rfl, Nat.le_of_ble_eq_true rfl⟩ rfl rfl rfl ?_
                have h := Option.some.inj h
                subst h
                exact hR _ _ (jat ok_X6_countOf 28 (pc := 91) (i := .ireturn) (n := 1) rfl rfl)
              · have h := (if_neg c6).symm.trans h
                have c0 := jtoInt_ne (n := 0) (by decide) c0
                have c1 := jtoInt_ne (n := 1) (by decide) c1
                have c2 := jtoInt_ne (n := 2) (by decide) c2
                have c3 := jtoInt_ne (n := 3) (by decide) c3
                have c4 := jtoInt_ne (n := 4) (by decide) c4
                have c5 := jtoInt_ne (n := 5) (by decide) c5
                have c6 := jtoInt_ne (n := 6) (by decide) c6
                refine J_tabOut sw_X6_countOf_1 (tgt := 92) (by omega) (by decide) ?_
                refine J_seg ok_X6_countOf 29 2 (pc' := 94) (ls' := [(0, .inr (.inr (.inl x0))), (1, .inl x1)]) (st' := [.inl x1, .inr (.inr (.inl x0))]) rfl ?_
                by_cases c28 : qO ah x0 6 = true
                case neg => exact absurd ((if_neg c28).symm.trans h) (by simp)
                have h := (if_pos c28).symm.trans h
                obtain ⟨q26, h27, h⟩ := Option.bind_eq_some_iff.mp h
                refine J_callV (md' := md_X6_thereOf) (As := [.inl x1]) (st := []) (cs' := (0, 0)) (st' := [.inl q26.1]) (jat ok_X6_countOf 31 (pc := 94) (i := .invokevirtual 292) (n := 3) rfl rfl) ml_RX6_292 yv_X6_thereOf c28 (c_X6_thereOf l g (d + 1) h27) (jRo_of (by decide)) (Nat.le_of_ble_eq_true rfl) ⟨Nat.le_of_ble_eq_true rfl, Nat.le_of_ble_eq_true rfl⟩ rfl rfl rfl ?_
                have h := Option.some.inj h
                subst h
                exact hR _ _ (jat ok_X6_countOf 32 (pc := 97) (i := .ireturn) (n := 1) rfl rfl)
theorem c_X6_countOf (l : Launch) (g : GX) (d : Nat) {x0 : Option Nat} {x1 : Int32} {ah : AH} {q : Int32 × AH} (h : f_X6_countOf x0 x1 ah = some q) : jM l g (d + 2) md_X6_countOf [.inr (.inr (.inl x0)), .inl x1] ah (some (.inl q.1)) q.2 :=
  jM_of (by decide) (Nat.le_of_ble_eq_true rfl) (k_X6_countOf d ah q h (fun pc ls hd => J_reti hd rfl (jPV_int _) rfl (Nat.le_refl _) rfl rfl))
def f_X6_count (x0 : Option Nat) (x1 : Int32) (ah : AH) : Option (Int32 × AH) :=
  (f_X6_in (Int32.toInt64 x1) 0 9 ah).bind fun q1 => if q1.1 = 0 then (some ((-1), q1.2)) else (if qO q1.2 x0 6 = true then ((f_X6_countOf x0 x1 q1.2).bind fun q3 => some (q3.1, q3.2)) else none)
set_option maxRecDepth 100000 in
set_option maxHeartbeats 4000000 in
theorem k_X6_count {l : Launch} {g : GX} (d : Nat) {Q : jQ} {x0 : Option Nat} {x1 : Int32} (ah : AH) (out : Int32 × AH) (h : f_X6_count x0 x1 ah = some out) (hR : jRetI l g md_X6_count (jRm (d + 3) md_X6_count) Q (0, 0) out.1 out.2) : J l g md_X6_count (jRm (d + 3) md_X6_count) Q 0 [(0, .inr (.inr (.inl x0))), (1, .inl x1)] [] ah (0, 0) := by
  unfold f_X6_count at h
  refine J_seg ok_X6_count 0 3 (pc' := 3) (ls' := [(0, .inr (.inr (.inl x0))), (1, .inl x1)]) (st' := [.inr (.inl 0), .inr (.inl (Int32.toInt64 x1))]) rfl ?_
  refine J_ldc2 (jat ok_X6_count 3 (pc := 3) (i := .ldc2_w 218) (n := 3) rfl rfl) lc_RX6_218 ?_
  obtain ⟨q1, h2, h⟩ := Option.bind_eq_some_iff.mp h
  refine J_callS (md' := md_X6_in) (As := [.inr (.inl (Int32.toInt64 x1)), .inr (.inl 0), .inr (.inl 9)]) (st := []) (cs' := (0, 0)) (st' := [.inl q1.1]) (jat ok_X6_count 4 (pc := 6) (i := .invokestatic 71) (n := 3) rfl rfl) (Or.inl ml_RX6_71) ys_X6_in (c_X6_in l g (d + 2) h2) (jRo_of (by decide)) (Nat.le_of_ble_eq_true rfl) ⟨Nat.le_of_ble_eq_true rfl, Nat.le_of_ble_eq_true rfl⟩ rfl rfl rfl ?_
  refine J_eq0 (jat ok_X6_count 5 (pc := 9) (i := .ifCond .eq 11) (n := 3) rfl rfl) (tgt := 20) (by decide) (fun c => ?_) (fun c => ?_)
  · have h := (if_pos c).symm.trans h
    refine J_seg ok_X6_count 10 1 (pc' := 21) (ls' := [(0, .inr (.inr (.inl x0))), (1, .inl x1)]) (st' := [.inl (-1)]) rfl ?_
    have h := Option.some.inj h
    subst h
    exact hR _ _ (jat ok_X6_count 11 (pc := 21) (i := .ireturn) (n := 1) rfl rfl)
  · have h := (if_neg c).symm.trans h
    refine J_seg ok_X6_count 6 2 (pc' := 14) (ls' := [(0, .inr (.inr (.inl x0))), (1, .inl x1)]) (st' := [.inl x1, .inr (.inr (.inl x0))]) rfl ?_
    by_cases c5 : qO q1.2 x0 6 = true
    case neg => exact absurd ((if_neg c5).symm.trans h) (by simp)
    have h := (if_pos c5).symm.trans h
    obtain ⟨q3, h4, h⟩ := Option.bind_eq_some_iff.mp h
    refine J_callV (md' := md_X6_countOf) (As := [.inl x1]) (st := []) (cs' := (0, 0)) (st' := [.inl q3.1]) (jat ok_X6_count 8 (pc := 14) (i := .invokevirtual 295) (n := 3) rfl rfl) ml_RX6_295 yv_X6_countOf c5 (c_X6_countOf l g (d + 0) h4) (jRo_of (by decide)) (Nat.le_of_ble_eq_true rfl) ⟨Nat.le_of_ble_eq_true rfl, Nat.le_of_ble_eq_true rfl⟩ rfl rfl rfl ?_
    refine J_seg ok_X6_count 9 1 (pc' := 21) (ls' := [(0, .inr (.inr (.inl x0))), (1, .inl x1)]) (st' := [.inl q3.1]) rfl ?_
    have h := Option.some.inj h
    subst h
    exact hR _ _ (jat ok_X6_count 11 (pc := 21) (i := .ireturn) (n := 1) rfl rfl)
theorem c_X6_count (l : Launch) (g : GX) (d : Nat) {x0 : Option Nat} {x1 : Int32} {ah : AH} {q : Int32 × AH} (h : f_X6_count x0 x1 ah = some q) : jM l g (d + 3) md_X6_count [.inr (.inr (.inl x0)), .inl x1] ah (some (.inl q.1)) q.2 :=
  jM_of (by decide) (Nat.le_of_ble_eq_true rfl) (k_X6_count d ah q h (fun pc ls hd => J_reti hd rfl (jPV_int _) rfl (Nat.le_refl _) rfl rfl))
def f_X6_finding (x0 : Option Nat) (ah : AH) : Option (Int32 × AH) :=
  (gI ah x0 6 14).bind fun v1 => some (v1, ah)
set_option maxRecDepth 100000 in
set_option maxHeartbeats 4000000 in
theorem k_X6_finding {l : Launch} {g : GX} (d : Nat) {Q : jQ} {x0 : Option Nat} (ah : AH) (out : Int32 × AH) (h : f_X6_finding x0 ah = some out) (hR : jRetI l g md_X6_finding (jRm (d + 0) md_X6_finding) Q (0, 0) out.1 out.2) : J l g md_X6_finding (jRm (d + 0) md_X6_finding) Q 0 [(0, .inr (.inr (.inl x0)))] [] ah (0, 0) := by
  unfold f_X6_finding at h
  refine J_seg ok_X6_finding 0 1 (pc' := 1) (ls' := [(0, .inr (.inr (.inl x0)))]) (st' := [.inr (.inr (.inl x0))]) rfl ?_
  obtain ⟨v1, h2, h⟩ := Option.bind_eq_some_iff.mp h
  refine J_getI (jat ok_X6_finding 1 (pc := 1) (i := .getfield 62) (n := 3) rfl rfl) fl_RX6_62 h2 ?_
  have h := Option.some.inj h
  subst h
  exact hR _ _ (jat ok_X6_finding 2 (pc := 4) (i := .ireturn) (n := 1) rfl rfl)
theorem c_X6_finding (l : Launch) (g : GX) (d : Nat) {x0 : Option Nat} {ah : AH} {q : Int32 × AH} (h : f_X6_finding x0 ah = some q) : jM l g (d + 0) md_X6_finding [.inr (.inr (.inl x0))] ah (some (.inl q.1)) q.2 :=
  jM_of (by decide) (Nat.le_of_ble_eq_true rfl) (k_X6_finding d ah q h (fun pc ls hd => J_reti hd rfl (jPV_int _) rfl (Nat.le_refl _) rfl rfl))
def f_X6_findings (x0 : Option Nat) (x1 : Int32) (ah : AH) : Option (Int32 × AH) :=
  (f_X6_in (Int32.toInt64 x1) 1 5 ah).bind fun q1 => if q1.1 = 0 then (some ((-1), q1.2)) else ((gR q1.2 x0 6 15).bind fun v3 => (gA q1.2 v3 x1).bind fun v5 => some (v5, q1.2))
set_option maxRecDepth 100000 in
set_option maxHeartbeats 4000000 in
theorem k_X6_findings {l : Launch} {g : GX} (d : Nat) {Q : jQ} {x0 : Option Nat} {x1 : Int32} (ah : AH) (out : Int32 × AH) (h : f_X6_findings x0 x1 ah = some out) (hR : jRetI l g md_X6_findings (jRm (d + 1) md_X6_findings) Q (0, 0) out.1 out.2) : J l g md_X6_findings (jRm (d + 1) md_X6_findings) Q 0 [(0, .inr (.inr (.inl x0))), (1, .inl x1)] [] ah (0, 0) := by
  unfold f_X6_findings at h
  refine J_seg ok_X6_findings 0 3 (pc' := 3) (ls' := [(0, .inr (.inr (.inl x0))), (1, .inl x1)]) (st' := [.inr (.inl 1), .inr (.inl (Int32.toInt64 x1))]) rfl ?_
  refine J_ldc2 (jat ok_X6_findings 3 (pc := 3) (i := .ldc2_w 69) (n := 3) rfl rfl) lc_RX6_69 ?_
  obtain ⟨q1, h2, h⟩ := Option.bind_eq_some_iff.mp h
  refine J_callS (md' := md_X6_in) (As := [.inr (.inl (Int32.toInt64 x1)), .inr (.inl 1), .inr (.inl 5)]) (st := []) (cs' := (0, 0)) (st' := [.inl q1.1]) (jat ok_X6_findings 4 (pc := 6) (i := .invokestatic 71) (n := 3) rfl rfl) (Or.inl ml_RX6_71) ys_X6_in (c_X6_in l g (d + 0) h2) (jRo_of (by decide)) (Nat.le_of_ble_eq_true rfl) ⟨Nat.le_of_ble_eq_true rfl, Nat.le_of_ble_eq_true rfl⟩ rfl rfl rfl ?_
  refine J_eq0 (jat ok_X6_findings 5 (pc := 9) (i := .ifCond .eq 12) (n := 3) rfl rfl) (tgt := 21) (by decide) (fun c => ?_) (fun c => ?_)
  · have h := (if_pos c).symm.trans h
    refine J_seg ok_X6_findings 11 1 (pc' := 22) (ls' := [(0, .inr (.inr (.inl x0))), (1, .inl x1)]) (st' := [.inl (-1)]) rfl ?_
    have h := Option.some.inj h
    subst h
    exact hR _ _ (jat ok_X6_findings 12 (pc := 22) (i := .ireturn) (n := 1) rfl rfl)
  · have h := (if_neg c).symm.trans h
    refine J_seg ok_X6_findings 6 1 (pc' := 13) (ls' := [(0, .inr (.inr (.inl x0))), (1, .inl x1)]) (st' := [.inr (.inr (.inl x0))]) rfl ?_
    obtain ⟨v3, h4, h⟩ := Option.bind_eq_some_iff.mp h
    refine J_getR (jat ok_X6_findings 7 (pc := 13) (i := .getfield 41) (n := 3) rfl rfl) fl_RX6_41 h4 ?_
    refine J_seg ok_X6_findings 8 1 (pc' := 17) (ls' := [(0, .inr (.inr (.inl x0))), (1, .inl x1)]) (st' := [.inl x1, .inr (.inr (.inl v3))]) rfl ?_
    obtain ⟨v5, h6, h⟩ := Option.bind_eq_some_iff.mp h
    refine J_iald (jat ok_X6_findings 9 (pc := 17) (i := .iaload) (n := 1) rfl rfl) h6 ?_
    refine J_seg ok_X6_findings 10 1 (pc' := 22) (ls' := [(0, .inr (.inr (.inl x0))), (1, .inl x1)]) (st' := [.inl v5]) rfl ?_
    have h := Option.some.inj h
    subst h
    exact hR _ _ (jat ok_X6_findings 12 (pc := 22) (i := .ireturn) (n := 1) rfl rfl)
theorem c_X6_findings (l : Launch) (g : GX) (d : Nat) {x0 : Option Nat} {x1 : Int32} {ah : AH} {q : Int32 × AH} (h : f_X6_findings x0 x1 ah = some q) : jM l g (d + 1) md_X6_findings [.inr (.inr (.inl x0)), .inl x1] ah (some (.inl q.1)) q.2 :=
  jM_of (by decide) (Nat.le_of_ble_eq_true rfl) (k_X6_findings d ah q h (fun pc ls hd => J_reti hd rfl (jPV_int _) rfl (Nat.le_refl _) rfl rfl))
def f_X6_digest_b6 (k0 : Option Nat) (s6 : Int64 × Int32) (ah : AH) : Option ((Unit × AH) ⊕ (((Int64) × AH) ⊕ ((Int64 × Int32) × AH))) :=
  if 10 ≤ s6.2 then (some (.inr (.inl (s6.1, ah)))) else (if qO ah k0 6 = true then ((f_X6_countOf k0 s6.2 ah).bind fun q1 => some (.inr (.inr (((31 * s6.1) + (Int32.toInt64 q1.1), s6.2 + 1), q1.2)))) else none)
set_option maxRecDepth 100000 in
set_option maxHeartbeats 4000000 in
theorem k_X6_digest_b6 {l : Launch} {g : GX} (d : Nat) {Q : jQ} {k0 : Option Nat} (s6 : Int64 × Int32) (ah : AH) (out : (Unit × AH) ⊕ (((Int64) × AH) ⊕ ((Int64 × Int32) × AH))) (h : f_X6_digest_b6 k0 s6 ah = some out) (hR : ∀ q, out = .inl q → jRetN q.1 q.2) (hX : ∀ q, out = .inr (.inl q) → J l g md_X6_digest (jRm (d + 3) md_X6_digest) Q 31 [(0, .inr (.inr (.inl k0))), (1, .inr (.inl q.1))] [] q.2 (0, 0)) (hN : ∀ q, out = .inr (.inr q) → J l g md_X6_digest (jRm (d + 3) md_X6_digest) Q 6 [(0, .inr (.inr (.inl k0))), (1, .inr (.inl q.1.1)), (3, .inl q.1.2)] [] q.2 (0, 0)) : J l g md_X6_digest (jRm (d + 3) md_X6_digest) Q 6 [(0, .inr (.inr (.inl k0))), (1, .inr (.inl s6.1)), (3, .inl s6.2)] [] ah (0, 0) := by
  unfold f_X6_digest_b6 at h
  refine J_seg ok_X6_digest 4 2 (pc' := 9) (ls' := [(0, .inr (.inr (.inl k0))), (1, .inr (.inl s6.1)), (3, .inl s6.2)]) (st' := [.inl 10, .inl s6.2]) rfl ?_
  refine J_ge (jat ok_X6_digest 6 (pc := 9) (i := .if_icmp .ge 22) (n := 3) rfl rfl) (tgt := 31) (by decide) (fun c => ?_) (fun c => ?_)
  · have h := (if_pos c).symm.trans h
    exact J_sub (ls' := [(0, .inr (.inr (.inl k0))), (1, .inr (.inl s6.1))]) [0, 1] rfl (hX (s6.1, ah) (Option.some.inj h).symm)
  · have h := (if_neg c).symm.trans h
    refine J_ldc2 (jat ok_X6_digest 7 (pc := 12) (i := .ldc2_w 300) (n := 3) rfl rfl) lc_RX6_300 ?_
    refine J_seg ok_X6_digest 8 4 (pc' := 19) (ls' := [(0, .inr (.inr (.inl k0))), (1, .inr (.inl s6.1)), (3, .inl s6.2)]) (st' := [.inl s6.2, .inr (.inr (.inl k0)), .inr (.inl (31 * s6.1))]) rfl ?_
    by_cases c3 : qO ah k0 6 = true
    case neg => exact absurd ((if_neg c3).symm.trans h) (by simp)
    have h := (if_pos c3).symm.trans h
    obtain ⟨q1, h2, h⟩ := Option.bind_eq_some_iff.mp h
    refine J_callV (md' := md_X6_countOf) (As := [.inl s6.2]) (st := [.inr (.inl (31 * s6.1))]) (cs' := (0, 0)) (st' := [.inl q1.1, .inr (.inl (31 * s6.1))]) (jat ok_X6_digest 12 (pc := 19) (i := .invokevirtual 295) (n := 3) rfl rfl) ml_RX6_295 yv_X6_countOf c3 (c_X6_countOf l g (d + 0) h2) (jRo_of (by decide)) (Nat.le_of_ble_eq_true rfl) ⟨Nat.le_of_ble_eq_true rfl, Nat.le_of_ble_eq_true rfl⟩ rfl rfl rfl ?_
    refine J_seg ok_X6_digest 13 5 (pc' := 6) (ls' := [(3, .inl (s6.2 + 1)), (1, .inr (.inl ((31 * s6.1) + (Int32.toInt64 q1.1)))), (0, .inr (.inr (.inl k0)))]) (st' := []) rfl ?_
    exact J_sub (ls' := [(0, .inr (.inr (.inl k0))), (1, .inr (.inl ((31 * s6.1) + (Int32.toInt64 q1.1)))), (3, .inl (s6.2 + 1))]) [2, 1, 0] rfl (hN (((31 * s6.1) + (Int32.toInt64 q1.1), s6.2 + 1), q1.2) (Option.some.inj h).symm)
def f_X6_digest_b33 (k0 : Option Nat) (s33 : Int64 × Int32) (ah : AH) : Option ((Unit × AH) ⊕ (((Int64) × AH) ⊕ ((Int64 × Int32) × AH))) :=
  (gI ah k0 6 1).bind fun v8 => if (9 * v8) ≤ s33.2 then (some (.inr (.inl (s33.1, ah)))) else (if qO ah k0 6 = true then ((f_X6_toldOf k0 (s33.2 / 9) (s33.2 - s33.2 / 9 * 9) ah).bind fun q10 => some (.inr (.inr (((31 * s33.1) + (Int32.toInt64 q10.1), s33.2 + 1), q10.2)))) else none)
set_option maxRecDepth 100000 in
set_option maxHeartbeats 4000000 in
theorem k_X6_digest_b33 {l : Launch} {g : GX} (d : Nat) {Q : jQ} {k0 : Option Nat} (s33 : Int64 × Int32) (ah : AH) (out : (Unit × AH) ⊕ (((Int64) × AH) ⊕ ((Int64 × Int32) × AH))) (h : f_X6_digest_b33 k0 s33 ah = some out) (hR : ∀ q, out = .inl q → jRetN q.1 q.2) (hX : ∀ q, out = .inr (.inl q) → J l g md_X6_digest (jRm (d + 3) md_X6_digest) Q 70 [(0, .inr (.inr (.inl k0))), (1, .inr (.inl q.1))] [] q.2 (0, 0)) (hN : ∀ q, out = .inr (.inr q) → J l g md_X6_digest (jRm (d + 3) md_X6_digest) Q 33 [(0, .inr (.inr (.inl k0))), (1, .inr (.inl q.1.1)), (3, .inl q.1.2)] [] q.2 (0, 0)) : J l g md_X6_digest (jRm (d + 3) md_X6_digest) Q 33 [(0, .inr (.inr (.inl k0))), (1, .inr (.inl s33.1)), (3, .inl s33.2)] [] ah (0, 0) := by
  unfold f_X6_digest_b33 at h
  refine J_seg ok_X6_digest 20 3 (pc' := 37) (ls' := [(0, .inr (.inr (.inl k0))), (1, .inr (.inl s33.1)), (3, .inl s33.2)]) (st' := [.inr (.inr (.inl k0)), .inl 9, .inl s33.2]) rfl ?_
  obtain ⟨v8, h9, h⟩ := Option.bind_eq_some_iff.mp h
  refine J_getI (jat ok_X6_digest 23 (pc := 37) (i := .getfield 148) (n := 3) rfl rfl) fl_RX6_148 h9 ?_
  refine J_seg ok_X6_digest 24 1 (pc' := 41) (ls' := [(0, .inr (.inr (.inl k0))), (1, .inr (.inl s33.1)), (3, .inl s33.2)]) (st' := [.inl (9 * v8), .inl s33.2]) rfl ?_
  refine J_ge (jat ok_X6_digest 25 (pc := 41) (i := .if_icmp .ge 29) (n := 3) rfl rfl) (tgt := 70) (by decide) (fun c => ?_) (fun c => ?_)
  · have h := (if_pos c).symm.trans h
    exact J_sub (ls' := [(0, .inr (.inr (.inl k0))), (1, .inr (.inl s33.1))]) [0, 1] rfl (hX (s33.1, ah) (Option.some.inj h).symm)
  · have h := (if_neg c).symm.trans h
    refine J_ldc2 (jat ok_X6_digest 26 (pc := 44) (i := .ldc2_w 300) (n := 3) rfl rfl) lc_RX6_300 ?_
    refine J_seg ok_X6_digest 27 5 (pc' := 53) (ls' := [(0, .inr (.inr (.inl k0))), (1, .inr (.inl s33.1)), (3, .inl s33.2)]) (st' := [.inl 9, .inl s33.2, .inr (.inr (.inl k0)), .inr (.inl (31 * s33.1))]) rfl ?_
    refine J_idiv (jat ok_X6_digest 32 (pc := 53) (i := .idiv) (n := 1) rfl rfl) (by decide) ?_
    refine J_seg ok_X6_digest 33 2 (pc' := 57) (ls' := [(0, .inr (.inr (.inl k0))), (1, .inr (.inl s33.1)), (3, .inl s33.2)]) (st' := [.inl 9, .inl s33.2, .inl (s33.2 / 9), .inr (.inr (.inl k0)), .inr (.inl (31 * s33.1))]) rfl ?_
    refine J_irem (jat ok_X6_digest 35 (pc := 57) (i := .irem) (n := 1) rfl rfl) (by decide) ?_
    by_cases c12 : qO ah k0 6 = true
    case neg => exact absurd ((if_neg c12).symm.trans h) (by simp)
    have h := (if_pos c12).symm.trans h
    obtain ⟨q10, h11, h⟩ := Option.bind_eq_some_iff.mp h
    refine J_callV (md' := md_X6_toldOf) (As := [.inl (s33.2 / 9), .inl (s33.2 - s33.2 / 9 * 9)]) (st := [.inr (.inl (31 * s33.1))]) (cs' := (0, 0)) (st' := [.inl q10.1, .inr (.inl (31 * s33.1))]) (jat ok_X6_digest 36 (pc := 58) (i := .invokevirtual 174) (n := 3) rfl rfl) ml_RX6_174 yv_X6_toldOf c12 (c_X6_toldOf l g (d + 0) h11) (jRo_of (by decide)) (Nat.le_of_ble_eq_true rfl) ⟨Nat.le_of_ble_eq_true rfl, Nat.le_of_ble_eq_true rfl⟩ rfl rfl rfl ?_
    refine J_seg ok_X6_digest 37 5 (pc' := 33) (ls' := [(3, .inl (s33.2 + 1)), (1, .inr (.inl ((31 * s33.1) + (Int32.toInt64 q10.1)))), (0, .inr (.inr (.inl k0)))]) (st' := []) rfl ?_
    exact J_sub (ls' := [(0, .inr (.inr (.inl k0))), (1, .inr (.inl ((31 * s33.1) + (Int32.toInt64 q10.1)))), (3, .inl (s33.2 + 1))]) [2, 1, 0] rfl (hN (((31 * s33.1) + (Int32.toInt64 q10.1), s33.2 + 1), q10.2) (Option.some.inj h).symm)
def f_X6_digest_b72 (k0 : Option Nat) (s72 : Int64 × Int32) (ah : AH) : Option ((Unit × AH) ⊕ (((Int64) × AH) ⊕ ((Int64 × Int32) × AH))) :=
  if 4 ≤ s72.2 then (some (.inr (.inl (s72.1, ah)))) else ((gR ah k0 6 0).bind fun v17 => (gA ah v17 ((780 * s72.2) + 0)).bind fun v19 => some (.inr (.inr (((31 * s72.1) + (Int32.toInt64 v19), s72.2 + 1), ah))))
set_option maxRecDepth 100000 in
set_option maxHeartbeats 4000000 in
theorem k_X6_digest_b72 {l : Launch} {g : GX} (d : Nat) {Q : jQ} {k0 : Option Nat} (s72 : Int64 × Int32) (ah : AH) (out : (Unit × AH) ⊕ (((Int64) × AH) ⊕ ((Int64 × Int32) × AH))) (h : f_X6_digest_b72 k0 s72 ah = some out) (hR : ∀ q, out = .inl q → jRetN q.1 q.2) (hX : ∀ q, out = .inr (.inl q) → J l g md_X6_digest (jRm (d + 3) md_X6_digest) Q 103 [(0, .inr (.inr (.inl k0))), (1, .inr (.inl q.1))] [] q.2 (0, 0)) (hN : ∀ q, out = .inr (.inr q) → J l g md_X6_digest (jRm (d + 3) md_X6_digest) Q 72 [(0, .inr (.inr (.inl k0))), (1, .inr (.inl q.1.1)), (3, .inl q.1.2)] [] q.2 (0, 0)) : J l g md_X6_digest (jRm (d + 3) md_X6_digest) Q 72 [(0, .inr (.inr (.inl k0))), (1, .inr (.inl s72.1)), (3, .inl s72.2)] [] ah (0, 0) := by
  unfold f_X6_digest_b72 at h
  refine J_seg ok_X6_digest 44 2 (pc' := 74) (ls' := [(0, .inr (.inr (.inl k0))), (1, .inr (.inl s72.1)), (3, .inl s72.2)]) (st' := [.inl 4, .inl s72.2]) rfl ?_
  refine J_ge (jat ok_X6_digest 46 (pc := 74) (i := .if_icmp .ge 29) (n := 3) rfl rfl) (tgt := 103) (by decide) (fun c => ?_) (fun c => ?_)
  · have h := (if_pos c).symm.trans h
    exact J_sub (ls' := [(0, .inr (.inr (.inl k0))), (1, .inr (.inl s72.1))]) [0, 1] rfl (hX (s72.1, ah) (Option.some.inj h).symm)
  · have h := (if_neg c).symm.trans h
    refine J_ldc2 (jat ok_X6_digest 47 (pc := 77) (i := .ldc2_w 300) (n := 3) rfl rfl) lc_RX6_300 ?_
    refine J_seg ok_X6_digest 48 3 (pc' := 83) (ls' := [(0, .inr (.inr (.inl k0))), (1, .inr (.inl s72.1)), (3, .inl s72.2)]) (st' := [.inr (.inr (.inl k0)), .inr (.inl (31 * s72.1))]) rfl ?_
    obtain ⟨v17, h18, h⟩ := Option.bind_eq_some_iff.mp h
    refine J_getR (jat ok_X6_digest 51 (pc := 83) (i := .getfield 7) (n := 3) rfl rfl) fl_RX6_7 h18 ?_
    refine J_seg ok_X6_digest 52 5 (pc' := 93) (ls' := [(0, .inr (.inr (.inl k0))), (1, .inr (.inl s72.1)), (3, .inl s72.2)]) (st' := [.inl ((780 * s72.2) + 0), .inr (.inr (.inl v17)), .inr (.inl (31 * s72.1))]) rfl ?_
    obtain ⟨v19, h20, h⟩ := Option.bind_eq_some_iff.mp h
    refine J_iald (jat ok_X6_digest 57 (pc := 93) (i := .iaload) (n := 1) rfl rfl) h20 ?_
    refine J_seg ok_X6_digest 58 5 (pc' := 72) (ls' := [(3, .inl (s72.2 + 1)), (1, .inr (.inl ((31 * s72.1) + (Int32.toInt64 v19)))), (0, .inr (.inr (.inl k0)))]) (st' := []) rfl ?_
    exact J_sub (ls' := [(0, .inr (.inr (.inl k0))), (1, .inr (.inl ((31 * s72.1) + (Int32.toInt64 v19)))), (3, .inl (s72.2 + 1))]) [2, 1, 0] rfl (hN (((31 * s72.1) + (Int32.toInt64 v19), s72.2 + 1), ah) (Option.some.inj h).symm)
def f_X6_digest_b128 (k0 : Option Nat) (k3 : Int32) (s128 : Int64 × Int32) (ah : AH) : Option ((Unit × AH) ⊕ (((Int64) × AH) ⊕ ((Int64 × Int32) × AH))) :=
  (gR ah k0 6 7).bind fun v29 => (gA ah v29 k3).bind fun v31 => if v31 ≤ s128.2 then (some (.inr (.inl (s128.1, ah)))) else ((gR ah k0 6 8).bind fun v33 => (gA ah v33 ((40 * k3) + s128.2)).bind fun v35 => some (.inr (.inr (((31 * s128.1) + (Int32.toInt64 v35), s128.2 + 1), ah))))
set_option maxRecDepth 100000 in
set_option maxHeartbeats 4000000 in
theorem k_X6_digest_b128 {l : Launch} {g : GX} (d : Nat) {Q : jQ} {k0 : Option Nat} {k3 : Int32} (s128 : Int64 × Int32) (ah : AH) (out : (Unit × AH) ⊕ (((Int64) × AH) ⊕ ((Int64 × Int32) × AH))) (h : f_X6_digest_b128 k0 k3 s128 ah = some out) (hR : ∀ q, out = .inl q → jRetN q.1 q.2) (hX : ∀ q, out = .inr (.inl q) → J l g md_X6_digest (jRm (d + 3) md_X6_digest) Q 165 [(0, .inr (.inr (.inl k0))), (1, .inr (.inl q.1)), (3, .inl k3)] [] q.2 (0, 0)) (hN : ∀ q, out = .inr (.inr q) → J l g md_X6_digest (jRm (d + 3) md_X6_digest) Q 128 [(0, .inr (.inr (.inl k0))), (1, .inr (.inl q.1.1)), (3, .inl k3), (4, .inl q.1.2)] [] q.2 (0, 0)) : J l g md_X6_digest (jRm (d + 3) md_X6_digest) Q 128 [(0, .inr (.inr (.inl k0))), (1, .inr (.inl s128.1)), (3, .inl k3), (4, .inl s128.2)] [] ah (0, 0) := by
  unfold f_X6_digest_b128 at h
  refine J_seg ok_X6_digest 80 2 (pc' := 131) (ls' := [(0, .inr (.inr (.inl k0))), (1, .inr (.inl s128.1)), (3, .inl k3), (4, .inl s128.2)]) (st' := [.inr (.inr (.inl k0)), .inl s128.2]) rfl ?_
  obtain ⟨v29, h30, h⟩ := Option.bind_eq_some_iff.mp h
  refine J_getR (jat ok_X6_digest 82 (pc := 131) (i := .getfield 25) (n := 3) rfl rfl) fl_RX6_25 h30 ?_
  refine J_seg ok_X6_digest 83 1 (pc' := 135) (ls' := [(0, .inr (.inr (.inl k0))), (1, .inr (.inl s128.1)), (3, .inl k3), (4, .inl s128.2)]) (st' := [.inl k3, .inr (.inr (.inl v29)), .inl s128.2]) rfl ?_
  obtain ⟨v31, h32, h⟩ := Option.bind_eq_some_iff.mp h
  refine J_iald (jat ok_X6_digest 84 (pc := 135) (i := .iaload) (n := 1) rfl rfl) h32 ?_
  refine J_ge (jat ok_X6_digest 85 (pc := 136) (i := .if_icmp .ge 29) (n := 3) rfl rfl) (tgt := 165) (by decide) (fun c => ?_) (fun c => ?_)
  · have h := (if_pos c).symm.trans h
    exact J_sub (ls' := [(0, .inr (.inr (.inl k0))), (1, .inr (.inl s128.1)), (3, .inl k3)]) [0, 1, 2] rfl (hX (s128.1, ah) (Option.some.inj h).symm)
  · have h := (if_neg c).symm.trans h
    refine J_ldc2 (jat ok_X6_digest 86 (pc := 139) (i := .ldc2_w 300) (n := 3) rfl rfl) lc_RX6_300 ?_
    refine J_seg ok_X6_digest 87 3 (pc' := 145) (ls' := [(0, .inr (.inr (.inl k0))), (1, .inr (.inl s128.1)), (3, .inl k3), (4, .inl s128.2)]) (st' := [.inr (.inr (.inl k0)), .inr (.inl (31 * s128.1))]) rfl ?_
    obtain ⟨v33, h34, h⟩ := Option.bind_eq_some_iff.mp h
    refine J_getR (jat ok_X6_digest 90 (pc := 145) (i := .getfield 28) (n := 3) rfl rfl) fl_RX6_28 h34 ?_
    refine J_seg ok_X6_digest 91 5 (pc' := 155) (ls' := [(0, .inr (.inr (.inl k0))), (1, .inr (.inl s128.1)), (3, .inl k3), (4, .inl s128.2)]) (st' := [.inl ((40 * k3) + s128.2), .inr (.inr (.inl v33)), .inr (.inl (31 * s128.1))]) rfl ?_
    obtain ⟨v35, h36, h⟩ := Option.bind_eq_some_iff.mp h
    refine J_iald (jat ok_X6_digest 96 (pc := 155) (i := .iaload) (n := 1) rfl rfl) h36 ?_
    refine J_seg ok_X6_digest 97 5 (pc' := 128) (ls' := [(4, .inl (s128.2 + 1)), (1, .inr (.inl ((31 * s128.1) + (Int32.toInt64 v35)))), (0, .inr (.inr (.inl k0))), (3, .inl k3)]) (st' := []) rfl ?_
    exact J_sub (ls' := [(0, .inr (.inr (.inl k0))), (1, .inr (.inl ((31 * s128.1) + (Int32.toInt64 v35)))), (3, .inl k3), (4, .inl (s128.2 + 1))]) [2, 1, 3, 0] rfl (hN (((31 * s128.1) + (Int32.toInt64 v35), s128.2 + 1), ah) (Option.some.inj h).symm)
def f_X6_digest_b105 (k0 : Option Nat) (s105 : Int64 × Int32) (ah : AH) : Option ((Unit × AH) ⊕ (((Int64) × AH) ⊕ ((Int64 × Int32) × AH))) :=
  if 6 ≤ s105.2 then (some (.inr (.inl (s105.1, ah)))) else ((gR ah k0 6 7).bind fun v25 => (gA ah v25 s105.2).bind fun v27 => (jloop (f_X6_digest_b128 k0 s105.2) jfuel ((31 * s105.1) + (Int32.toInt64 v27), 0) ah).bind fun q37 => match q37 with | .inl r => none | .inr z39 => some (.inr (.inr ((z39.1, s105.2 + 1), z39.2))))
set_option maxRecDepth 100000 in
set_option maxHeartbeats 4000000 in
theorem k_X6_digest_b105 {l : Launch} {g : GX} (d : Nat) {Q : jQ} {k0 : Option Nat} (s105 : Int64 × Int32) (ah : AH) (out : (Unit × AH) ⊕ (((Int64) × AH) ⊕ ((Int64 × Int32) × AH))) (h : f_X6_digest_b105 k0 s105 ah = some out) (hR : ∀ q, out = .inl q → jRetN q.1 q.2) (hX : ∀ q, out = .inr (.inl q) → J l g md_X6_digest (jRm (d + 3) md_X6_digest) Q 171 [(0, .inr (.inr (.inl k0))), (1, .inr (.inl q.1))] [] q.2 (0, 0)) (hN : ∀ q, out = .inr (.inr q) → J l g md_X6_digest (jRm (d + 3) md_X6_digest) Q 105 [(0, .inr (.inr (.inl k0))), (1, .inr (.inl q.1.1)), (3, .inl q.1.2)] [] q.2 (0, 0)) : J l g md_X6_digest (jRm (d + 3) md_X6_digest) Q 105 [(0, .inr (.inr (.inl k0))), (1, .inr (.inl s105.1)), (3, .inl s105.2)] [] ah (0, 0) := by
  unfold f_X6_digest_b105 at h
  refine J_seg ok_X6_digest 65 2 (pc' := 108) (ls' := [(0, .inr (.inr (.inl k0))), (1, .inr (.inl s105.1)), (3, .inl s105.2)]) (st' := [.inl 6, .inl s105.2]) rfl ?_
  refine J_ge (jat ok_X6_digest 67 (pc := 108) (i := .if_icmp .ge 63) (n := 3) rfl rfl) (tgt := 171) (by decide) (fun c => ?_) (fun c => ?_)
  · have h := (if_pos c).symm.trans h
    exact J_sub (ls' := [(0, .inr (.inr (.inl k0))), (1, .inr (.inl s105.1))]) [0, 1] rfl (hX (s105.1, ah) (Option.some.inj h).symm)
  · have h := (if_neg c).symm.trans h
    refine J_ldc2 (jat ok_X6_digest 68 (pc := 111) (i := .ldc2_w 300) (n := 3) rfl rfl) lc_RX6_300 ?_
    refine J_seg ok_X6_digest 69 3 (pc' := 117) (ls' := [(0, .inr (.inr (.inl k0))), (1, .inr (.inl s105.1)), (3, .inl s105.2)]) (st' := [.inr (.inr (.inl k0)), .inr (.inl (31 * s105.1))]) rfl ?_
    obtain ⟨v25, h26, h⟩ := Option.bind_eq_some_iff.mp h
    refine J_getR (jat ok_X6_digest 72 (pc := 117) (i := .getfield 25) (n := 3) rfl rfl) fl_RX6_25 h26 ?_
    refine J_seg ok_X6_digest 73 1 (pc' := 121) (ls' := [(0, .inr (.inr (.inl k0))), (1, .inr (.inl s105.1)), (3, .inl s105.2)]) (st' := [.inl s105.2, .inr (.inr (.inl v25)), .inr (.inl (31 * s105.1))]) rfl ?_
    obtain ⟨v27, h28, h⟩ := Option.bind_eq_some_iff.mp h
    refine J_iald (jat ok_X6_digest 74 (pc := 121) (i := .iaload) (n := 1) rfl rfl) h28 ?_
    refine J_seg ok_X6_digest 75 5 (pc' := 128) (ls' := [(4, .inl 0), (1, .inr (.inl ((31 * s105.1) + (Int32.toInt64 v27)))), (0, .inr (.inr (.inl k0))), (3, .inl s105.2)]) (st' := []) rfl ?_
    obtain ⟨q37, h38, h⟩ := Option.bind_eq_some_iff.mp h
    refine J_sub (ls' := [(0, .inr (.inr (.inl k0))), (1, .inr (.inl ((31 * s105.1) + (Int32.toInt64 v27)))), (3, .inl s105.2), (4, .inl 0)]) [2, 1, 3, 0] rfl ?_
    refine J_loop (pE := 165) (lh := fun t40 => [(0, .inr (.inr (.inl k0))), (1, .inr (.inl t40.1)), (3, .inl s105.2), (4, .inl t40.2)]) (lx := fun z39 => [(0, .inr (.inr (.inl k0))), (1, .inr (.inl z39)), (3, .inl s105.2)]) (P := jRetN) (fun s ah out hb hR hX hN => k_X6_digest_b128 d s ah out hb hR hX hN) jfuel ((31 * s105.1) + (Int32.toInt64 v27), 0) _ _ h38 (fun r e => ?_) (fun z39 e => ?_)
    · subst e
      dsimp only at h
      cases h
    · subst e
      dsimp only at h
      refine J_seg ok_X6_digest 102 2 (pc' := 105) (ls' := [(3, .inl (s105.2 + 1)), (0, .inr (.inr (.inl k0))), (1, .inr (.inl z39.1))]) (st' := []) rfl ?_
      exact J_sub (ls' := [(0, .inr (.inr (.inl k0))), (1, .inr (.inl z39.1)), (3, .inl (s105.2 + 1))]) [1, 2, 0] rfl (hN ((z39.1, s105.2 + 1), z39.2) (Option.some.inj h).symm)
def f_X6_digest_b195 (k0 : Option Nat) (k3 : Int32) (s195 : Int64 × Int32) (ah : AH) : Option ((Unit × AH) ⊕ (((Int64) × AH) ⊕ ((Int64 × Int32) × AH))) :=
  (gR ah k0 6 9).bind fun v49 => (gA ah v49 k3).bind fun v51 => if v51 ≤ s195.2 then (some (.inr (.inl (s195.1, ah)))) else ((gR ah k0 6 10).bind fun v53 => (gA ah v53 ((60 * k3) + s195.2)).bind fun v55 => some (.inr (.inr (((31 * s195.1) + (Int32.toInt64 v55), s195.2 + 1), ah))))
set_option maxRecDepth 100000 in
set_option maxHeartbeats 4000000 in
theorem k_X6_digest_b195 {l : Launch} {g : GX} (d : Nat) {Q : jQ} {k0 : Option Nat} {k3 : Int32} (s195 : Int64 × Int32) (ah : AH) (out : (Unit × AH) ⊕ (((Int64) × AH) ⊕ ((Int64 × Int32) × AH))) (h : f_X6_digest_b195 k0 k3 s195 ah = some out) (hR : ∀ q, out = .inl q → jRetN q.1 q.2) (hX : ∀ q, out = .inr (.inl q) → J l g md_X6_digest (jRm (d + 3) md_X6_digest) Q 232 [(0, .inr (.inr (.inl k0))), (1, .inr (.inl q.1)), (3, .inl k3)] [] q.2 (0, 0)) (hN : ∀ q, out = .inr (.inr q) → J l g md_X6_digest (jRm (d + 3) md_X6_digest) Q 195 [(0, .inr (.inr (.inl k0))), (1, .inr (.inl q.1.1)), (3, .inl k3), (4, .inl q.1.2)] [] q.2 (0, 0)) : J l g md_X6_digest (jRm (d + 3) md_X6_digest) Q 195 [(0, .inr (.inr (.inl k0))), (1, .inr (.inl s195.1)), (3, .inl k3), (4, .inl s195.2)] [] ah (0, 0) := by
  unfold f_X6_digest_b195 at h
  refine J_seg ok_X6_digest 121 2 (pc' := 198) (ls' := [(0, .inr (.inr (.inl k0))), (1, .inr (.inl s195.1)), (3, .inl k3), (4, .inl s195.2)]) (st' := [.inr (.inr (.inl k0)), .inl s195.2]) rfl ?_
  obtain ⟨v49, h50, h⟩ := Option.bind_eq_some_iff.mp h
  refine J_getR (jat ok_X6_digest 123 (pc := 198) (i := .getfield 31) (n := 3) rfl rfl) fl_RX6_31 h50 ?_
  refine J_seg ok_X6_digest 124 1 (pc' := 202) (ls' := [(0, .inr (.inr (.inl k0))), (1, .inr (.inl s195.1)), (3, .inl k3), (4, .inl s195.2)]) (st' := [.inl k3, .inr (.inr (.inl v49)), .inl s195.2]) rfl ?_
  obtain ⟨v51, h52, h⟩ := Option.bind_eq_some_iff.mp h
  refine J_iald (jat ok_X6_digest 125 (pc := 202) (i := .iaload) (n := 1) rfl rfl) h52 ?_
  refine J_ge (jat ok_X6_digest 126 (pc := 203) (i := .if_icmp .ge 29) (n := 3) rfl rfl) (tgt := 232) (by decide) (fun c => ?_) (fun c => ?_)
  · have h := (if_pos c).symm.trans h
    exact J_sub (ls' := [(0, .inr (.inr (.inl k0))), (1, .inr (.inl s195.1)), (3, .inl k3)]) [0, 1, 2] rfl (hX (s195.1, ah) (Option.some.inj h).symm)
  · have h := (if_neg c).symm.trans h
    refine J_ldc2 (jat ok_X6_digest 127 (pc := 206) (i := .ldc2_w 300) (n := 3) rfl rfl) lc_RX6_300 ?_
    refine J_seg ok_X6_digest 128 3 (pc' := 212) (ls' := [(0, .inr (.inr (.inl k0))), (1, .inr (.inl s195.1)), (3, .inl k3), (4, .inl s195.2)]) (st' := [.inr (.inr (.inl k0)), .inr (.inl (31 * s195.1))]) rfl ?_
    obtain ⟨v53, h54, h⟩ := Option.bind_eq_some_iff.mp h
    refine J_getR (jat ok_X6_digest 131 (pc := 212) (i := .getfield 34) (n := 3) rfl rfl) fl_RX6_34 h54 ?_
    refine J_seg ok_X6_digest 132 5 (pc' := 222) (ls' := [(0, .inr (.inr (.inl k0))), (1, .inr (.inl s195.1)), (3, .inl k3), (4, .inl s195.2)]) (st' := [.inl ((60 * k3) + s195.2), .inr (.inr (.inl v53)), .inr (.inl (31 * s195.1))]) rfl ?_
    obtain ⟨v55, h56, h⟩ := Option.bind_eq_some_iff.mp h
    refine J_iald (jat ok_X6_digest 137 (pc := 222) (i := .iaload) (n := 1) rfl rfl) h56 ?_
    refine J_seg ok_X6_digest 138 5 (pc' := 195) (ls' := [(4, .inl (s195.2 + 1)), (1, .inr (.inl ((31 * s195.1) + (Int32.toInt64 v55)))), (0, .inr (.inr (.inl k0))), (3, .inl k3)]) (st' := []) rfl ?_
    exact J_sub (ls' := [(0, .inr (.inr (.inl k0))), (1, .inr (.inl ((31 * s195.1) + (Int32.toInt64 v55)))), (3, .inl k3), (4, .inl (s195.2 + 1))]) [2, 1, 3, 0] rfl (hN (((31 * s195.1) + (Int32.toInt64 v55), s195.2 + 1), ah) (Option.some.inj h).symm)
def f_X6_digest_b173 (k0 : Option Nat) (s173 : Int64 × Int32) (ah : AH) : Option ((Unit × AH) ⊕ (((Int64) × AH) ⊕ ((Int64 × Int32) × AH))) :=
  if 4 ≤ s173.2 then (some (.inr (.inl (s173.1, ah)))) else ((gR ah k0 6 9).bind fun v45 => (gA ah v45 s173.2).bind fun v47 => (jloop (f_X6_digest_b195 k0 s173.2) jfuel ((31 * s173.1) + (Int32.toInt64 v47), 0) ah).bind fun q57 => match q57 with | .inl r => none | .inr z59 => some (.inr (.inr ((z59.1, s173.2 + 1), z59.2))))
set_option maxRecDepth 100000 in
set_option maxHeartbeats 4000000 in
theorem k_X6_digest_b173 {l : Launch} {g : GX} (d : Nat) {Q : jQ} {k0 : Option Nat} (s173 : Int64 × Int32) (ah : AH) (out : (Unit × AH) ⊕ (((Int64) × AH) ⊕ ((Int64 × Int32) × AH))) (h : f_X6_digest_b173 k0 s173 ah = some out) (hR : ∀ q, out = .inl q → jRetN q.1 q.2) (hX : ∀ q, out = .inr (.inl q) → J l g md_X6_digest (jRm (d + 3) md_X6_digest) Q 238 [(1, .inr (.inl q.1))] [] q.2 (0, 0)) (hN : ∀ q, out = .inr (.inr q) → J l g md_X6_digest (jRm (d + 3) md_X6_digest) Q 173 [(0, .inr (.inr (.inl k0))), (1, .inr (.inl q.1.1)), (3, .inl q.1.2)] [] q.2 (0, 0)) : J l g md_X6_digest (jRm (d + 3) md_X6_digest) Q 173 [(0, .inr (.inr (.inl k0))), (1, .inr (.inl s173.1)), (3, .inl s173.2)] [] ah (0, 0) := by
  unfold f_X6_digest_b173 at h
  refine J_seg ok_X6_digest 106 2 (pc' := 175) (ls' := [(0, .inr (.inr (.inl k0))), (1, .inr (.inl s173.1)), (3, .inl s173.2)]) (st' := [.inl 4, .inl s173.2]) rfl ?_
  refine J_ge (jat ok_X6_digest 108 (pc := 175) (i := .if_icmp .ge 63) (n := 3) rfl rfl) (tgt := 238) (by decide) (fun c => ?_) (fun c => ?_)
  · have h := (if_pos c).symm.trans h
    exact J_sub (ls' := [(1, .inr (.inl s173.1))]) [1] rfl (hX (s173.1, ah) (Option.some.inj h).symm)
  · have h := (if_neg c).symm.trans h
    refine J_ldc2 (jat ok_X6_digest 109 (pc := 178) (i := .ldc2_w 300) (n := 3) rfl rfl) lc_RX6_300 ?_
    refine J_seg ok_X6_digest 110 3 (pc' := 184) (ls' := [(0, .inr (.inr (.inl k0))), (1, .inr (.inl s173.1)), (3, .inl s173.2)]) (st' := [.inr (.inr (.inl k0)), .inr (.inl (31 * s173.1))]) rfl ?_
    obtain ⟨v45, h46, h⟩ := Option.bind_eq_some_iff.mp h
    refine J_getR (jat ok_X6_digest 113 (pc := 184) (i := .getfield 31) (n := 3) rfl rfl) fl_RX6_31 h46 ?_
    refine J_seg ok_X6_digest 114 1 (pc' := 188) (ls' := [(0, .inr (.inr (.inl k0))), (1, .inr (.inl s173.1)), (3, .inl s173.2)]) (st' := [.inl s173.2, .inr (.inr (.inl v45)), .inr (.inl (31 * s173.1))]) rfl ?_
    obtain ⟨v47, h48, h⟩ := Option.bind_eq_some_iff.mp h
    refine J_iald (jat ok_X6_digest 115 (pc := 188) (i := .iaload) (n := 1) rfl rfl) h48 ?_
    refine J_seg ok_X6_digest 116 5 (pc' := 195) (ls' := [(4, .inl 0), (1, .inr (.inl ((31 * s173.1) + (Int32.toInt64 v47)))), (0, .inr (.inr (.inl k0))), (3, .inl s173.2)]) (st' := []) rfl ?_
    obtain ⟨q57, h58, h⟩ := Option.bind_eq_some_iff.mp h
    refine J_sub (ls' := [(0, .inr (.inr (.inl k0))), (1, .inr (.inl ((31 * s173.1) + (Int32.toInt64 v47)))), (3, .inl s173.2), (4, .inl 0)]) [2, 1, 3, 0] rfl ?_
    refine J_loop (pE := 232) (lh := fun t60 => [(0, .inr (.inr (.inl k0))), (1, .inr (.inl t60.1)), (3, .inl s173.2), (4, .inl t60.2)]) (lx := fun z59 => [(0, .inr (.inr (.inl k0))), (1, .inr (.inl z59)), (3, .inl s173.2)]) (P := jRetN) (fun s ah out hb hR hX hN => k_X6_digest_b195 d s ah out hb hR hX hN) jfuel ((31 * s173.1) + (Int32.toInt64 v47), 0) _ _ h58 (fun r e => ?_) (fun z59 e => ?_)
    · subst e
      dsimp only at h
      cases h
    · subst e
      dsimp only at h
      refine J_seg ok_X6_digest 143 2 (pc' := 173) (ls' := [(3, .inl (s173.2 + 1)), (0, .inr (.inr (.inl k0))), (1, .inr (.inl z59.1))]) (st' := []) rfl ?_
      exact J_sub (ls' := [(0, .inr (.inr (.inl k0))), (1, .inr (.inl z59.1)), (3, .inl (s173.2 + 1))]) [1, 2, 0] rfl (hN ((z59.1, s173.2 + 1), z59.2) (Option.some.inj h).symm)
def f_X6_digest (x0 : Option Nat) (ah : AH) : Option (Int64 × AH) :=
  (jloop (f_X6_digest_b6 x0) jfuel (17, 0) ah).bind fun q4 => match q4 with | .inl r => none | .inr z6 => (jloop (f_X6_digest_b33 x0) jfuel (z6.1, 0) z6.2).bind fun q13 => match q13 with | .inl r => none | .inr z15 => (jloop (f_X6_digest_b72 x0) jfuel (z15.1, 1) z15.2).bind fun q21 => match q21 with | .inl r => none | .inr z23 => (jloop (f_X6_digest_b105 x0) jfuel (z23.1, 0) z23.2).bind fun q41 => match q41 with | .inl r => none | .inr z43 => (jloop (f_X6_digest_b173 x0) jfuel (z43.1, 0) z43.2).bind fun q61 => match q61 with | .inl r => none | .inr z63 => some (z63.1, z63.2)
set_option maxRecDepth 100000 in
set_option maxHeartbeats 4000000 in
theorem k_X6_digest {l : Launch} {g : GX} (d : Nat) {Q : jQ} {x0 : Option Nat} (ah : AH) (out : Int64 × AH) (h : f_X6_digest x0 ah = some out) (hR : jRetL l g md_X6_digest (jRm (d + 3) md_X6_digest) Q (0, 0) out.1 out.2) : J l g md_X6_digest (jRm (d + 3) md_X6_digest) Q 0 [(0, .inr (.inr (.inl x0)))] [] ah (0, 0) := by
  unfold f_X6_digest at h
  refine J_ldc2 (jat ok_X6_digest 0 (pc := 0) (i := .ldc2_w 298) (n := 3) rfl rfl) lc_RX6_298 ?_
  refine J_seg ok_X6_digest 1 3 (pc' := 6) (ls' := [(3, .inl 0), (1, .inr (.inl 17)), (0, .inr (.inr (.inl x0)))]) (st' := []) rfl ?_
  obtain ⟨q4, h5, h⟩ := Option.bind_eq_some_iff.mp h
  refine J_sub (ls' := [(0, .inr (.inr (.inl x0))), (1, .inr (.inl 17)), (3, .inl 0)]) [2, 1, 0] rfl ?_
  refine J_loop (pE := 31) (lh := fun t7 => [(0, .inr (.inr (.inl x0))), (1, .inr (.inl t7.1)), (3, .inl t7.2)]) (lx := fun z6 => [(0, .inr (.inr (.inl x0))), (1, .inr (.inl z6))]) (P := jRetN) (fun s ah out hb hR hX hN => k_X6_digest_b6 d s ah out hb hR hX hN) jfuel (17, 0) _ _ h5 (fun r e => ?_) (fun z6 e => ?_)
  · subst e
    dsimp only at h
    cases h
  · subst e
    dsimp only at h
    refine J_seg ok_X6_digest 18 2 (pc' := 33) (ls' := [(3, .inl 0), (0, .inr (.inr (.inl x0))), (1, .inr (.inl z6.1))]) (st' := []) rfl ?_
    obtain ⟨q13, h14, h⟩ := Option.bind_eq_some_iff.mp h
    refine J_sub (ls' := [(0, .inr (.inr (.inl x0))), (1, .inr (.inl z6.1)), (3, .inl 0)]) [1, 2, 0] rfl ?_
    refine J_loop (pE := 70) (lh := fun t16 => [(0, .inr (.inr (.inl x0))), (1, .inr (.inl t16.1)), (3, .inl t16.2)]) (lx := fun z15 => [(0, .inr (.inr (.inl x0))), (1, .inr (.inl z15))]) (P := jRetN) (fun s ah out hb hR hX hN => k_X6_digest_b33 d s ah out hb hR hX hN) jfuel (z6.1, 0) _ _ h14 (fun r e => ?_) (fun z15 e => ?_)
    · subst e
      dsimp only at h
      cases h
    · subst e
      dsimp only at h
      refine J_seg ok_X6_digest 42 2 (pc' := 72) (ls' := [(3, .inl 1), (0, .inr (.inr (.inl x0))), (1, .inr (.inl z15.1))]) (st' := []) rfl ?_
      obtain ⟨q21, h22, h⟩ := Option.bind_eq_some_iff.mp h
      refine J_sub (ls' := [(0, .inr (.inr (.inl x0))), (1, .inr (.inl z15.1)), (3, .inl 1)]) [1, 2, 0] rfl ?_
      refine J_loop (pE := 103) (lh := fun t24 => [(0, .inr (.inr (.inl x0))), (1, .inr (.inl t24.1)), (3, .inl t24.2)]) (lx := fun z23 => [(0, .inr (.inr (.inl x0))), (1, .inr (.inl z23))]) (P := jRetN) (fun s ah out hb hR hX hN => k_X6_digest_b72 d s ah out hb hR hX hN) jfuel (z15.1, 1) _ _ h22 (fun r e => ?_) (fun z23 e => ?_)
      · subst e
        dsimp only at h
        cases h
      · subst e
        dsimp only at h
        refine J_seg ok_X6_digest 63 2 (pc' := 105) (ls' := [(3, .inl 0), (0, .inr (.inr (.inl x0))), (1, .inr (.inl z23.1))]) (st' := []) rfl ?_
        obtain ⟨q41, h42, h⟩ := Option.bind_eq_some_iff.mp h
        refine J_sub (ls' := [(0, .inr (.inr (.inl x0))), (1, .inr (.inl z23.1)), (3, .inl 0)]) [1, 2, 0] rfl ?_
        refine J_loop (pE := 171) (lh := fun t44 => [(0, .inr (.inr (.inl x0))), (1, .inr (.inl t44.1)), (3, .inl t44.2)]) (lx := fun z43 => [(0, .inr (.inr (.inl x0))), (1, .inr (.inl z43))]) (P := jRetN) (fun s ah out hb hR hX hN => k_X6_digest_b105 d s ah out hb hR hX hN) jfuel (z23.1, 0) _ _ h42 (fun r e => ?_) (fun z43 e => ?_)
        · subst e
          dsimp only at h
          cases h
        · subst e
          dsimp only at h
          refine J_seg ok_X6_digest 104 2 (pc' := 173) (ls' := [(3, .inl 0), (0, .inr (.inr (.inl x0))), (1, .inr (.inl z43.1))]) (st' := []) rfl ?_
          obtain ⟨q61, h62, h⟩ := Option.bind_eq_some_iff.mp h
          refine J_sub (ls' := [(0, .inr (.inr (.inl x0))), (1, .inr (.inl z43.1)), (3, .inl 0)]) [1, 2, 0] rfl ?_
          refine J_loop (pE := 238) (lh := fun t64 => [(0, .inr (.inr (.inl x0))), (1, .inr (.inl t64.1)), (3, .inl t64.2)]) (lx := fun z63 => [(1, .inr (.inl z63))]) (P := jRetN) (fun s ah out hb hR hX hN => k_X6_digest_b173 d s ah out hb hR hX hN) jfuel (z43.1, 0) _ _ h62 (fun r e => ?_) (fun z63 e => ?_)
          · subst e
            dsimp only at h
            cases h
          · subst e
            dsimp only at h
            refine J_seg ok_X6_digest 145 1 (pc' := 239) (ls' := [(1, .inr (.inl z63.1))]) (st' := [.inr (.inl z63.1)]) rfl ?_
            have h := Option.some.inj h
            subst h
            exact hR _ _ (jat ok_X6_digest 146 (pc := 239) (i := .lreturn) (n := 1) rfl rfl)
theorem c_X6_digest (l : Launch) (g : GX) (d : Nat) {x0 : Option Nat} {ah : AH} {q : Int64 × AH} (h : f_X6_digest x0 ah = some q) : jM l g (d + 3) md_X6_digest [.inr (.inr (.inl x0))] ah (some (.inr (.inl q.1))) q.2 :=
  jM_of (by decide) (Nat.le_of_ble_eq_true rfl) (k_X6_digest d ah q h (fun pc ls hd => J_retl hd rfl rfl (Nat.le_refl _) rfl rfl))
