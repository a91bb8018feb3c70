/-! ===== branches, division, constants, making, calls, returns ===== -/
section
variable {l : Launch} {g : GX} {md : MD} {R : Room} {Q : jQ} {pc : Nat} {ls : List (Nat × AV)} {st : List AV} {ah : AH} {cs : Nat × Nat}
theorem J_eq0 {x : Int32} {off : Int} {tgt : Nat} (hd : decode md.2.1 pc = .ok (.ifCond .eq off, 3)) (ht : (pc : Int) + off = (tgt : Int)) (kt : x = 0 → J l g md R Q tgt ls st ah cs) (kf : ¬ x = 0 → J l g md R Q (pc + 3) ls st ah cs) : J l g md R Q pc ls (.inl x :: st) ah cs := fun p e s m args below meth cd H locs la hC hz hP hS hl =>
  lv_if_eq hC.1 hC.2.1 hd ht (fun c => kt c p e s m args below meth cd H locs la hC hz hP hS hl) (fun c => kf c p e s m args below meth cd H locs la hC hz hP hS hl)
theorem J_ne0 {x : Int32} {off : Int} {tgt : Nat} (hd : decode md.2.1 pc = .ok (.ifCond .ne off, 3)) (ht : (pc : Int) + off = (tgt : Int)) (kt : ¬ x = 0 → J l g md R Q tgt ls st ah cs) (kf : x = 0 → J l g md R Q (pc + 3) ls st ah cs) : J l g md R Q pc ls (.inl x :: st) ah cs := fun p e s m args below meth cd H locs la hC hz hP hS hl =>
  lv_if_ne hC.1 hC.2.1 hd ht (fun c => kt c p e s m args below meth cd H locs la hC hz hP hS hl) (fun c => kf c p e s m args below meth cd H locs la hC hz hP hS hl)
theorem J_lt0 {x : Int32} {off : Int} {tgt : Nat} (hd : decode md.2.1 pc = .ok (.ifCond .lt off, 3)) (ht : (pc : Int) + off = (tgt : Int)) (kt : x < 0 → J l g md R Q tgt ls st ah cs) (kf : ¬ x < 0 → J l g md R Q (pc + 3) ls st ah cs) : J l g md R Q pc ls (.inl x :: st) ah cs := fun p e s m args below meth cd H locs la hC hz hP hS hl =>
  lv_if_lt hC.1 hC.2.1 hd ht (fun c => kt c p e s m args below meth cd H locs la hC hz hP hS hl) (fun c => kf c p e s m args below meth cd H locs la hC hz hP hS hl)
theorem J_ge0 {x : Int32} {off : Int} {tgt : Nat} (hd : decode md.2.1 pc = .ok (.ifCond .ge off, 3)) (ht : (pc : Int) + off = (tgt : Int)) (kt : 0 ≤ x → J l g md R Q tgt ls st ah cs) (kf : ¬ 0 ≤ x → J l g md R Q (pc + 3) ls st ah cs) : J l g md R Q pc ls (.inl x :: st) ah cs := fun p e s m args below meth cd H locs la hC hz hP hS hl =>
  lv_if_ge hC.1 hC.2.1 hd ht (fun c => kt c p e s m args below meth cd H locs la hC hz hP hS hl) (fun c => kf c p e s m args below meth cd H locs la hC hz hP hS hl)
theorem J_gt0 {x : Int32} {off : Int} {tgt : Nat} (hd : decode md.2.1 pc = .ok (.ifCond .gt off, 3)) (ht : (pc : Int) + off = (tgt : Int)) (kt : 0 < x → J l g md R Q tgt ls st ah cs) (kf : ¬ 0 < x → J l g md R Q (pc + 3) ls st ah cs) : J l g md R Q pc ls (.inl x :: st) ah cs := fun p e s m args below meth cd H locs la hC hz hP hS hl =>
  lv_if_gt hC.1 hC.2.1 hd ht (fun c => kt c p e s m args below meth cd H locs la hC hz hP hS hl) (fun c => kf c p e s m args below meth cd H locs la hC hz hP hS hl)
theorem J_le0 {x : Int32} {off : Int} {tgt : Nat} (hd : decode md.2.1 pc = .ok (.ifCond .le off, 3)) (ht : (pc : Int) + off = (tgt : Int)) (kt : x ≤ 0 → J l g md R Q tgt ls st ah cs) (kf : ¬ x ≤ 0 → J l g md R Q (pc + 3) ls st ah cs) : J l g md R Q pc ls (.inl x :: st) ah cs := fun p e s m args below meth cd H locs la hC hz hP hS hl =>
  lv_if_le hC.1 hC.2.1 hd ht (fun c => kt c p e s m args below meth cd H locs la hC hz hP hS hl) (fun c => kf c p e s m args below meth cd H locs la hC hz hP hS hl)
theorem J_eq {x y : Int32} {off : Int} {tgt : Nat} (hd : decode md.2.1 pc = .ok (.if_icmp .eq off, 3)) (ht : (pc : Int) + off = (tgt : Int)) (kt : x = y → J l g md R Q tgt ls st ah cs) (kf : ¬ x = y → J l g md R Q (pc + 3) ls st ah cs) : J l g md R Q pc ls (.inl y :: .inl x :: st) ah cs := fun p e s m args below meth cd H locs la hC hz hP hS hl =>
  lv_icmp_eq hC.1 hC.2.1 hd ht (fun c => kt c p e s m args below meth cd H locs la hC hz hP hS hl) (fun c => kf c p e s m args below meth cd H locs la hC hz hP hS hl)
theorem J_ne {x y : Int32} {off : Int} {tgt : Nat} (hd : decode md.2.1 pc = .ok (.if_icmp .ne off, 3)) (ht : (pc : Int) + off = (tgt : Int)) (kt : ¬ x = y → J l g md R Q tgt ls st ah cs) (kf : x = y → J l g md R Q (pc + 3) ls st ah cs) : J l g md R Q pc ls (.inl y :: .inl x :: st) ah cs := fun p e s m args below meth cd H locs la hC hz hP hS hl =>
  lv_icmp_ne hC.1 hC.2.1 hd ht (fun c => kt c p e s m args below meth cd H locs la hC hz hP hS hl) (fun c => kf c p e s m args below meth cd H locs la hC hz hP hS hl)
theorem J_lt {x y : Int32} {off : Int} {tgt : Nat} (hd : decode md.2.1 pc = .ok (.if_icmp .lt off, 3)) (ht : (pc : Int) + off = (tgt : Int)) (kt : x < y → J l g md R Q tgt ls st ah cs) (kf : ¬ x < y → J l g md R Q (pc + 3) ls st ah cs) : J l g md R Q pc ls (.inl y :: .inl x :: st) ah cs := fun p e s m args below meth cd H locs la hC hz hP hS hl =>
  lv_icmp_lt hC.1 hC.2.1 hd ht (fun c => kt c p e s m args below meth cd H locs la hC hz hP hS hl) (fun c => kf c p e s m args below meth cd H locs la hC hz hP hS hl)
theorem J_ge {x y : Int32} {off : Int} {tgt : Nat} (hd : decode md.2.1 pc = .ok (.if_icmp .ge off, 3)) (ht : (pc : Int) + off = (tgt : Int)) (kt : y ≤ x → J l g md R Q tgt ls st ah cs) (kf : ¬ y ≤ x → J l g md R Q (pc + 3) ls st ah cs) : J l g md R Q pc ls (.inl y :: .inl x :: st) ah cs := fun p e s m args below meth cd H locs la hC hz hP hS hl =>
  lv_icmp_ge hC.1 hC.2.1 hd ht (fun c => kt c p e s m args below meth cd H locs la hC hz hP hS hl) (fun c => kf c p e s m args below meth cd H locs la hC hz hP hS hl)
theorem J_gt {x y : Int32} {off : Int} {tgt : Nat} (hd : decode md.2.1 pc = .ok (.if_icmp .gt off, 3)) (ht : (pc : Int) + off = (tgt : Int)) (kt : y < x → J l g md R Q tgt ls st ah cs) (kf : ¬ y < x → J l g md R Q (pc + 3) ls st ah cs) : J l g md R Q pc ls (.inl y :: .inl x :: st) ah cs := fun p e s m args below meth cd H locs la hC hz hP hS hl =>
  lv_icmp_gt hC.1 hC.2.1 hd ht (fun c => kt c p e s m args below meth cd H locs la hC hz hP hS hl) (fun c => kf c p e s m args below meth cd H locs la hC hz hP hS hl)
theorem J_le {x y : Int32} {off : Int} {tgt : Nat} (hd : decode md.2.1 pc = .ok (.if_icmp .le off, 3)) (ht : (pc : Int) + off = (tgt : Int)) (kt : x ≤ y → J l g md R Q tgt ls st ah cs) (kf : ¬ x ≤ y → J l g md R Q (pc + 3) ls st ah cs) : J l g md R Q pc ls (.inl y :: .inl x :: st) ah cs := fun p e s m args below meth cd H locs la hC hz hP hS hl =>
  lv_icmp_le hC.1 hC.2.1 hd ht (fun c => kt c p e s m args below meth cd H locs la hC hz hP hS hl) (fun c => kf c p e s m args below meth cd H locs la hC hz hP hS hl)
theorem J_null {o : Option Nat} {off : Int} {tgt : Nat} (hd : decode md.2.1 pc = .ok (.ifnull off, 3)) (ht : (pc : Int) + off = (tgt : Int)) (kt : o = none → J l g md R Q tgt ls st ah cs) (kf : ¬ o = none → J l g md R Q (pc + 3) ls st ah cs) : J l g md R Q pc ls (.inr (.inr (.inl o)) :: st) ah cs := by
  intro p e s m args below meth cd H locs la hC hz hP hS hl
  cases o with
  | none => exact lv_ifnullN hC.1 hC.2.1 hd ht (kt rfl p e s m args below meth cd H locs la hC hz hP hS hl)
  | some a => exact lv_ifnull hC.1 hC.2.1 hd (kf (by simp) p e s m args below meth cd H locs la hC hz hP hS hl)
theorem J_nonnull {o : Option Nat} {off : Int} {tgt : Nat} (hd : decode md.2.1 pc = .ok (.ifnonnull off, 3)) (ht : (pc : Int) + off = (tgt : Int)) (kt : ¬ o = none → J l g md R Q tgt ls st ah cs) (kf : o = none → J l g md R Q (pc + 3) ls st ah cs) : J l g md R Q pc ls (.inr (.inr (.inl o)) :: st) ah cs := by
  intro p e s m args below meth cd H locs la hC hz hP hS hl
  cases o with
  | none => exact lv_ifnonnullN hC.1 hC.2.1 hd (kf rfl p e s m args below meth cd H locs la hC hz hP hS hl)
  | some a => exact lv_ifnonnull hC.1 hC.2.1 hd ht (kt (by simp) p e s m args below meth cd H locs la hC hz hP hS hl)
theorem J_tabIn {dflt lo hi : Int} {offs : Array Int} {len : Nat} {x : Int32} {off : Int} {tgt : Nat} (hd : decode md.2.1 pc = .ok (.tableswitch dflt lo hi offs, len)) (h1 : ¬ x.toInt < lo) (h2 : ¬ hi < x.toInt) (ho : offs[(x.toInt - lo).toNat]? = some off) (ht : (pc : Int) + off = (tgt : Int)) (k : J l g md R Q tgt ls st ah cs) : J l g md R Q pc ls (.inl x :: st) ah cs := fun p e s m args below meth cd H locs la hC hz hP hS hl =>
  lv_tableIn hC.1 hC.2.1 hd h1 h2 ho ht (k p e s m args below meth cd H locs la hC hz hP hS hl)
theorem J_tabOut {dflt lo hi : Int} {offs : Array Int} {len : Nat} {x : Int32} {tgt : Nat} (hd : decode md.2.1 pc = .ok (.tableswitch dflt lo hi offs, len)) (h : x.toInt < lo ∨ hi < x.toInt) (ht : (pc : Int) + dflt = (tgt : Int)) (k : J l g md R Q tgt ls st ah cs) : J l g md R Q pc ls (.inl x :: st) ah cs := fun p e s m args below meth cd H locs la hC hz hP hS hl =>
  lv_tableOut hC.1 hC.2.1 hd h ht (k p e s m args below meth cd H locs la hC hz hP hS hl)
theorem J_idiv {x y : Int32} (hd : decode md.2.1 pc = .ok (.idiv, 1)) (hy : ¬ y = 0) (k : J l g md R Q (pc + 1) ls (.inl (x / y) :: st) ah cs) : J l g md R Q pc ls (.inl y :: .inl x :: st) ah cs := fun p e s m args below meth cd H locs la hC hz hP hS hl =>
  lv_idiv hC.1 hC.2.1 hd hy (k p e s m args below meth cd H locs la hC hz hP hS hl)
theorem J_irem {x y : Int32} (hd : decode md.2.1 pc = .ok (.irem, 1)) (hy : ¬ y = 0) (k : J l g md R Q (pc + 1) ls (.inl (x - x / y * y) :: st) ah cs) : J l g md R Q pc ls (.inl y :: .inl x :: st) ah cs := fun p e s m args below meth cd H locs la hC hz hP hS hl =>
  lv_irem hC.1 hC.2.1 hd hy (k p e s m args below meth cd H locs la hC hz hP hS hl)
theorem J_ldiv {x y : Int64} (hd : decode md.2.1 pc = .ok (.ldiv, 1)) (hy : ¬ y = 0) (k : J l g md R Q (pc + 1) ls (.inr (.inl (x / y)) :: st) ah cs) : J l g md R Q pc ls (.inr (.inl y) :: .inr (.inl x) :: st) ah cs := fun p e s m args below meth cd H locs la hC hz hP hS hl =>
  lv_ldiv hC.1 hC.2.1 hd hy (k p e s m args below meth cd H locs la hC hz hP hS hl)
theorem J_lrem {x y : Int64} (hd : decode md.2.1 pc = .ok (.lrem, 1)) (hy : ¬ y = 0) (k : J l g md R Q (pc + 1) ls (.inr (.inl (x - x / y * y)) :: st) ah cs) : J l g md R Q pc ls (.inr (.inl y) :: .inr (.inl x) :: st) ah cs := fun p e s m args below meth cd H locs la hC hz hP hS hl =>
  lv_lrem hC.1 hC.2.1 hd hy (k p e s m args below meth cd H locs la hC hz hP hS hl)
theorem J_ldc2 {idx : Nat} {v : Int64} (hd : decode md.2.1 pc = .ok (.ldc2_w idx, 3)) (hc : Cond.constantLong md.1.cls idx v ∈ jBG) (k : J l g md R Q (pc + 3) ls (.inr (.inl v) :: st) ah cs) : J l g md R Q pc ls st ah cs := fun p e s m args below meth cd H locs la hC hz hP hS hl =>
  lv_ldc2 hC.1 hC.2.1 hC.2.2.2.2.1 (hC.2.2.2.2.2.1 _ hc) hd (k p e s m args below meth cd H locs la hC hz hP hS hl)
theorem J_ldcw {idx : Nat} {v : Int32} (hd : decode md.2.1 pc = .ok (.ldc_w idx, 3)) (hc : Cond.constant md.1.cls idx v ∈ jBG) (k : J l g md R Q (pc + 3) ls (.inl v :: st) ah cs) : J l g md R Q pc ls st ah cs := fun p e s m args below meth cd H locs la hC hz hP hS hl =>
  lv_ldcw hC.1 hC.2.1 hC.2.2.2.2.1 (hC.2.2.2.2.2.1 _ hc) hd (k p e s m args below meth cd H locs la hC hz hP hS hl)
/-! making -/
theorem jnew_q {s : State} {H1 : Heap} {x : va_E} {q n : Nat} (hN : jN g ≤ s.heap.size) (hz : s.heap.size + n = jN g + ah.length) (hP1 : va_P (jD g) jj_cl (jw g ah ++ [(q, x)]) H1) (hD1 : va_D (jA g) (jw g ah ++ [(q, x)])) (hs : H1.size ≤ s.heap.size + (n + 1)) : q = jN g + ah.length := by
  have h1 : (jw g ah ++ [(q, x)])[ah.length]? = some (q, x) := by
    rw [List.getElem?_append_right (by rw [jw_len]; exact Nat.le_refl _), jw_len, Nat.sub_self]
    rfl
  have h2 : q < H1.size := (hP1 _ _ h1).lt
  have h3 : jN g ≤ q := hD1.2 _ _ h1
  rcases Nat.lt_or_ge q (jN g + ah.length) with h4 | h4
  · have h5 : q - jN g < (jw g ah).length := by rw [jw_len]; omega
    have h6 : (jw g ah)[q - jN g]? = some ((jw g ah)[q - jN g]) := List.getElem?_eq_getElem h5
    have h7 := (jw_inv h6).1
    have h8 : (jw g ah ++ [(q, x)])[q - jN g]? = some ((jw g ah)[q - jN g]) := by rw [List.getElem?_append_left h5]; exact h6
    have h9 := hD1.1 _ _ _ _ h8 h1 (by rw [h7]; show jN g + (q - jN g) = q; omega)
    omega
  · omega
theorem J_new {c idx N : Nat} {C : String} {T : u_T} {fs : List AV} {cs' : Nat × Nat} (hd : decode md.2.1 pc = .ok (.new idx, 3)) (hc : jj_cl[c]? = some (C, T, N)) (hw : Cond.classLink md.1.cls idx C ∈ jBG) (hi : Cond.instantiable C N ∈ jBG) (hn : Cond.initialized C ∈ jBG) (ty0 : Nat → FieldType) (hty : ∀ k, k < N → parseFieldDescriptor (T k).2.2.1 = some (ty0 k)) (hfs : ∀ j, j < N → ∀ g : GX, defaultValue (ty0 j) = vp_V (fs.map (jcv g)) j)
    (hcs : cs' = (cs.1 + 1, cs.2 + N)) (hr : cs.1 + 1 ≤ R.cells ∧ cs.2 + N ≤ R.slots) (k : J l g md R Q (pc + 3) ls (.inr (.inr (.inl (some ah.length))) :: st) (ah ++ [.inr (.inr (c, fs))]) cs') : J l g md R Q pc ls st ah cs := by
  intro p e s m args below meth cd H locs la hC hz hP hS hl
  have hC0 := hC
  obtain ⟨hx, hb, hr0, hml, hown, hts, hlk, hnm, hK, hAm, hN⟩ := hC
  subst hcs
  refine va_new (ci := c) (fs := fs.map (jcv g)) hx hb hts (jPt_all hc).1 ty0 hty hown (hts _ hw) (hts _ hi) (hts _ hn) hK hP (jw_D g ah) hS (fun q h => Nat.le_trans hN h) hc (fun j hj => hfs j hj g) hr.1 hr.2 hd (fun q H1 hP1 hD1 hS1 => ?_)
  intro T1 hT1 X1
  have hq : q = jN g + ah.length := jnew_q hN hz hP1 hD1 (by rw [← hT1]; exact X1.heapSize)
  subst hq
  refine k p e s m args below meth cd H1 locs la hC0 ?_ ?_ hS1 hl T1 hT1 X1
  · simp only [List.length_append, List.length_singleton]
    omega
  · rw [jw_app]
    exact hP1
theorem J_newA {n : Int32} {cs' : Nat × Nat} (hd : decode md.2.1 pc = .ok (.newarray .int, 2)) (hn : ¬ n < 0) (hb2 : n.toNatClampNeg ≤ 100000) (hw : Cond.arrayClass .int ∈ jBG) (hcs : cs' = (cs.1 + 1, cs.2 + n.toNatClampNeg)) (hr : cs.1 + 1 ≤ R.cells ∧ cs.2 + n.toNatClampNeg ≤ R.slots)
    (k : J l g md R Q (pc + 2) ls (.inr (.inr (.inl (some ah.length))) :: st) (ah ++ [.inl (List.replicate n.toNatClampNeg 0)]) cs') : J l g md R Q pc ls (.inl n :: st) ah cs := by
  intro p e s m args below meth cd H locs la hC hz hP hS hl
  have hC0 := hC
  obtain ⟨hx, hb, hr0, hml, hown, hts, hlk, hnm, hK, hAm, hN⟩ := hC
  subst hcs
  refine va_newa (a0 := (n.toNatClampNeg, .inl (fun _ => 0))) (atype := .int) (ty := .int) hx hb (hts _ hw) rfl hK hP (jw_D g ah) hS (fun q h => Nat.le_trans hN h) (fun cA => rfl) hn rfl (by show n.toNatClampNeg * 4 ≤ _; omega) hr.1 hr.2 hd (fun q cA H1 hK1 hP1 hD1 hS1 => ?_)
  intro T1 hT1 X1
  have hq : q = jN g + ah.length := jnew_q hN hz hP1 hD1 (by rw [← hT1]; exact X1.heapSize)
  subst hq
  have hcA : cA = (jC g).1 := by
    have h1 : s.vm.findClass ("[" ++ (FieldType.int).toString) = some cA := (hK1.2 3 (cA, .int) rfl).2
    have h2 : s.vm.findClass ("[" ++ (FieldType.int).toString) = some (jC g).1 := (hK.2 0 ((jC g).1, .int) rfl).2
    rw [h1] at h2
    exact Option.some.inj h2
  subst hcA
  refine k p e s m args below meth cd H1 locs la hC0 ?_ ?_ hS1 hl T1 hT1 X1
  · simp only [List.length_append, List.length_singleton]
    omega
  · rw [jw_app]
    have e1 : jce g (.inl (List.replicate n.toNatClampNeg 0)) = .inl ((jC g).1, n.toNatClampNeg, .inl (fun _ => 0)) := by
      have e2 : (fun j => (List.replicate n.toNatClampNeg (0 : Int32)).getD j 0) = fun _ => 0 := by
        funext j
        rw [List.getD_eq_getElem?_getD, List.getElem?_replicate]
        split <;> rfl
      simp only [jce, List.length_replicate]
      rw [e2]
    rw [e1]
    exact hP1
/-- the classes of which there are arrays -/
def jEl (t : Nat) : String := if t = 0 then "EnemyByLot$Line" else "EnemyByLot$Town"
theorem J_newE {n : Int32} {t idx : Nat} {cs' : Nat × Nat} (hd : decode md.2.1 pc = .ok (.anewarray idx, 3)) (hn : ¬ n < 0) (hb2 : n.toNatClampNeg ≤ 100000) (hw : Cond.classLink md.1.cls idx (jEl t) ∈ jBG) (hcs : cs' = (cs.1 + 1, cs.2 + n.toNatClampNeg)) (hr : cs.1 + 1 ≤ R.cells ∧ cs.2 + n.toNatClampNeg ≤ R.slots)
    (k : J l g md R Q (pc + 3) ls (.inr (.inr (.inl (some ah.length))) :: st) (ah ++ [.inr (.inl (t, List.replicate n.toNatClampNeg none))]) cs') : J l g md R Q pc ls (.inl n :: st) ah cs := by
  intro p e s m args below meth cd H locs la hC hz hP hS hl
  have hC0 := hC
  obtain ⟨hx, hb, hr0, hml, hown, hts, hlk, hnm, hK, hAm, hN⟩ := hC
  subst hcs
  have hAO : va_AO (jEl t) s := by
    unfold jEl
    split
    · exact hAm.2.2.2.2.2.2.1
    · exact hAm.2.2.2.2.2.2.2
  refine va_newq hx hb hown (hts _ hw) hAO hK hP (jw_D g ah) hS (fun q h => Nat.le_trans hN h) hn rfl (by omega) hr.1 hr.2 hd (fun q cA H1 hK1 hP1 hD1 hS1 => ?_)
  intro T1 hT1 X1
  have hq : q = jN g + ah.length := jnew_q hN hz hP1 hD1 (by rw [← hT1]; exact X1.heapSize)
  subst hq
  have hcA : cA = if t = 0 then (jC g).2.1 else (jC g).2.2 := by
    obtain ⟨_, _, _, _, _, h1⟩ := (hK1.2 3 (cA, .object (jEl t)) rfl).2
    by_cases ht : t = 0
    · subst ht
      obtain ⟨_, _, _, _, _, h2⟩ := (hK.2 1 ((jC g).2.1, .object "EnemyByLot$Line") rfl).2
      exact Option.some.inj (h1.symm.trans h2)
    · have e2 : jEl t = "EnemyByLot$Town" := if_neg ht
      rw [e2] at h1
      obtain ⟨_, _, _, _, _, h2⟩ := (hK.2 2 ((jC g).2.2, .object "EnemyByLot$Town") rfl).2
      rw [if_neg ht]
      exact Option.some.inj (h1.symm.trans h2)
  subst hcA
  refine k p e s m args below meth cd H1 locs la hC0 ?_ ?_ hS1 hl T1 hT1 X1
  · simp only [List.length_append, List.length_singleton]
    omega
  · rw [jw_app]
    have e1 : jce g (.inr (.inl (t, List.replicate n.toNatClampNeg none))) = .inl (if t = 0 then (jC g).2.1 else (jC g).2.2, n.toNatClampNeg, .inr (.inr (.inr (.inr (fun _ => none))))) := by
      have e2 : (fun j => ((List.replicate n.toNatClampNeg (none : Option Nat)).getD j none).map (fun k => jN g + k)) = fun _ => none := by
        funext j
        rw [List.getD_eq_getElem?_getD, List.getElem?_replicate]
        split <;> rfl
      simp only [jce, List.length_replicate]
      rw [e2]
    rw [e1]
    exact hP1
/-! returns -/
theorem J_reti {x : Int32} {r : Option AV} {ah' : AH} {ty : FieldType} (hd : decode md.2.1 pc = .ok (.ireturn, 1)) (hr : md.2.2.2.1 = some ty) (hv : jPV ty (.inl x)) (h1 : cs.1 = md.2.2.2.2.1) (h2 : cs.2 ≤ md.2.2.2.2.2) (e1 : r = some (.inl x)) (e2 : ah' = ah) : J l g md R (jQm g md r ah') pc ls [.inl x] ah cs := by
  subst e1; subst e2
  intro p e s m args below meth cd H locs la hC hz hP hS hl
  obtain ⟨hx, hb, hr0, hml, hown, hts, hlk, hnm, hK, hAm, hN⟩ := hC
  refine W.widen (k := md.2.2.2.2.1) (n := md.2.2.2.2.2) (by omega) h2 ?_
  exact W.zret hx hb (hr0.trans hr) (hv g).1 (fun t ht hW => ⟨rfl, ⟨by rw [ht]; exact hP, va_K.moved hW.alike hK⟩, hS.F ht, by omega⟩) (fun q hq => hS.2.2 q hq) hd
theorem J_retl {x : Int64} {r : Option AV} {ah' : AH} (hd : decode md.2.1 pc = .ok (.lreturn, 1)) (hr : md.2.2.2.1 = some .long) (h1 : cs.1 = md.2.2.2.2.1) (h2 : cs.2 ≤ md.2.2.2.2.2) (e1 : r = some (.inr (.inl x))) (e2 : ah' = ah) : J l g md R (jQm g md r ah') pc ls [.inr (.inl x)] ah cs := by
  subst e1; subst e2
  intro p e s m args below meth cd H locs la hC hz hP hS hl
  obtain ⟨hx, hb, hr0, hml, hown, hts, hlk, hnm, hK, hAm, hN⟩ := hC
  refine W.widen (k := md.2.2.2.2.1) (n := md.2.2.2.2.2) (by omega) h2 ?_
  exact W.lret hx hb (hr0.trans hr) (fun t ht hW => ⟨rfl, ⟨by rw [ht]; exact hP, va_K.moved hW.alike hK⟩, hS.F ht, by omega⟩) (fun q hq => hS.2.2 q hq) hd
theorem J_reta {x : Option Nat} {r : Option AV} {ah' : AH} {C : String} (hd : decode md.2.1 pc = .ok (.areturn, 1)) (hr : md.2.2.2.1 = some (.object C)) (h1 : cs.1 = md.2.2.2.2.1) (h2 : cs.2 ≤ md.2.2.2.2.2) (e1 : r = some (.inr (.inr (.inl x)))) (e2 : ah' = ah) : J l g md R (jQm g md r ah') pc ls [.inr (.inr (.inl x))] ah cs := by
  subst e1; subst e2
  intro p e s m args below meth cd H locs la hC hz hP hS hl
  obtain ⟨hx, hb, hr0, hml, hown, hts, hlk, hnm, hK, hAm, hN⟩ := hC
  refine W.widen (k := md.2.2.2.2.1) (n := md.2.2.2.2.2) (by omega) h2 ?_
  exact W.aret hx hb (hr0.trans hr) (Or.inl ⟨_, rfl⟩) (by cases x with | none => exact Or.inl rfl | some a => exact Or.inr ⟨_, rfl⟩) (fun t ht hW => ⟨rfl, ⟨by rw [ht]; exact hP, va_K.moved hW.alike hK⟩, hS.F ht, by omega⟩) (fun q hq => hS.2.2 q hq) hd
theorem J_retv {r : Option AV} {ah' : AH} (hd : decode md.2.1 pc = .ok (.return_, 1)) (hr : md.2.2.2.1 = none) (h1 : cs.1 = md.2.2.2.2.1) (h2 : cs.2 ≤ md.2.2.2.2.2) (e1 : r = none) (e2 : ah' = ah) : J l g md R (jQm g md r ah') pc ls [] ah cs := by
  subst e1; subst e2
  intro p e s m args below meth cd H locs la hC hz hP hS hl
  obtain ⟨hx, hb, hr0, hml, hown, hts, hlk, hnm, hK, hAm, hN⟩ := hC
  refine W.widen (k := md.2.2.2.2.1) (n := md.2.2.2.2.2) (by omega) h2 ?_
  exact W.vret hx hb (hr0.trans hr) (fun t ht hW => ⟨rfl, ⟨by rw [ht]; exact hP, va_K.moved hW.alike hK⟩, hS.F ht, by omega⟩) (fun q hq => hS.2.2 q hq) hd
/-! calls -/
theorem jAm_moved {s U : State} {H : Heap} {locs : List Loc} (h : jAm g s s.heap) (hN : jN g ≤ s.heap.size) (hS : va_S (jA g) s.heap H locs) (hU : U.heap = H) (hW : s.WarmedH U.vm) : jAm g U U.heap := by
  obtain ⟨h1, h2, h3, h4, h5, h6, h7, h8⟩ := h
  have key : ∀ a : Nat, a < s.heap.size → ¬ jA g a → U.heap[a]? = s.heap[a]? := fun a ha hb => by rw [hU]; exact hS.2.1 a ha hb
  exact ⟨(h1.moved hW.alike).kept (key _ (by omega) (fun q => by have : jN g ≤ jb g := q; omega)), h2, (h3.moved hW.alike).kept key, (h4.moved hW.alike).kept key, fun a i b n d h hm => va_Nw.warmF hW (h5 a i b n d h hm), fun a i x h hm => va_Nw.warmM hW (h6 a i x h hm), h7.moved hW.alike, h8.moved hW.alike⟩
theorem jblind {av : List AV} : FrameBlind (va_Pc (av.map (jcv g)) (fun U => jU g ah U ∧ jAm g U U.heap)) := by
  intro a U fr mk h
  obtain ⟨h0, ⟨h1, h2, h3⟩, h4⟩ := h
  have hal : U.vm.Alike (U.calling fr mk a).vm := Vm.Alike.refl U.vm
  obtain ⟨k1, k2, k3, k4, k5, k6, k7, k8⟩ := h4
  exact ⟨h0, ⟨h1, h2, va_K.moved (u := U) (U := U.calling fr mk a) hal h3⟩, k1.moved hal, k2, k3.moved hal, k4.moved hal, fun a i b n d h hm => va_Nw.same rfl rfl (k5 a i b n d h hm), fun a i x h hm => va_Nw.same rfl rfl (k6 a i x h hm), k7.moved hal, k8.moved hal⟩
/-- what a call's run gives -/
theorem J_run_call {md' : MD} {r : Option AV} {ah1 : AH} {st' : List AV} {cs' : Nat × Nat} {p : Program} {e : Env} {s : State} {m : MethodId} {args : Array Value} {below : List Frame} {meth : Method} {c : Code} {H : Heap} {locs : List Loc} {la : Array Slot} {a : Array Value} {st0 : List Value} (hC : jCx g md p s m args meth c) (hz : s.heap.size + cs.1 = jN g + ah.length) (hP : va_P (jD g) jj_cl (jw g ah) H) (hS : va_S (jA g) s.heap H locs) (hl : lv_has la md.2.2.1 (ls.map fun q => (q.1, jcv g q.2)))
    (hcs : cs' = (cs.1 + md'.2.2.2.2.1, cs.2 + md'.2.2.2.2.2))
    (hr : va_Run p l e R s m args below meth c H locs cs.1 cs.2 md'.2.2.2.2.1 md'.2.2.2.2.2 (F0 m pc la st0) (st.map (jcv g)) (jQc g md'.2.2.2.2.1 r ah1 a) (jA g))
    (hst : st' = r.toList ++ st) (k : J l g md R Q (pc + 3) ls st' ah1 cs') : W p l e R s m args below meth c H locs cs.1 cs.2 (Q below args s) (F0 m pc la st0) := by
  intro T hT X
  have hN := hC.2.2.2.2.2.2.2.2.2.2
  have hsz := jsz X hT hz hP hS hN
  obtain ⟨v, st₀, t, T', L, h0, X', hL, e1, e2, hq, hgo⟩ := hr T hT X
  obtain ⟨q1, ⟨q2, q3⟩, q4, q5⟩ := hq
  cases q1
  subst hcs
  have hS' : va_S (jA g) s.heap T'.heap (locs ++ L) := by
    have hz4 := q4.1
    have hk4 := q4.2
    rw [h0] at hz4 hk4
    refine ⟨Nat.le_trans hS.1 (by rw [e1]; exact hz4), fun q h1 h2 => ?_, fun q hq => ?_⟩
    · rw [e1, hk4 q (Nat.lt_of_lt_of_le h1 hS.1) h2]
      exact hS.2.1 q h1 h2
    · rcases List.mem_append.mp hq with h | h
      · exact hS.2.2 q h
      · exact hL q h
  have hk := k p e s m args below meth c T'.heap (locs ++ L) la hC (by rw [h0] at q5; show s.heap.size + (cs.1 + _) = _; omega) (by rw [e1]; exact q2) hS' hl T' rfl X'
  obtain ⟨t2, a1, b1⟩ := hk
  refine ⟨t2, hgo t2 ?_, b1⟩
  have e3 : (st'.map (jcv g)) = (r.map (jcv g)).toList ++ st.map (jcv g) := by
    rw [hst, List.map_append]
    cases r <;> rfl
  rw [e3] at a1
  exact a1
end
