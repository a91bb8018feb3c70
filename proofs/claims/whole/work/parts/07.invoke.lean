/-! ===== the calls ===== -/
def jYw (md' : MD) (n : Nat) : Prop := Cond.code md'.1 md'.2.1 md'.2.2.1 md'.2.2.2.1 ∈ jBG ∧ Cond.initialized md'.1.cls ∈ jBG ∧ (md'.1.cls ≠ "java/lang/invoke/MethodHandle" ∧ md'.1.cls ≠ "java/lang/invoke/VarHandle" ∧ (parseMethodDescriptor md'.1.desc).map (fun d => d.parameters.length) = some n)
def jYV (md' : MD) (n c : Nat) : Prop := jYw md' n ∧ Cond.instanceMethod md'.1 ∈ jBG ∧ Cond.selects md'.1.cls md'.1 md'.1 ∈ jBG ∧ ∃ (T : u_T) (N : Nat), jj_cl[c]? = some (md'.1.cls, T, N)
def jYS (md' : MD) (n : Nat) : Prop := jYw md' n ∧ Cond.static md'.1 ∈ jBG
def jYI (md' : MD) (n : Nat) : Prop := jYw md' n ∧ Cond.instanceMethod md'.1 ∈ jBG ∧ md'.1.name = "<init>"
def jRo (d : Nat) (md' : MD) (R : Room) : Prop := (jRm d md').frames + 1 ≤ R.frames ∧ 8 + (md'.2.2.1 + 11) + (jRm d md').locals ≤ R.locals
theorem jRo_of {d : Nat} {md md' : MD} (h : md'.2.2.1 ≤ 45) : jRo d md' (jRm (d + 1) md) := by
  refine ⟨Nat.le_refl _, ?_⟩
  show 8 + (md'.2.2.1 + 11) + 64 * d ≤ 64 * (d + 1)
  omega
theorem jroom {g : GX} {m : MethodId} {pc : Nat} {la : Array Slot} {rest : List Value} {st : List AV} (h : jwd st ≤ 8) : 2 * (F0 m pc la rest).monitorRoom + ((st.map (jcv g)).map fun v => v.category).sum ≤ 8 := by
  refine lv_room ?_
  have e : ((st.map (jcv g)).map fun v => v.category).sum = jwd st := by
    induction st with
    | nil => rfl
    | cons v r ih =>
      have ih' := ih (by simp only [jwd, List.map_cons, List.sum_cons] at h ⊢; omega)
      simp only [jwd, List.map_cons, List.sum_cons] at ih' ⊢
      rw [ih']
      obtain x | x | (_ | x) | (_ | _) := v <;> rfl
  omega
section
variable {l : Launch} {g : GX} {md : MD} {R : Room} {Q : jQ} {pc : Nat} {ls : List (Nat × AV)} {st : List AV} {ah : AH} {cs : Nat × Nat}
theorem jmap_rev (As : List AV) (v : AV) (st : List AV) : (As.reverse ++ v :: st).map (jcv g) = (As.map (jcv g)).reverse ++ jcv g v :: st.map (jcv g) := by
  rw [List.map_append, List.map_reverse]
  rfl
theorem J_callV {md' : MD} {d c idx : Nat} {o : Option Nat} {As stk st' : List AV} {r : Option AV} {ah1 : AH} {cs' : Nat × Nat} (hd : decode md.2.1 pc = .ok (.invokevirtual idx, 3)) (hlk : Cond.methodLink md.1.cls idx md'.1 ∈ jBG) (hy : jYV md' As.length c) (ho : qO ah o c = true) (hM : jM l g d md' (.inr (.inr (.inl o)) :: As) ah r ah1)
    (hR : jRo d md' R) (hw : jwd st ≤ 8) (hf : cs.1 + md'.2.2.2.2.1 ≤ R.cells ∧ cs.2 + md'.2.2.2.2.2 ≤ R.slots) (hcs : cs' = (cs.1 + md'.2.2.2.2.1, cs.2 + md'.2.2.2.2.2)) (hstk : stk = As.reverse ++ .inr (.inr (.inl o)) :: st) (hst : st' = r.toList ++ st) (k : J l g md R Q (pc + 3) ls st' ah1 cs') : J l g md R Q pc ls stk ah cs := by
  subst hstk
  intro p e s m args below meth cd H locs la hC hz hP hS hl
  have hC0 := hC
  obtain ⟨hx, hb, hr0, hml, hown, hts, hlk0, hnm, hK, hAm, hN⟩ := hC
  unfold qO at ho
  split at ho
  · cases ho
  · rename_i a
    split at ho
    · rename_i c' fs hc
      have hcc : c' = c := by simpa using ho
      subst hcc
      obtain ⟨⟨y1, y2, y3⟩, y4, y5, T, N, y6⟩ := hy
      intro T0 hT X
      have hsz := jsz X hT hz hP hS hN
      have hG : GoodIn (Cond.tt :: jBG) (jWs md') := jBG_good y1
      have hts' : ∀ w ∈ Cond.tt :: jBG, w.before args s = true := fun w hw => by
        rcases List.mem_cons.mp hw with rfl | hw
        · rfl
        · exact hts w hw
      rw [jmap_rev]
      have hpre : PreV s H md'.1.cls (jN g + a) (va_Pc (((.inr (.inr (.inl (some a))) : AV) :: As).map (jcv g)) (fun U => jU g ah U ∧ jAm g U U.heap)) (As.map (jcv g)) :=
        ⟨jblind, va_recv hK hP y6 (jw_get hc), fun U hU hW => ⟨rfl, ⟨by rw [hU]; exact hsz, by rw [hU]; exact hP, va_K.moved hW.alike hK⟩, jAm_moved hAm hN hS hU hW⟩⟩
      have hrun := va_runV (l := l) (e := e) (R := R) (below := below) (meth := meth) (locs := locs) (cells := cs.1) (slots := cs.2) (As := As.map (jcv g)) (rest := st.map (jcv g)) (g := F0 m pc la ((As.map (jcv g)).reverse ++ .ref (jN g + a) :: st.map (jcv g))) ⟨hx, hb, hml, hown, hts'⟩ hM ⟨callB_of As.length hts' hG rfl rfl rfl (hts _ y2) (hts _ hlk) y3 hR, hts _ y4, hts _ y5⟩ hpre rfl (by rw [List.length_map]) hl.1 rfl (jroom hw) hd hf
      exact J_run_call hC0 hz hP hS hl hcs hrun hst k T0 hT X
    · cases ho
theorem jmap_rev0 (As st : List AV) : (As.reverse ++ st).map (jcv g) = (As.map (jcv g)).reverse ++ st.map (jcv g) := by
  rw [List.map_append, List.map_reverse]
theorem J_callS {md' : MD} {d idx : Nat} {As stk st' : List AV} {r : Option AV} {ah1 : AH} {cs' : Nat × Nat} (hd : decode md.2.1 pc = .ok (.invokestatic idx, 3)) (hlk : Cond.methodLink md.1.cls idx md'.1 ∈ jBG ∨ ∃ host, Cond.methodLinkNest md.1.cls idx md'.1 host ∈ lw_tbl) (hy : jYS md' As.length) (hM : jM l g d md' As ah r ah1)
    (hR : jRo d md' R) (hw : jwd st ≤ 8) (hf : cs.1 + md'.2.2.2.2.1 ≤ R.cells ∧ cs.2 + md'.2.2.2.2.2 ≤ R.slots) (hcs : cs' = (cs.1 + md'.2.2.2.2.1, cs.2 + md'.2.2.2.2.2)) (hstk : stk = As.reverse ++ st) (hst : st' = r.toList ++ st) (k : J l g md R Q (pc + 3) ls st' ah1 cs') : J l g md R Q pc ls stk ah cs := by
  subst hstk
  intro p e s m args below meth cd H locs la hC hz hP hS hl
  have hC0 := hC
  obtain ⟨hx, hb, hr0, hml, hown, hts, hlk0, hnm, hK, hAm, hN⟩ := hC
  obtain ⟨⟨y1, y2, y3⟩, y4⟩ := hy
  intro T0 hT X
  have hsz := jsz X hT hz hP hS hN
  have hG : GoodIn (Cond.tt :: jBG) (jWs md') := jBG_good y1
  have hts' : ∀ w ∈ Cond.tt :: jBG, w.before args s = true := fun w hw => by
    rcases List.mem_cons.mp hw with rfl | hw
    · rfl
    · exact hts w hw
  rw [jmap_rev0]
  have hpre : PreS s H (va_Pc (As.map (jcv g)) (fun U => jU g ah U ∧ jAm g U U.heap)) (As.map (jcv g)) :=
    ⟨jblind, fun U hU hW => ⟨rfl, ⟨by rw [hU]; exact hsz, by rw [hU]; exact hP, va_K.moved hW.alike hK⟩, jAm_moved hAm hN hS hU hW⟩⟩
  rcases hlk with hlk | ⟨host, hlk⟩
  · have hrun := va_runS (l := l) (e := e) (R := R) (below := below) (meth := meth) (locs := locs) (cells := cs.1) (slots := cs.2) (As := As.map (jcv g)) (rest := st.map (jcv g)) (g := F0 m pc la ((As.map (jcv g)).reverse ++ st.map (jcv g))) ⟨hx, hb, hml, hown, hts'⟩ hM ⟨callB_of As.length hts' hG rfl rfl rfl (hts _ y2) (hts _ hlk) y3 hR, hts _ y4⟩ hpre rfl (by rw [List.length_map]) hl.1 rfl (jroom hw) hd hf
    exact J_run_call hC0 hz hP hS hl hcs hrun hst k T0 hT X
  · have hrun := va_runSN (l := l) (e := e) (R := R) (below := below) (meth := meth) (locs := locs) (cells := cs.1) (slots := cs.2) (As := As.map (jcv g)) (rest := st.map (jcv g)) (g := F0 m pc la ((As.map (jcv g)).reverse ++ st.map (jcv g))) ⟨hx, hb, hml, hown, hts'⟩ hM ⟨va_cnB As.length hts' hG rfl rfl rfl (hAm.2.2.2.2.2.1 _ _ _ _ hlk) (hts _ y2) y3 hR, hts _ y4, trivial⟩ hpre rfl (by rw [List.length_map]) hl.1 rfl (jroom hw) hd hf
    exact J_run_call hC0 hz hP hS hl hcs hrun hst k T0 hT X
theorem J_callI {md' : MD} {d idx b : Nat} {As stk : List AV} {ah1 : AH} {cs' : Nat × Nat} (hd : decode md.2.1 pc = .ok (.invokespecial idx, 3)) (hlk : Cond.methodLink md.1.cls idx md'.1 ∈ jBG ∨ ∃ host, Cond.methodLinkNest md.1.cls idx md'.1 host ∈ lw_tbl) (hy : jYI md' As.length) (hret : md'.2.2.2.1 = none) (hM : jM l g d md' (.inr (.inr (.inl (some b))) :: As) ah none ah1)
    (hR : jRo d md' R) (hw : jwd st ≤ 8) (hf : cs.1 + md'.2.2.2.2.1 ≤ R.cells ∧ cs.2 + md'.2.2.2.2.2 ≤ R.slots) (hcs : cs' = (cs.1 + md'.2.2.2.2.1, cs.2 + md'.2.2.2.2.2)) (hstk : stk = As.reverse ++ .inr (.inr (.inl (some b))) :: st) (k : J l g md R Q (pc + 3) ls st ah1 cs') : J l g md R Q pc ls stk ah cs := by
  subst hstk
  intro p e s m args below meth cd H locs la hC hz hP hS hl
  have hC0 := hC
  obtain ⟨hx, hb, hr0, hml, hown, hts, hlk0, hnm, hK, hAm, hN⟩ := hC
  obtain ⟨⟨y1, y2, y3⟩, y4, y5⟩ := hy
  rw [hret] at y1
  intro T0 hT X
  have hsz := jsz X hT hz hP hS hN
  have hws : jWs md' = Cond.code md'.1 md'.2.1 md'.2.2.1 none :: jBG := by rw [jWs, hret]
  have hG : GoodIn (Cond.tt :: jBG) (jWs md') := by rw [hws]; exact jBG_good y1
  have hts' : ∀ w ∈ Cond.tt :: jBG, w.before args s = true := fun w hw => by
    rcases List.mem_cons.mp hw with rfl | hw
    · rfl
    · exact hts w hw
  rw [jmap_rev]
  have hpre : PreS s H (va_Pc (((.inr (.inr (.inl (some b))) : AV) :: As).map (jcv g)) (fun U => jU g ah U ∧ jAm g U U.heap)) (.ref (jN g + b) :: As.map (jcv g)) :=
    ⟨jblind, fun U hU hW => ⟨rfl, ⟨by rw [hU]; exact hsz, by rw [hU]; exact hP, va_K.moved hW.alike hK⟩, jAm_moved hAm hN hS hU hW⟩⟩
  rcases hlk with hlk | ⟨host, hlk⟩
  · have hrun := va_runI (l := l) (e := e) (R := R) (below := below) (meth := meth) (locs := locs) (cells := cs.1) (slots := cs.2) (b := jN g + b) (As := As.map (jcv g)) (rest := st.map (jcv g)) (g := F0 m pc la ((As.map (jcv g)).reverse ++ .ref (jN g + b) :: st.map (jcv g))) ⟨hx, hb, hml, hown, hts'⟩ hM ⟨callB_of As.length hts' hG hws rfl rfl (hts _ y2) (hts _ hlk) y3 hR, y5, hts _ y4⟩ hpre rfl (by rw [List.length_map]) hl.1 rfl (jroom hw) hd hf
    exact J_run_call (r := none) hC0 hz hP hS hl hcs hrun rfl k T0 hT X
  · have hrun := va_runIN (l := l) (e := e) (R := R) (below := below) (meth := meth) (locs := locs) (cells := cs.1) (slots := cs.2) (b := jN g + b) (As := As.map (jcv g)) (rest := st.map (jcv g)) (g := F0 m pc la ((As.map (jcv g)).reverse ++ .ref (jN g + b) :: st.map (jcv g))) ⟨hx, hb, hml, hown, hts'⟩ hM ⟨va_cnB As.length hts' hG hws rfl rfl (hAm.2.2.2.2.2.1 _ _ _ _ hlk) (hts _ y2) y3 hR, y5, hts _ y4⟩ hpre rfl (by rw [List.length_map]) hl.1 rfl (jroom hw) hd hf
    exact J_run_call (r := none) hC0 hz hP hS hl hcs hrun rfl k T0 hT X
/-- Object's constructor -/
theorem J_obj {idx b : Nat} (hd : decode md.2.1 pc = .ok (.invokespecial idx, 3)) (hlk : Cond.methodLink md.1.cls idx Lib.objectInit ∈ jBG) (hi : Cond.instanceMethod Lib.objectInit ∈ jBG) (hc : Cond.code Lib.objectInit ⟨#[0xb1]⟩ 1 none ∈ jBG) (hR : 1 ≤ R.frames ∧ 20 ≤ R.locals) (hw : jwd st ≤ 8) (k : J l g md R Q (pc + 3) ls st ah cs) : J l g md R Q pc ls (.inr (.inr (.inl (some b))) :: st) ah cs := by
  intro p e s m args below meth cd H locs la hC hz hP hS hl
  have kk := k p e s m args below meth cd H locs la hC hz hP hS hl
  obtain ⟨hx, hb, hr0, hml, hown, hts, hlk0, hnm, hK, hAm, hN⟩ := hC
  exact W.objInit hx hb hown (hts _ hlk) (hts _ hi) (hts _ hc) rfl (by rw [hml]; exact hl.1) rfl hd hR.1 (Nat.le_trans (Nat.add_le_add_right (jroom hw) 12) hR.2) kk
theorem jce_cp (g : GX) (xs ys : List Int32) (sp dp n : Nat) : jce g (.inl (cpL xs ys sp dp n)) = .inl ((jC g).1, ys.length, .inl (fun j => (cpL xs ys sp dp n).getD j 0)) := by
  simp only [jce, cpL, List.length_mapIdx]
theorem cpL_get {xs ys : List Int32} {sp dp n j : Nat} (h : dp + n ≤ ys.length) : (cpL xs ys sp dp n).getD j 0 = va_cpy (fun j => xs.getD j 0) (fun j => ys.getD j 0) sp dp n j := by
  simp only [cpL, va_cpy, List.getD_eq_getElem?_getD, List.getElem?_mapIdx]
  by_cases hj : j < ys.length
  · rw [List.getElem?_eq_getElem hj]
    simp only [Option.map_some, Option.getD_some]
  · rw [List.getElem?_eq_none (Nat.not_lt.mp hj)]
    simp only [Option.map_none, Option.getD_none]
    rw [if_neg (by omega)]
/-- System.arraycopy of ints -/
theorem J_cpy {idx : Nat} {o o' : Option Nat} {sp dp n : Int32} {ah' : AH} (hd : decode md.2.1 pc = .ok (.invokestatic idx, 3)) (hlk : Cond.methodLink md.1.cls idx arraycopyName ∈ jBG) (hi : Cond.native arraycopyName ∈ jBG ∧ Cond.static arraycopyName ∈ jBG ∧ Cond.initialized "java/lang/System" ∈ jBG) (hR : 1 ≤ R.frames ∧ 8 + (nativeFrameWords "java/lang/System" "arraycopy" 5 + 11) ≤ R.locals) (hw : jwd st ≤ 8) (h : cA ah o sp o' dp n = some ah') (k : J l g md R Q (pc + 3) ls st ah' cs) : J l g md R Q pc ls (.inl n :: .inl dp :: .inr (.inr (.inl o')) :: .inl sp :: .inr (.inr (.inl o)) :: st) ah cs := by
  intro p e s m args below meth cd H locs la hC hz hP hS hl
  have hC0 := hC
  obtain ⟨hx, hb, hr0, hml, hown, hts, hlk0, hnm, hK, hAm, hN⟩ := hC
  unfold cA at h
  split at h
  · rename_i a a'
    split at h
    · rename_i xs ys hc hc'
      split at h
      · rename_i hq
        obtain ⟨⟨q1, q2, q3⟩, q4, q5⟩ := hq
        cases h
        have h8 : 2 * (F0 m pc la ([] : List Value)).monitorRoom + ((st.map (jcv g)).map fun v => v.category).sum ≤ 8 := jroom hw
        refine va_copyi hx hb (by rw [hml]; exact hl.1.symm) hown (hts _ hlk) (hts _ hi.1) (hts _ hi.2.1) (hts _ hi.2.2) hK hP (jw_D g ah) hS a a' 0 0 (ty := .int) (jw_get hc) (jw_get hc') rfl rfl rfl q1 q2 q3 q4 q5 (fun i hi => rfl) hR.1 (by have := hR.2; omega) hd (fun H1 locs1 hP1 _ hS1 => ?_)
        refine k p e s m args below meth cd H1 locs1 la hC0 (by rw [hz, List.length_set]) ?_ hS1 hl
        rw [jw_set, jce_cp, show (fun j => (cpL xs ys sp.toNatClampNeg dp.toNatClampNeg n.toNatClampNeg).getD j 0) = va_cpy (fun j => xs.getD j 0) (fun j => ys.getD j 0) sp.toNatClampNeg dp.toNatClampNeg n.toNatClampNeg from funext fun j => cpL_get q5]
        exact hP1
      · cases h
    · cases h
  · cases h
theorem J_wid {n : Nat} (h : cs.2 ≤ n) (k : J l g md R Q pc ls st ah (cs.1, n)) : J l g md R Q pc ls st ah cs := fun p e s m args below meth cd H locs la hC hz hP hS hl =>
  W.widen (Nat.le_refl _) h (k p e s m args below meth cd H locs la hC hz hP hS hl)
theorem J_sub {ls' : List (Nat × AV)} (ks : List Nat) (h : ks.filterMap (fun k => ls[k]?) = ls') (k : J l g md R Q pc ls' st ah cs) : J l g md R Q pc ls st ah cs := fun p e s m args below meth cd H locs la hC hz hP hS hl =>
  k p e s m args below meth cd H locs la hC hz hP hS (lv_sub hl ks (by
    subst h
    simp only [lv_pick, List.map_filterMap, List.getElem?_map]))
end
/-! ===== loops as functions of a fuel ===== -/
def jfuel : Nat := 1000000
def jloop {S X T : Type} (body : S → AH → Option ((T × AH) ⊕ ((X × AH) ⊕ (S × AH)))) : Nat → S → AH → Option ((T × AH) ⊕ (X × AH))
  | 0, _, _ => none
  | n + 1, s, ah => match body s ah with
    | none => none
    | some (.inl r) => some (.inl r)
    | some (.inr (.inl x)) => some (.inr x)
    | some (.inr (.inr q)) => jloop body n q.1 q.2
/-- what is owed at a return -/
def jRetI (l : Launch) (g : GX) (md : MD) (R : Room) (Q : jQ) (cs : Nat × Nat) (x : Int32) (ah : AH) : Prop := ∀ pc ls, decode md.2.1 pc = .ok (.ireturn, 1) → J l g md R Q pc ls [.inl x] ah cs
def jRetZ (l : Launch) (g : GX) (md : MD) (R : Room) (Q : jQ) (cs : Nat × Nat) (x : Int32) (ah : AH) : Prop := ∀ pc ls, decode md.2.1 pc = .ok (.ireturn, 1) → (x = 0 ∨ x = 1) → J l g md R Q pc ls [.inl x] ah cs
def jRetL (l : Launch) (g : GX) (md : MD) (R : Room) (Q : jQ) (cs : Nat × Nat) (x : Int64) (ah : AH) : Prop := ∀ pc ls, decode md.2.1 pc = .ok (.lreturn, 1) → J l g md R Q pc ls [.inr (.inl x)] ah cs
def jRetA (l : Launch) (g : GX) (md : MD) (R : Room) (Q : jQ) (cs : Nat × Nat) (x : Option Nat) (ah : AH) : Prop := ∀ pc ls, decode md.2.1 pc = .ok (.areturn, 1) → J l g md R Q pc ls [.inr (.inr (.inl x))] ah cs
def jRetV (l : Launch) (g : GX) (md : MD) (R : Room) (Q : jQ) (cs : Nat × Nat) (_ : Unit) (ah : AH) : Prop := ∀ pc ls, decode md.2.1 pc = .ok (.return_, 1) → J l g md R Q pc ls [] ah cs
def jRetN (_ : Unit) (_ : AH) : Prop := False
theorem J_loop {S X T : Type} {body : S → AH → Option ((T × AH) ⊕ ((X × AH) ⊕ (S × AH)))} {l : Launch} {g : GX} {md : MD} {R : Room} {Q : jQ} {cs : Nat × Nat} {pH pE : Nat} {lh : S → List (Nat × AV)} {lx : X → List (Nat × AV)} {P : T → AH → Prop}
    (hb : ∀ s ah out, body s ah = some out → (∀ q, out = .inl q → P q.1 q.2) → (∀ q, out = .inr (.inl q) → J l g md R Q pE (lx q.1) [] q.2 cs) → (∀ q, out = .inr (.inr q) → J l g md R Q pH (lh q.1) [] q.2 cs) → J l g md R Q pH (lh s) [] ah cs) :
    ∀ n s ah out, jloop body n s ah = some out → (∀ q, out = .inl q → P q.1 q.2) → (∀ q, out = .inr q → J l g md R Q pE (lx q.1) [] q.2 cs) → J l g md R Q pH (lh s) [] ah cs := by
  intro n
  induction n with
  | zero => intro s ah out h; cases h
  | succ n ih =>
    intro s ah out h hR hX
    rw [jloop] at h
    cases hq : body s ah with
    | none => rw [hq] at h; cases h
    | some o =>
      rw [hq] at h
      rcases o with r | x | q
      · cases h
        exact hb s ah _ hq (fun q e => hR q (by cases e; rfl)) (fun q e => by cases e) (fun q e => by cases e)
      · cases h
        exact hb s ah _ hq (fun q e => by cases e) (fun q e => hX q (by cases e; rfl)) (fun q e => by cases e)
      · refine hb s ah _ hq (fun q e => by cases e) (fun q e => by cases e) (fun q' e => ?_)
        cases e
        exact ih _ _ _ h hR hX
theorem jtoInt_ne {x : Int32} {k : Int32} {n : Int} (hk : k.toInt = n) (h : ¬ x = k) : ¬ x.toInt = n := fun e => h (Int32.toInt_inj.mp (e.trans hk.symm))
