/-! ===== the abstract heap: cells in a row, from the base address on; the judgement J over it ===== -/
abbrev AV : Type := Int32 ⊕ (Int64 ⊕ (Option Nat ⊕ Bool))
abbrev Cel : Type := List Int32 ⊕ ((Nat × List (Option Nat)) ⊕ (Nat × List AV))
abbrev AH : Type := List Cel
/-- base, the script's address, LETTERS' address, classes, array classes, the script -/
abbrev GX : Type := Nat × Nat × Nat × va_G × (ClassId × ClassId × ClassId) × Nat × (Nat → Int32)
/-- name, code, locals, answer, new cells, new slots -/
abbrev MD : Type := MethodName × ByteArray × Nat × Option FieldType × Nat × Nat
def jN (g : GX) : Nat := g.1
def jb (g : GX) : Nat := g.2.1
def jt (g : GX) : Nat := g.2.2.1
def jD (g : GX) : va_G := g.2.2.2.1
def jC (g : GX) : ClassId × ClassId × ClassId := g.2.2.2.2.1
def jL (g : GX) : Nat := g.2.2.2.2.2.1
def jX (g : GX) : Nat → Int32 := g.2.2.2.2.2.2
def jA (g : GX) : Nat → Prop := fun q => jN g ≤ q
def jcv (g : GX) : AV → Value
  | .inl x => .int x
  | .inr (.inl x) => .long x
  | .inr (.inr (.inl none)) => .null
  | .inr (.inr (.inl (some k))) => .ref (jN g + k)
  | .inr (.inr (.inr true)) => .ref (jt g)
  | .inr (.inr (.inr false)) => .ref (jb g)
def jce (g : GX) : Cel → va_E
  | .inl xs => .inl ((jC g).1, xs.length, .inl (fun j => xs.getD j 0))
  | .inr (.inl (t, rs)) => .inl (if t = 0 then (jC g).2.1 else (jC g).2.2, rs.length, .inr (.inr (.inr (.inr (fun j => (rs.getD j none).map (fun k => jN g + k))))))
  | .inr (.inr (c, fs)) => .inr (c, fs.map (jcv g))
def jw (g : GX) (ah : AH) : va_W := ah.mapIdx (fun k e => (jN g + k, jce g e))
theorem jw_get {g : GX} {ah : AH} {k : Nat} {e : Cel} (h : ah[k]? = some e) : (jw g ah)[k]? = some (jN g + k, jce g e) := by
  simp [jw, List.getElem?_mapIdx, h]
theorem jw_inv {g : GX} {ah : AH} {k : Nat} {q : Nat × va_E} (h : (jw g ah)[k]? = some q) : q.1 = jN g + k ∧ k < ah.length := by
  simp only [jw, List.getElem?_mapIdx, Option.map_eq_some_iff] at h
  obtain ⟨e, h1, h2⟩ := h
  subst h2
  exact ⟨rfl, (List.getElem?_eq_some_iff.mp h1).1⟩
theorem jw_set (g : GX) (ah : AH) (k : Nat) (e : Cel) : jw g (ah.set k e) = (jw g ah).set k (jN g + k, jce g e) := by
  apply List.ext_getElem?
  intro i
  simp only [jw, List.getElem?_mapIdx, List.getElem?_set, List.length_mapIdx]
  by_cases h : k = i
  · subst h
    by_cases h2 : k < ah.length <;> simp [h2]
  · simp [h]
theorem jw_app (g : GX) (ah : AH) (e : Cel) : jw g (ah ++ [e]) = jw g ah ++ [(jN g + ah.length, jce g e)] := by
  simp [jw, List.mapIdx_append]
theorem jw_len (g : GX) (ah : AH) : (jw g ah).length = ah.length := by simp [jw]
theorem jw_D (g : GX) (ah : AH) : va_D (jA g) (jw g ah) := by
  refine ⟨fun i j p q hi hj hpq => ?_, fun k q hk => ?_⟩
  · have h1 := (jw_inv hi).1
    have h2 := (jw_inv hj).1
    omega
  · have h1 := (jw_inv hk).1
    show jN g ≤ q.1
    omega
def jTy (g : GX) : List (ClassId × FieldType) := [((jC g).1, .int), ((jC g).2.1, .object "EnemyByLot$Line"), ((jC g).2.2, .object "EnemyByLot$Town")]
abbrev jK (g : GX) (U : State) : Prop := va_K (jD g) jj_cl (jTy g) U
def jlet (j : Nat) : Int32 := [112, 122, 115, 104, 119, 108].getD j 0
/-- what stands below the base, and the nest's words -/
def jAm (g : GX) (U : State) (H : Heap) : Prop :=
  va_X (jb g) (jL g) (jX g) U H ∧ jb g < jN g ∧ va_Z "EnemyByLot" "LETTERS" "[I" (.ref (jt g)) (jA g) U H ∧ va_T .int (jt g) 6 (fun j => .int (jlet j)) (jA g) U H ∧
  (∀ a i b n d h, Cond.fieldLinkNest a i b n d h ∈ lw_tbl → va_Nw (.fieldLinkNest a i b n d h) U) ∧ (∀ a i x h, Cond.methodLinkNest a i x h ∈ lw_tbl → va_Nw (.methodLinkNest a i x h) U) ∧ va_AO "EnemyByLot$Line" U ∧ va_AO "EnemyByLot$Town" U
def jBG : List Cond := lw_tbl.filter goodWord
theorem jBG_good {w0 : Cond} {w : Cond} (h : w ∈ jBG) : GoodIn (w0 :: jBG) (w :: jBG) := by
  have key : ∀ x ∈ jBG, x ∈ w0 :: jBG ∧ ((x.onTables && x.keeps) = true ∨ ∃ ty, x = .arrayClass ty) := fun x hx =>
    ⟨List.mem_cons_of_mem _ hx, good_of_word (List.mem_filter.mp hx).2⟩
  intro x hx
  rcases List.mem_cons.mp hx with rfl | hx
  · exact key _ h
  · exact key _ hx
theorem jBG_of {w : Cond} (n : Nat) (h : lw_tbl[n]? = some w) (hg : goodWord w = true) : w ∈ jBG := List.mem_filter.mpr ⟨List.mem_of_getElem? h, hg⟩
def jCx (g : GX) (md : MD) (p : Program) (s : State) (m : MethodId) (args : Array Value) (meth : Method) (c : Code) : Prop :=
  p.tables.exec = Jvm.exec ∧ c.code = md.2.1 ∧ meth.sig.returnType = md.2.2.2.1 ∧ c.maxLocals = md.2.2.1 ∧ s.vm.findClass md.1.cls = some m.cls ∧ (∀ w ∈ jBG, w.before args s = true) ∧ meth.locks = false ∧ meth.name = md.1.name ∧ jK g s ∧ jAm g s s.heap ∧ jN g ≤ s.heap.size
abbrev jQ : Type := List Frame → Array Value → State → State → Prop
def J (l : Launch) (g : GX) (md : MD) (R : Room) (Q : jQ) (pc : Nat) (ls : List (Nat × AV)) (st : List AV) (ah : AH) (cs : Nat × Nat) : Prop :=
  ∀ (p : Program) (e : Env) (s : State) (m : MethodId) (args : Array Value) (below : List Frame) (meth : Method) (c : Code) (H : Heap) (locs : List Loc) (la : Array Slot),
    jCx g md p s m args meth c → s.heap.size + cs.1 = jN g + ah.length → va_P (jD g) jj_cl (jw g ah) H → va_S (jA g) s.heap H locs → lv_has la md.2.2.1 (ls.map fun q => (q.1, jcv g q.2)) →
    W p l e R s m args below meth c H locs cs.1 cs.2 (Q below args s) (F0 m pc la (st.map (jcv g)))
/-- how large the heap is: by the last cell, and by the room -/
theorem jsz {p : Program} {l : Launch} {e : Env} {R : Room} {s : State} {m : MethodId} {args : Array Value} {below : List Frame} {meth : Method} {c : Code} {T : State} {H : Heap} {locs : List Loc} {cells slots : Nat} {g : GX} {ah : AH} (X : Stand p l e R s m args below meth c T locs cells slots) (hT : T.heap = H) (hz : s.heap.size + cells = jN g + ah.length) (hP : va_P (jD g) jj_cl (jw g ah) H) (hS : va_S (jA g) s.heap H locs) (hN : jN g ≤ s.heap.size) : H.size = jN g + ah.length := by
  have h1 := X.heapSize
  rw [hT] at h1
  have h2 := hS.1
  cases hn : ah.length with
  | zero => omega
  | succ n =>
    have h3 : n < (jw g ah).length := by rw [jw_len]; omega
    have h4 : (jw g ah)[n]? = some ((jw g ah)[n]) := List.getElem?_eq_getElem h3
    have h5 := (hP n _ h4).lt
    have h6 := (jw_inv h4).1
    omega
/-- the world of a state -/
def jU (g : GX) (ah : AH) (U : State) : Prop := U.heap.size = jN g + ah.length ∧ va_P (jD g) jj_cl (jw g ah) U.heap ∧ jK g U
def jQc (g : GX) (mc : Nat) (r : Option AV) (ah : AH) : Array Value → State → Outcome → State → Prop := fun _ st o t => o = .returned (r.map (jcv g)) ∧ (va_P (jD g) jj_cl (jw g ah) t.heap ∧ jK g t) ∧ va_F (jA g) st t ∧ st.heap.size + mc = jN g + ah.length
def jRm (d : Nat) (md : MD) : Room := { frames := d, cells := md.2.2.2.2.1, slots := md.2.2.2.2.2, locals := 64 * d }
def jWs (md : MD) : List Cond := Cond.code md.1 md.2.1 md.2.2.1 md.2.2.2.1 :: jBG
/-- a method's contract: from the abstract heap ah to ah', with the answer r -/
def jM (l : Launch) (g : GX) (d : Nat) (md : MD) (av : List AV) (ah : AH) (r : Option AV) (ah' : AH) : Prop :=
  Met l md.1 (jWs md) (jRm d md) (va_Pc (av.map (jcv g)) (fun U => jU g ah U ∧ jAm g U U.heap)) (jQc g md.2.2.2.2.1 r ah') md.2.2.2.2.1 md.2.2.2.2.2 (jA g)
def jQm (g : GX) (md : MD) (r : Option AV) (ah' : AH) : jQ := fun below args s => MQ below (jQc g md.2.2.2.2.1 r ah') args s md.2.2.2.2.1 md.2.2.2.2.2 (jA g)
def jlv : Nat → List AV → List (Nat × AV)
  | _, [] => []
  | k, v :: r => (k, v) :: jlv (k + (match v with | .inr (.inl _) => 2 | _ => 1)) r
theorem jlv_args (g : GX) : ∀ (k : Nat) (av : List AV), lv_args k (av.map (jcv g)) = (jlv k av).map fun q => (q.1, jcv g q.2)
  | _, [] => rfl
  | k, v :: r => by
    obtain x | x | (_ | x) | (_ | _) := v <;> simp [lv_args, jlv, jcv, Value.category, jlv_args g]
def jwd (av : List AV) : Nat := (av.map fun v => (match v with | .inr (.inl _) => 2 | _ => 1)).sum
theorem jlg_len (g : GX) : ∀ (av : List AV), (lg_sl (av.map (jcv g))).length = jwd av
  | [] => rfl
  | v :: r => by
    have ih := jlg_len g r
    simp only [lg_sl, jwd, List.map_cons, List.flatMap_cons, List.length_append, List.sum_cons] at ih ⊢
    rw [ih]
    obtain x | x | (_ | x) | (_ | _) := v <;> simp [jcv, Value.category]
/-- a method's contract out of the walk of its body -/
theorem jM_of {l : Launch} {g : GX} {d : Nat} {md : MD} {av : List AV} {ah : AH} {r : Option AV} {ah' : AH} (hy : plainName md.1.cls = true) (hn : jwd av ≤ md.2.2.1)
    (h : J l g md (jRm d md) (jQm g md r ah') 0 (jlv 0 av) [] ah (0, 0)) : jM l g d md av ah r ah' := by
  refine Met.ofW (cc := md.2.1) (maxL := md.2.2.1) (ret := md.2.2.2.1) hy rfl ?_
  intro p e s m args below meth c s₁ B hml hv
  obtain ⟨rfl, ⟨hz, hP, hK⟩, hAm⟩ := hv
  have hts := atoms_spec (ws := jWs md) B.pre
  have hl := lv_entry (av.map (jcv g)) (n := md.2.2.1) (by rw [jlg_len]; exact hn)
  rw [lg_entry_eq]
  generalize (lg_sl (av.map (jcv g)) ++ List.replicate (md.2.2.1 - (lg_sl (av.map (jcv g))).length) Slot.unset).toArray = ls at hl ⊢
  rw [jlv_args] at hl
  exact h p e s m _ below meth c s.heap [] ls ⟨B.exec, B.bytes, B.returns, hml, findClass_of_methodNamed B.named, fun w hw => hts w (List.mem_cons_of_mem _ hw), B.notSynchronized, (name_of_methodNamed B.named B.method).1, hK, hAm, by omega⟩ hz hP va_S.rf hl
