/-! ===== the abstract heap's own operations ===== -/
def qf (ah : AH) (o : Option Nat) (c j : Nat) : Option AV :=
  match o with
  | none => none
  | some k => match ah[k]? with
    | some (.inr (.inr (c', fs))) => if c' = c then fs[j]? else none
    | _ => none
def gI (ah : AH) (o : Option Nat) (c j : Nat) : Option Int32 := match qf ah o c j with
  | some (.inl x) => some x
  | _ => none
def gL (ah : AH) (o : Option Nat) (c j : Nat) : Option Int64 := match qf ah o c j with
  | some (.inr (.inl x)) => some x
  | _ => none
def gR (ah : AH) (o : Option Nat) (c j : Nat) : Option (Option Nat) := match qf ah o c j with
  | some (.inr (.inr (.inl x))) => some x
  | _ => none
def sF (ah : AH) (o : Option Nat) (c j : Nat) (v : AV) : Option AH :=
  match o with
  | none => none
  | some k => match ah[k]? with
    | some (.inr (.inr (c', fs))) => if c' = c ∧ j < fs.length then some (ah.set k (.inr (.inr (c', fs.set j v)))) else none
    | _ => none
def gA (ah : AH) (o : Option Nat) (i : Int32) : Option Int32 :=
  match o with
  | none => none
  | some k => match ah[k]? with
    | some (.inl xs) => if i < 0 then none else xs[i.toNatClampNeg]?
    | _ => none
def sA (ah : AH) (o : Option Nat) (i v : Int32) : Option AH :=
  match o with
  | none => none
  | some k => match ah[k]? with
    | some (.inl xs) => if ¬ i < 0 ∧ i.toNatClampNeg < xs.length then some (ah.set k (.inl (xs.set i.toNatClampNeg v))) else none
    | _ => none
def lA (ah : AH) (o : Option Nat) : Option Int32 :=
  match o with
  | none => none
  | some k => match ah[k]? with
    | some (.inl xs) => some (Int32.ofNat xs.length)
    | some (.inr (.inl (_, rs))) => some (Int32.ofNat rs.length)
    | _ => none
def gE (ah : AH) (o : Option Nat) (i : Int32) : Option (Option Nat) :=
  match o with
  | none => none
  | some k => match ah[k]? with
    | some (.inr (.inl (_, rs))) => if i < 0 then none else rs[i.toNatClampNeg]?
    | _ => none
def sE (ah : AH) (o : Option Nat) (i : Int32) (v : Option Nat) : Option AH :=
  match o, v with
  | some k, some k' => match ah[k]?, ah[k']? with
    | some (.inr (.inl (t, rs))), some (.inr (.inr (c, _))) => if (¬ i < 0 ∧ i.toNatClampNeg < rs.length) ∧ ((t = 0 ∧ c = 2) ∨ (t = 1 ∧ c = 4)) then some (ah.set k (.inr (.inl (t, rs.set i.toNatClampNeg (some k'))))) else none
    | _, _ => none
  | _, _ => none
def qO (ah : AH) (o : Option Nat) (c : Nat) : Bool :=
  match o with
  | none => false
  | some k => match ah[k]? with
    | some (.inr (.inr (c', _))) => c' == c
    | _ => false
def gT (i : Int32) : Option Int32 := if ¬ i < 0 ∧ i.toNatClampNeg < 6 then some (jlet i.toNatClampNeg) else none
def gS (g : GX) (i : Int32) : Option Int32 := if ¬ i < 0 ∧ i.toNatClampNeg < jL g then some (jX g i.toNatClampNeg) else none
/-- n ints from sp on of one row come to dp on of another -/
def cpL (xs ys : List Int32) (sp dp n : Nat) : List Int32 := ys.mapIdx (fun k y => if dp ≤ k ∧ k < dp + n then xs.getD (sp + (k - dp)) 0 else y)
def cA (ah : AH) (o : Option Nat) (sp : Int32) (o' : Option Nat) (dp n : Int32) : Option AH :=
  match o, o' with
  | some k, some k' => match ah[k]?, ah[k']? with
    | some (.inl xs), some (.inl ys) => if (¬ sp < 0 ∧ ¬ dp < 0 ∧ ¬ n < 0) ∧ sp.toNatClampNeg + n.toNatClampNeg ≤ xs.length ∧ dp.toNatClampNeg + n.toNatClampNeg ≤ ys.length then some (ah.set k' (.inl (cpL xs ys sp.toNatClampNeg dp.toNatClampNeg n.toNatClampNeg))) else none
    | _, _ => none
  | _, _ => none
/-! what they say of the cells -/
theorem qf_spec {ah : AH} {o : Option Nat} {c j : Nat} {v : AV} (h : qf ah o c j = some v) : ∃ k fs, o = some k ∧ ah[k]? = some (.inr (.inr (c, fs))) ∧ fs[j]? = some v := by
  unfold qf at h
  split at h
  · cases h
  · rename_i k
    split at h
    · rename_i c' fs hc
      split at h
      · rename_i e
        subst e
        exact ⟨k, fs, rfl, hc, h⟩
      · cases h
    · cases h
theorem gI_spec {ah : AH} {o : Option Nat} {c j : Nat} {x : Int32} (h : gI ah o c j = some x) : qf ah o c j = some (.inl x) := by
  unfold gI at h
  split at h
  · rename_i y hy
    cases h
    exact hy
  · cases h
theorem gL_spec {ah : AH} {o : Option Nat} {c j : Nat} {x : Int64} (h : gL ah o c j = some x) : qf ah o c j = some (.inr (.inl x)) := by
  unfold gL at h
  split at h
  · rename_i y hy
    cases h
    exact hy
  · cases h
theorem gR_spec {ah : AH} {o : Option Nat} {c j : Nat} {x : Option Nat} (h : gR ah o c j = some x) : qf ah o c j = some (.inr (.inr (.inl x))) := by
  unfold gR at h
  split at h
  · rename_i y hy
    cases h
    exact hy
  · cases h
theorem sF_spec {ah ah' : AH} {o : Option Nat} {c j : Nat} {v : AV} (h : sF ah o c j v = some ah') : ∃ k fs, o = some k ∧ ah[k]? = some (.inr (.inr (c, fs))) ∧ j < fs.length ∧ ah' = ah.set k (.inr (.inr (c, fs.set j v))) := by
  unfold sF at h
  split at h
  · cases h
  · rename_i k
    split at h
    · rename_i c' fs hc
      split at h
      · rename_i e
        obtain ⟨rfl, e2⟩ := e
        cases h
        exact ⟨k, fs, rfl, hc, e2, rfl⟩
      · cases h
    · cases h
theorem gA_spec {ah : AH} {o : Option Nat} {i x : Int32} (h : gA ah o i = some x) : ∃ k xs, o = some k ∧ ah[k]? = some (.inl xs) ∧ vp_in i xs.length ∧ x = xs.getD i.toNatClampNeg 0 := by
  unfold gA at h
  split at h
  · cases h
  · rename_i k
    split at h
    · rename_i xs hc
      split at h
      · cases h
      · rename_i hi
        have h1 := (List.getElem?_eq_some_iff.mp h).1
        refine ⟨k, xs, rfl, hc, fun q => ?_, by rw [List.getD_eq_getElem?_getD, h]; rfl⟩
        rcases q with q | q
        · exact hi q
        · omega
    · cases h
theorem sA_spec {ah ah' : AH} {o : Option Nat} {i x : Int32} (h : sA ah o i x = some ah') : ∃ k xs, o = some k ∧ ah[k]? = some (.inl xs) ∧ vp_in i xs.length ∧ ah' = ah.set k (.inl (xs.set i.toNatClampNeg x)) := by
  unfold sA at h
  split at h
  · cases h
  · rename_i k
    split at h
    · rename_i xs hc
      split at h
      · rename_i hi
        cases h
        refine ⟨k, xs, rfl, hc, fun q => ?_, rfl⟩
        rcases q with q | q
        · exact hi.1 q
        · have := hi.2
          omega
      · cases h
    · cases h
theorem jce_set (g : GX) (xs : List Int32) (i : Nat) (v : Int32) (h : i < xs.length) : jce g (.inl (xs.set i v)) = .inl ((jC g).1, xs.length, .inl (upd (fun j => xs.getD j 0) i v)) := by
  have e : (fun j => (xs.set i v).getD j 0) = upd (fun j => xs.getD j 0) i v := by
    funext j
    simp only [List.getD_eq_getElem?_getD, List.getElem?_set, upd]
    by_cases hj : i = j
    · subst hj
      simp [h]
    · simp [hj, Ne.symm hj]
  simp only [jce, List.length_set]
  rw [e]
theorem jce_setF (g : GX) (c : Nat) (fs : List AV) (j : Nat) (v : AV) : jce g (.inr (.inr (c, fs.set j v))) = .inr (c, (fs.map (jcv g)).set j (jcv g v)) := by
  simp only [jce, List.map_set]
/-! ===== the tables' words by class ===== -/
def jPt (C : String) (T : u_T) (N : Nat) : Prop := (∀ w ∈ u_ws C T N, w ∈ jBG) ∧ ∃ ty0 : Nat → FieldType, (∀ k, k < N → parseFieldDescriptor (T k).2.2.1 = some (ty0 k)) ∧ ∀ a, a < N → ∀ b, b < N → a ≠ b → (T a).2.1 ≠ (T b).2.1
def jinB (ws : List Cond) : Bool := ws.all (fun w => decide (w ∈ lw_tbl) && goodWord w)
theorem jinB_of {ws : List Cond} (h : jinB ws = true) : ∀ w ∈ ws, w ∈ jBG := fun w hw => by
  have h1 := List.all_eq_true.mp h w hw
  simp only [Bool.and_eq_true, decide_eq_true_eq] at h1
  exact List.mem_filter.mpr ⟨h1.1, h1.2⟩
set_option maxRecDepth 100000 in
theorem jPt0 : jPt RX0 TX0 5 := ⟨jinB_of (by decide +kernel), tyX0, tyX0_ok, nmX0⟩
set_option maxRecDepth 100000 in
theorem jPt1 : jPt RX1 TX1 7 := ⟨jinB_of (by decide +kernel), tyX1, tyX1_ok, nmX1⟩
set_option maxRecDepth 100000 in
theorem jPt2 : jPt RX2 TX2 2 := ⟨jinB_of (by decide +kernel), tyX2, tyX2_ok, nmX2⟩
set_option maxRecDepth 100000 in
theorem jPt3 : jPt RX3 TX3 1 := ⟨jinB_of (by decide +kernel), tyX3, tyX3_ok, nmX3⟩
set_option maxRecDepth 100000 in
theorem jPt4 : jPt RX4 TX4 5 := ⟨jinB_of (by decide +kernel), tyX4, tyX4_ok, nmX4⟩
set_option maxRecDepth 100000 in
theorem jPt5 : jPt RX5 TX5 14 := ⟨jinB_of (by decide +kernel), tyX5, tyX5_ok, nmX5⟩
set_option maxRecDepth 100000 in
theorem jPt6 : jPt RX6 TX6 28 := ⟨jinB_of (by decide +kernel), tyX6, tyX6_ok, nmX6⟩
theorem jPt_all {c : Nat} {q : vw_C} (h : jj_cl[c]? = some q) : jPt q.1 q.2.1 q.2.2 := by
  match c, h with
  | 0, h => cases h; exact jPt0
  | 1, h => cases h; exact jPt1
  | 2, h => cases h; exact jPt2
  | 3, h => cases h; exact jPt3
  | 4, h => cases h; exact jPt4
  | 5, h => cases h; exact jPt5
  | 6, h => cases h; exact jPt6
  | c + 7, h => simp [jj_cl] at h
/-- a site of a field: read -/
def jFL (own : String) (idx c j : Nat) : Prop := ∃ (C : String) (T : u_T) (N : Nat), jj_cl[c]? = some (C, T, N) ∧ j < N ∧ (Cond.fieldLink own idx (T j).1 (T j).2.1 (T j).2.2.1 ∈ jBG ∨ ∃ host, Cond.fieldLinkNest own idx (T j).1 (T j).2.1 (T j).2.2.1 host ∈ lw_tbl)
/-- a site of a field: written -/
def jFP (own name : String) (idx c j : Nat) (ty : FieldType) : Prop := ∃ (C : String) (T : u_T) (N : Nat), jj_cl[c]? = some (C, T, N) ∧ j < N ∧ parseFieldDescriptor (T j).2.2.1 = some ty ∧
  (((T j).2.2.2 = false ∧ (Cond.fieldLink own idx (T j).1 (T j).2.1 (T j).2.2.1 ∈ jBG ∨ ∃ host, Cond.fieldLinkNest own idx (T j).1 (T j).2.1 (T j).2.2.1 host ∈ lw_tbl)) ∨ ((T j).2.2.2 = true ∧ name = "<init>" ∧ (T j).1 = own ∧ Cond.fieldLink own idx (T j).1 (T j).2.1 (T j).2.2.1 ∈ jBG))
def jPV (ty : FieldType) (v : AV) : Prop := ∀ g : GX, narrow ty (jcv g v) = jcv g v ∧ fits ty (jcv g v) = true
theorem jPV_int (x : Int32) : jPV .int (.inl x) := fun _ => ⟨rfl, rfl⟩
theorem jPV_long (x : Int64) : jPV .long (.inr (.inl x)) := fun _ => ⟨rfl, rfl⟩
theorem jPV_obj (C : String) (o : Option Nat) : jPV (.object C) (.inr (.inr (.inl o))) := fun _ => by cases o <;> exact ⟨rfl, rfl⟩
theorem jPV_arr (t : FieldType) (o : Option Nat) : jPV (.array t) (.inr (.inr (.inl o))) := fun _ => by cases o <;> exact ⟨rfl, rfl⟩
theorem jPV_z0 : jPV .boolean (.inl 0) := fun _ => ⟨by simp only [jcv]; decide, by simp only [jcv]; decide⟩
theorem jPV_z1 : jPV .boolean (.inl 1) := fun _ => ⟨by simp only [jcv]; decide, by simp only [jcv]; decide⟩
theorem jPV_z {x : Int32} (h : x = 0 ∨ x = 1) : jPV .boolean (.inl x) := by
  rcases h with rfl | rfl
  · exact jPV_z0
  · exact jPV_z1
section
variable {l : Launch} {g : GX} {md : MD} {R : Room} {Q : jQ} {pc : Nat} {ls : List (Nat × AV)} {st : List AV} {ah : AH} {cs : Nat × Nat}
theorem J_getf {o : Option Nat} {c j idx : Nat} {v : AV} (hd : decode md.2.1 pc = .ok (.getfield idx, 3)) (hs : jFL md.1.cls idx c j) (h : qf ah o c j = some v) (k : J l g md R Q (pc + 3) ls (v :: st) ah cs) : J l g md R Q pc ls (.inr (.inr (.inl o)) :: st) ah cs := by
  intro p e s m args below meth cd H locs la hC hz hP hS hl
  have kk := k p e s m args below meth cd H locs la hC hz hP hS hl
  obtain ⟨hx, hb, hr, hml, hown, hts, hlk, hnm, hK, hAm, hN⟩ := hC
  obtain ⟨a, fs, rfl, hc, hv⟩ := qf_spec h
  obtain ⟨C, T, N, e1, e2, e3⟩ := hs
  have hv' : (fs.map (jcv g))[j]? = some (jcv g v) := by rw [List.getElem?_map, hv]; rfl
  rcases e3 with e3 | ⟨host, e3⟩
  · exact va_get hx hb hts (jPt_all e1).1 hown hK hP a (jw_get hc) e1 j e2 (hts _ e3) (fun _ h => h) hv' hd kk
  · exact va_getN hx hb hts (jPt_all e1).1 hown hK hP a (jw_get hc) e1 j e2 (va_Nw.use rfl (hAm.2.2.2.2.1 _ _ _ _ _ _ e3)) (fun _ h => h) hv' hd kk
theorem J_getI {o : Option Nat} {c j idx : Nat} {x : Int32} (hd : decode md.2.1 pc = .ok (.getfield idx, 3)) (hs : jFL md.1.cls idx c j) (h : gI ah o c j = some x) (k : J l g md R Q (pc + 3) ls (.inl x :: st) ah cs) : J l g md R Q pc ls (.inr (.inr (.inl o)) :: st) ah cs := J_getf hd hs (gI_spec h) k
theorem J_getL {o : Option Nat} {c j idx : Nat} {x : Int64} (hd : decode md.2.1 pc = .ok (.getfield idx, 3)) (hs : jFL md.1.cls idx c j) (h : gL ah o c j = some x) (k : J l g md R Q (pc + 3) ls (.inr (.inl x) :: st) ah cs) : J l g md R Q pc ls (.inr (.inr (.inl o)) :: st) ah cs := J_getf hd hs (gL_spec h) k
theorem J_getR {o x : Option Nat} {c j idx : Nat} (hd : decode md.2.1 pc = .ok (.getfield idx, 3)) (hs : jFL md.1.cls idx c j) (h : gR ah o c j = some x) (k : J l g md R Q (pc + 3) ls (.inr (.inr (.inl x)) :: st) ah cs) : J l g md R Q pc ls (.inr (.inr (.inl o)) :: st) ah cs := J_getf hd hs (gR_spec h) k
theorem J_put {o : Option Nat} {c j idx : Nat} {v : AV} {ty : FieldType} {ah' : AH} (hd : decode md.2.1 pc = .ok (.putfield idx, 3)) (hs : jFP md.1.cls md.1.name idx c j ty) (hv : jPV ty v) (h : sF ah o c j v = some ah') (k : J l g md R Q (pc + 3) ls st ah' cs) : J l g md R Q pc ls (v :: .inr (.inr (.inl o)) :: st) ah cs := by
  intro p e s m args below meth cd H locs la hC hz hP hS hl
  have hC0 := hC
  obtain ⟨hx, hb, hr, hml, hown, hts, hlk, hnm, hK, hAm, hN⟩ := hC
  obtain ⟨a, fs, rfl, hc, hj, rfl⟩ := sF_spec h
  obtain ⟨C, T, N, e1, e2, e3, e4⟩ := hs
  obtain ⟨q1, ty0, q2, q3⟩ := jPt_all e1
  have hsz : ∀ (H1 : Heap) (locs1 : List Loc), va_P (jD g) jj_cl ((jw g ah).set a (jN g + a, .inr (c, (fs.map (jcv g)).set j (jcv g v)))) H1 → va_D (jA g) ((jw g ah).set a (jN g + a, .inr (c, (fs.map (jcv g)).set j (jcv g v)))) → va_S (jA g) s.heap H1 locs1 → W p l e R s m args below meth cd H1 locs1 cs.1 cs.2 (Q below args s) (F0 m (pc + 3) la (st.map (jcv g))) := by
    intro H1 locs1 hP1 _ hS1
    refine k p e s m args below meth cd H1 locs1 la hC0 (by rw [hz, List.length_set]) ?_ hS1 hl
    rw [jw_set, jce_setF]
    exact hP1
  have hj' : j < (fs.map (jcv g)).length := by rw [List.length_map]; exact hj
  rcases e4 with ⟨f1, f2⟩ | ⟨f1, f2, f3, f4⟩
  · rcases f2 with f2 | ⟨host, f2⟩
    · exact va_put hx hb hts q1 ty0 q2 q3 hown hK hP (jw_D g ah) hS a (jw_get hc) e1 j e2 (hts _ f2) (fun _ h => h) f1 e3 (hv g).1 (hv g).2 hj' hd hsz
    · exact va_putN hx hb hts q1 ty0 q2 q3 hown hK hP (jw_D g ah) hS a (jw_get hc) e1 j e2 (va_Nw.use rfl (hAm.2.2.2.2.1 _ _ _ _ _ _ f2)) (fun _ h => h) f1 e3 (hv g).1 (hv g).2 hj' hd hsz
  · exact va_putF hx hb hts q1 ty0 q2 q3 hown hK hP (jw_D g ah) hS a (jw_get hc) e1 j e2 (hts _ f4) (fun _ h => h) f1 (hnm.trans f2) f3 e3 (hv g).1 (hv g).2 hj' hd hsz
theorem J_iald {o : Option Nat} {i x : Int32} (hd : decode md.2.1 pc = .ok (.iaload, 1)) (h : gA ah o i = some x) (k : J l g md R Q (pc + 1) ls (.inl x :: st) ah cs) : J l g md R Q pc ls (.inl i :: .inr (.inr (.inl o)) :: st) ah cs := by
  intro p e s m args below meth cd H locs la hC hz hP hS hl
  have kk := k p e s m args below meth cd H locs la hC hz hP hS hl
  obtain ⟨hx, hb, hr, hml, hown, hts, hlk, hnm, hK, hAm, hN⟩ := hC
  obtain ⟨a, xs, rfl, hc, hi, rfl⟩ := gA_spec h
  exact va_iald hx hb hK hP a 0 (jw_get hc) rfl hi hd kk
theorem J_iast {o : Option Nat} {i x : Int32} {ah' : AH} (hd : decode md.2.1 pc = .ok (.iastore, 1)) (h : sA ah o i x = some ah') (k : J l g md R Q (pc + 1) ls st ah' cs) : J l g md R Q pc ls (.inl x :: .inl i :: .inr (.inr (.inl o)) :: st) ah cs := by
  intro p e s m args below meth cd H locs la hC hz hP hS hl
  have hC0 := hC
  obtain ⟨hx, hb, hr, hml, hown, hts, hlk, hnm, hK, hAm, hN⟩ := hC
  obtain ⟨a, xs, rfl, hc, hi, rfl⟩ := sA_spec h
  refine va_iast hx hb hK hP (jw_D g ah) hS a 0 (jw_get hc) rfl hi hd fun H1 locs1 hP1 _ hS1 => ?_
  refine k p e s m args below meth cd H1 locs1 la hC0 (by rw [hz, List.length_set]) ?_ hS1 hl
  rw [jw_set, jce_set g xs _ x (Nat.not_le.mp fun q => hi (Or.inr q))]
  exact hP1
theorem J_alen {o : Option Nat} {x : Int32} (hd : decode md.2.1 pc = .ok (.arraylength, 1)) (h : lA ah o = some x) (k : J l g md R Q (pc + 1) ls (.inl x :: st) ah cs) : J l g md R Q pc ls (.inr (.inr (.inl o)) :: st) ah cs := by
  intro p e s m args below meth cd H locs la hC hz hP hS hl
  have kk := k p e s m args below meth cd H locs la hC hz hP hS hl
  obtain ⟨hx, hb, hr, hml, hown, hts, hlk, hnm, hK, hAm, hN⟩ := hC
  unfold lA at h
  split at h
  · cases h
  · rename_i a
    split at h
    · rename_i xs hc
      cases h
      exact va_alen hx hb hK hP a 0 (jw_get hc) (ty := .int) rfl rfl hd kk
    · rename_i t rs hc
      cases h
      by_cases ht : t = 0
      · subst ht
        exact va_alen hx hb hK hP a 1 (jw_get hc) (ty := .object "EnemyByLot$Line") rfl rfl hd kk
      · refine va_alen hx hb hK hP a 2 (jw_get hc) (ty := .object "EnemyByLot$Town") ?_ rfl hd kk
        show some ((jC g).2.2, _) = _
        rw [if_neg ht]
    · cases h
theorem J_aald {o x : Option Nat} {i : Int32} (hd : decode md.2.1 pc = .ok (.aaload, 1)) (h : gE ah o i = some x) (k : J l g md R Q (pc + 1) ls (.inr (.inr (.inl x)) :: st) ah cs) : J l g md R Q pc ls (.inl i :: .inr (.inr (.inl o)) :: st) ah cs := by
  intro p e s m args below meth cd H locs la hC hz hP hS hl
  have kk := k p e s m args below meth cd H locs la hC hz hP hS hl
  obtain ⟨hx, hb, hr, hml, hown, hts, hlk, hnm, hK, hAm, hN⟩ := hC
  unfold gE at h
  split at h
  · cases h
  · rename_i a
    split at h
    · rename_i t rs hc
      split at h
      · cases h
      · rename_i hi
        have h1 := (List.getElem?_eq_some_iff.mp h).1
        have hin : vp_in i rs.length := fun q => by
          rcases q with q | q
          · exact hi q
          · omega
        have hv : va_rf ((rs.getD i.toNatClampNeg none).map (fun k => jN g + k)) = jcv g (.inr (.inr (.inl x))) := by
          rw [List.getD_eq_getElem?_getD, h]
          cases x <;> rfl
        by_cases ht : t = 0
        · subst ht
          refine va_aldq (C := "EnemyByLot$Line") hx hb hK hP a 1 (jw_get hc) rfl hin hd ?_
          rw [hv]
          exact kk
        · refine va_aldq (C := "EnemyByLot$Town") hx hb hK hP a 2 (jw_get hc) ?_ hin hd ?_
          · show some ((jC g).2.2, _) = _
            rw [if_neg ht]
          · rw [hv]
            exact kk
    · cases h
theorem jce_setE (g : GX) (t : Nat) (rs : List (Option Nat)) (i k : Nat) (h : i < rs.length) : jce g (.inr (.inl (t, rs.set i (some k)))) = .inl (if t = 0 then (jC g).2.1 else (jC g).2.2, rs.length, .inr (.inr (.inr (.inr (va_up (fun j => (rs.getD j none).map (fun k => jN g + k)) i (some (jN g + k))))))) := by
  have e : (fun j => ((rs.set i (some k)).getD j none).map (fun k => jN g + k)) = va_up (fun j => (rs.getD j none).map (fun k => jN g + k)) i (some (jN g + k)) := by
    funext j
    simp only [List.getD_eq_getElem?_getD, List.getElem?_set, va_up]
    by_cases hj : i = j
    · subst hj
      simp [h]
    · simp [hj, Ne.symm hj]
  simp only [jce, List.length_set]
  rw [e]
theorem J_aast {o v : Option Nat} {i : Int32} {ah' : AH} (hd : decode md.2.1 pc = .ok (.aastore, 1)) (h : sE ah o i v = some ah') (k : J l g md R Q (pc + 1) ls st ah' cs) : J l g md R Q pc ls (.inr (.inr (.inl v)) :: .inl i :: .inr (.inr (.inl o)) :: st) ah cs := by
  intro p e s m args below meth cd H locs la hC hz hP hS hl
  have hC0 := hC
  obtain ⟨hx, hb, hr, hml, hown, hts, hlk, hnm, hK, hAm, hN⟩ := hC
  unfold sE at h
  split at h
  · rename_i a a2
    split at h
    · rename_i t rs ci fs hc hc2
      split at h
      · rename_i hq
        obtain ⟨⟨q1, q2⟩, q3⟩ := hq
        cases h
        have hin : vp_in i rs.length := fun q => by
          rcases q with q | q
          · exact q1 q
          · omega
        have fin : ∀ (H1 : Heap) (locs1 : List Loc), va_P (jD g) jj_cl ((jw g ah).set a (jN g + a, .inl (if t = 0 then (jC g).2.1 else (jC g).2.2, rs.length, .inr (.inr (.inr (.inr (va_up (fun j => (rs.getD j none).map (fun k => jN g + k)) i.toNatClampNeg (some (jN g + a2))))))))) H1 → va_D (jA g) ((jw g ah).set a (jN g + a, .inl (if t = 0 then (jC g).2.1 else (jC g).2.2, rs.length, .inr (.inr (.inr (.inr (va_up (fun j => (rs.getD j none).map (fun k => jN g + k)) i.toNatClampNeg (some (jN g + a2))))))))) → va_S (jA g) s.heap H1 locs1 → W p l e R s m args below meth cd H1 locs1 cs.1 cs.2 (Q below args s) (F0 m (pc + 1) la (st.map (jcv g))) := by
          intro H1 locs1 hP1 _ hS1
          refine k p e s m args below meth cd H1 locs1 la hC0 (by rw [hz, List.length_set]) ?_ hS1 hl
          rw [jw_set, jce_setE g t rs _ a2 q2]
          exact hP1
        rcases q3 with ⟨rfl, rfl⟩ | ⟨rfl, rfl⟩
        · exact va_astq hx hb hK hP (jw_D g ah) hS a 1 a2 2 (r := (RX2, TX2, 2)) (jw_get hc) rfl (jw_get hc2) rfl hin hd fin
        · exact va_astq hx hb hK hP (jw_D g ah) hS a 2 a2 4 (r := (RX4, TX4, 5)) (jw_get hc) rfl (jw_get hc2) rfl hin hd fin
      · cases h
    · cases h
  · cases h
theorem J_gets {idx : Nat} {host : String} (hd : decode md.2.1 pc = .ok (.getstatic idx, 3)) (hs : Cond.fieldLinkNest md.1.cls idx "EnemyByLot" "LETTERS" "[I" host ∈ lw_tbl) (k : J l g md R Q (pc + 3) ls (.inr (.inr (.inr true)) :: st) ah cs) : J l g md R Q pc ls st ah cs := by
  intro p e s m args below meth cd H locs la hC hz hP hS hl
  have kk := k p e s m args below meth cd H locs la hC hz hP hS hl
  obtain ⟨hx, hb, hr, hml, hown, hts, hlk, hnm, hK, hAm, hN⟩ := hC
  exact va_getsN hx hb hAm.2.2.1 hS hown (va_Nw.use rfl (hAm.2.2.2.2.1 _ _ _ _ _ _ hs)) (fun _ h => h) hd kk
theorem J_tlen (hd : decode md.2.1 pc = .ok (.arraylength, 1)) (k : J l g md R Q (pc + 1) ls (.inl 6 :: st) ah cs) : J l g md R Q pc ls (.inr (.inr (.inr true)) :: st) ah cs := by
  intro p e s m args below meth cd H locs la hC hz hP hS hl
  have kk := k p e s m args below meth cd H locs la hC hz hP hS hl
  obtain ⟨hx, hb, hr, hml, hown, hts, hlk, hnm, hK, hAm, hN⟩ := hC
  exact va_tlen hx hb hAm.2.2.2.1 hS rfl hd kk
theorem J_tget {i x : Int32} (hd : decode md.2.1 pc = .ok (.iaload, 1)) (h : gT i = some x) (k : J l g md R Q (pc + 1) ls (.inl x :: st) ah cs) : J l g md R Q pc ls (.inl i :: .inr (.inr (.inr true)) :: st) ah cs := by
  intro p e s m args below meth cd H locs la hC hz hP hS hl
  have kk := k p e s m args below meth cd H locs la hC hz hP hS hl
  obtain ⟨hx, hb, hr, hml, hown, hts, hlk, hnm, hK, hAm, hN⟩ := hC
  unfold gT at h
  split at h
  · rename_i hq
    cases h
    refine va_ti hx hb hAm.2.2.2.1 hS (fun q => ?_) rfl hd kk
    rcases q with q | q
    · exact hq.1 q
    · have := hq.2
      omega
  · cases h
theorem J_slen (hd : decode md.2.1 pc = .ok (.arraylength, 1)) (k : J l g md R Q (pc + 1) ls (.inl (Int32.ofNat (jL g)) :: st) ah cs) : J l g md R Q pc ls (.inr (.inr (.inr false)) :: st) ah cs := by
  intro p e s m args below meth cd H locs la hC hz hP hS hl
  have kk := k p e s m args below meth cd H locs la hC hz hP hS hl
  obtain ⟨hx, hb, hr, hml, hown, hts, hlk, hnm, hK, hAm, hN⟩ := hC
  have h1 := hAm.2.1
  exact va_slen hx hb hAm.1 (by omega) (fun q => by have : jN g ≤ jb g := q; omega) hS hd kk
theorem J_sget {i x : Int32} (hd : decode md.2.1 pc = .ok (.iaload, 1)) (h : gS g i = some x) (k : J l g md R Q (pc + 1) ls (.inl x :: st) ah cs) : J l g md R Q pc ls (.inl i :: .inr (.inr (.inr false)) :: st) ah cs := by
  intro p e s m args below meth cd H locs la hC hz hP hS hl
  have kk := k p e s m args below meth cd H locs la hC hz hP hS hl
  obtain ⟨hx, hb, hr, hml, hown, hts, hlk, hnm, hK, hAm, hN⟩ := hC
  have h1 := hAm.2.1
  unfold gS at h
  split at h
  · rename_i hq
    cases h
    refine va_sld hx hb hAm.1 (by omega) (fun q => by have : jN g ≤ jb g := q; omega) hS (fun q => ?_) hd kk
    rcases q with q | q
    · exact hq.1 q
    · have := hq.2
      omega
  · cases h
end
