/-! ===== plain instructions as a function; a run of them ===== -/
def jld : List (Nat × AV) → Nat → Option AV
  | [], _ => none
  | (k, v) :: r, i => if k = i then some v else jld r i
def jisL : AV → Bool
  | .inr (.inl _) => true
  | _ => false
def jst1 (ls : List (Nat × AV)) (i : Nat) (v : AV) : List (Nat × AV) := (i, v) :: ls.filter (fun q => !(q.1 == i) && !(q.1 + 1 == i && jisL q.2))
def jst2 (ls : List (Nat × AV)) (i : Nat) (v : AV) : List (Nat × AV) := (i, v) :: ls.filter (fun q => !(q.1 == i) && (!(q.1 == i + 1) && !(q.1 + 1 == i && jisL q.2)))
theorem jcat (g : GX) (v : AV) : ((jcv g v).category == 2) = jisL v := by
  obtain x | x | (_ | x) | (_ | _) := v <;> rfl
theorem jld_mem : ∀ {ls : List (Nat × AV)} {i : Nat} {v : AV}, jld ls i = some v → (i, v) ∈ ls
  | [], _, _, h => by cases h
  | (k, w) :: r, i, v, h => by
    unfold jld at h
    by_cases hk : k = i
    · rw [if_pos hk] at h
      cases h
      subst hk
      exact List.mem_cons_self
    · rw [if_neg hk] at h
      exact List.mem_cons_of_mem _ (jld_mem h)
theorem jld_at {g : GX} {la : Array Slot} {n : Nat} {ls : List (Nat × AV)} (hl : lv_has la n (ls.map fun q => (q.1, jcv g q.2))) {i : Nat} {v : AV} (h : jld ls i = some v) : la[i]? = some (.val (jcv g v)) :=
  hl.2.2 (i, jcv g v) (List.mem_map.mpr ⟨(i, v), jld_mem h, rfl⟩)
theorem jst1_eq (g : GX) (ls : List (Nat × AV)) (i : Nat) (v : AV) : (i, jcv g v) :: (ls.map fun q => (q.1, jcv g q.2)).filter (fun q => !(q.1 == i) && !(q.1 + 1 == i && q.2.category == 2)) = (jst1 ls i v).map fun q => (q.1, jcv g q.2) := by
  simp only [jst1, List.map_cons, List.filter_map, List.cons.injEq, true_and]
  congr 1
  apply List.filter_congr
  intro q _
  simp only [Function.comp, jcat]
theorem jst2_eq (g : GX) (ls : List (Nat × AV)) (i : Nat) (v : AV) : (i, jcv g v) :: (ls.map fun q => (q.1, jcv g q.2)).filter (fun q => !(q.1 == i) && (!(q.1 == i + 1) && !(q.1 + 1 == i && q.2.category == 2))) = (jst2 ls i v).map fun q => (q.1, jcv g q.2) := by
  simp only [jst2, List.map_cons, List.filter_map, List.cons.injEq, true_and]
  congr 1
  apply List.filter_congr
  intro q _
  simp only [Function.comp, jcat]
def jlen : Instr → Nat
  | .bipush _ | .iload _ | .lload _ | .aload _ | .istore _ | .lstore _ | .astore _ | .newarray _ => 2
  | .sipush _ | .iinc _ _ | .goto _ | .ifCond _ _ | .if_icmp _ _ | .ifnull _ | .ifnonnull _ | .getfield _ | .putfield _ | .getstatic _ | .new _ | .anewarray _ | .invokevirtual _ | .invokespecial _ | .invokestatic _ | .ldc2_w _ | .ldc_w _ => 3
  | _ => 1
abbrev JF : Type := Nat × List (Nat × AV) × List AV
def jI (mL : Nat) (i : Nat) (pc : Nat) (ls : List (Nat × AV)) : List AV → Option JF
  | .inl x :: st => if i < mL then some (pc, jst1 ls i (.inl x), st) else none
  | _ => none
def jLo (mL : Nat) (i : Nat) (pc : Nat) (ls : List (Nat × AV)) : List AV → Option JF
  | .inr (.inl x) :: st => if i + 1 < mL then some (pc, jst2 ls i (.inr (.inl x)), st) else none
  | _ => none
def jRe (mL : Nat) (i : Nat) (pc : Nat) (ls : List (Nat × AV)) : List AV → Option JF
  | .inr (.inr (.inl x)) :: st => if i < mL then some (pc, jst1 ls i (.inr (.inr (.inl x))), st) else none
  | _ => none
def jlI (i : Nat) (pc : Nat) (ls : List (Nat × AV)) (st : List AV) : Option JF :=
  match jld ls i with
  | some (.inl x) => some (pc, ls, .inl x :: st)
  | _ => none
def jlL (i : Nat) (pc : Nat) (ls : List (Nat × AV)) (st : List AV) : Option JF :=
  match jld ls i with
  | some (.inr (.inl x)) => some (pc, ls, .inr (.inl x) :: st)
  | _ => none
def jlR (i : Nat) (pc : Nat) (ls : List (Nat × AV)) (st : List AV) : Option JF :=
  match jld ls i with
  | some (.inr (.inr x)) => some (pc, ls, .inr (.inr x) :: st)
  | _ => none
def jb2 (f : Int32 → Int32 → Int32) (pc : Nat) (ls : List (Nat × AV)) : List AV → Option JF
  | .inl y :: .inl x :: st => some (pc, ls, .inl (f x y) :: st)
  | _ => none
def jb3 (f : Int64 → Int64 → Int64) (pc : Nat) (ls : List (Nat × AV)) : List AV → Option JF
  | .inr (.inl y) :: .inr (.inl x) :: st => some (pc, ls, .inr (.inl (f x y)) :: st)
  | _ => none
def jstp (mL : Nat) (i : Instr) (pc : Nat) (ls : List (Nat × AV)) (st : List AV) : Option JF :=
  match i with
  | .iconst v => some (pc + 1, ls, .inl (Int32.ofInt v) :: st)
  | .bipush v => some (pc + 2, ls, .inl (Int8.ofInt v).toInt32 :: st)
  | .sipush v => some (pc + 3, ls, .inl (Int16.ofInt v).toInt32 :: st)
  | .lconst v => some (pc + 1, ls, .inr (.inl (Int64.ofNat (v : Nat))) :: st)
  | .aconst_null => some (pc + 1, ls, .inr (.inr (.inl none)) :: st)
  | .iload k => jlI k (pc + 2) ls st
  | .iload_n k => jlI (k : Nat) (pc + 1) ls st
  | .lload k => jlL k (pc + 2) ls st
  | .lload_n k => jlL (k : Nat) (pc + 1) ls st
  | .aload k => jlR k (pc + 2) ls st
  | .aload_n k => jlR (k : Nat) (pc + 1) ls st
  | .istore k => jI mL k (pc + 2) ls st
  | .istore_n k => jI mL (k : Nat) (pc + 1) ls st
  | .lstore k => jLo mL k (pc + 2) ls st
  | .lstore_n k => jLo mL (k : Nat) (pc + 1) ls st
  | .astore k => jRe mL k (pc + 2) ls st
  | .astore_n k => jRe mL (k : Nat) (pc + 1) ls st
  | .iinc k v => (match jld ls k with
    | some (.inl x) => if k < mL then some (pc + 3, jst1 ls k (.inl (x + Int32.ofInt v)), st) else none
    | _ => none)
  | .iadd => jb2 (fun x y => x + y) (pc + 1) ls st
  | .isub => jb2 (fun x y => x - y) (pc + 1) ls st
  | .imul => jb2 (fun x y => x * y) (pc + 1) ls st
  | .iand => jb2 (fun x y => x &&& y) (pc + 1) ls st
  | .ior => jb2 (fun x y => x ||| y) (pc + 1) ls st
  | .ixor => jb2 (fun x y => x ^^^ y) (pc + 1) ls st
  | .ishl => jb2 (fun x y => x <<< (y &&& 31)) (pc + 1) ls st
  | .ishr => jb2 (fun x y => x >>> (y &&& 31)) (pc + 1) ls st
  | .iushr => jb2 (fun x y => (x.toUInt32 >>> (y.toUInt32 &&& Int32.toUInt32 31)).toInt32) (pc + 1) ls st
  | .ladd => jb3 (fun x y => x + y) (pc + 1) ls st
  | .lmul => jb3 (fun x y => x * y) (pc + 1) ls st
  | .lcmp => (match st with
    | .inr (.inl y) :: .inr (.inl x) :: st => some (pc + 1, ls, .inl (lg_cmp x y) :: st)
    | _ => none)
  | .i2l => (match st with
    | .inl x :: st => some (pc + 1, ls, .inr (.inl x.toInt64) :: st)
    | _ => none)
  | .l2i => (match st with
    | .inr (.inl x) :: st => some (pc + 1, ls, .inl x.toInt32 :: st)
    | _ => none)
  | .i2b => (match st with
    | .inl x :: st => some (pc + 1, ls, .inl x.toInt8.toInt32 :: st)
    | _ => none)
  | .dup => (match st with
    | .inr (.inr x) :: st => some (pc + 1, ls, .inr (.inr x) :: .inr (.inr x) :: st)
    | .inl x :: st => some (pc + 1, ls, .inl x :: .inl x :: st)
    | _ => none)
  | .dup2 => (match st with
    | .inl x :: .inr (.inr y) :: st => some (pc + 1, ls, .inl x :: .inr (.inr y) :: .inl x :: .inr (.inr y) :: st)
    | _ => none)
  | .goto off => if 0 ≤ (pc : Int) + off then some (((pc : Int) + off).toNat, ls, st) else none
  | _ => none
section
variable {l : Launch} {g : GX} {md : MD} {R : Room} {Q : jQ} {pc : Nat} {ls : List (Nat × AV)} {st : List AV} {ah : AH} {cs : Nat × Nat}
theorem J_stp {i : Instr} {pc' : Nat} {ls' : List (Nat × AV)} {st' : List AV} (hd : decode md.2.1 pc = .ok (i, jlen i)) (h : jstp md.2.2.1 i pc ls st = some (pc', ls', st')) (k : J l g md R Q pc' ls' st' ah cs) : J l g md R Q pc ls st ah cs := by
  intro p e s m args below meth c H locs la hC hz hP hS hl
  have kk := fun la' hl' => k p e s m args below meth c H locs la' hC hz hP hS hl'
  obtain ⟨hx, hb, -⟩ := hC
  unfold jstp at h
  split at h
  · cases h; exact lv_iconst hx hb hd rfl (kk la hl)
  · cases h; exact lv_bipush hx hb hd rfl (kk la hl)
  · cases h; exact lv_sipush hx hb hd rfl (kk la hl)
  · cases h; exact lv_lconst hx hb hd rfl (kk la hl)
  · cases h; exact lv_null hx hb hd (kk la hl)
  · unfold jlI at h
    split at h
    · rename_i hq
      cases h; exact lv_iload hx hb hd (jld_at hl hq) (kk la hl)
    · cases h
  · unfold jlI at h
    split at h
    · rename_i hq
      cases h; exact lv_iload_n hx hb hd rfl (jld_at hl hq) (kk la hl)
    · cases h
  · unfold jlL at h
    split at h
    · rename_i hq
      cases h; exact lv_lload hx hb hd (jld_at hl hq) (kk la hl)
    · cases h
  · unfold jlL at h
    split at h
    · rename_i hq
      cases h; exact lv_lload_n hx hb hd rfl (jld_at hl hq) (kk la hl)
    · cases h
  · unfold jlR at h
    split at h
    · rename_i v hq
      cases h
      obtain (_ | v) | (_ | _) := v
      · exact lv_aloadN hx hb hd (jld_at hl hq) (kk la hl)
      · exact lv_aload hx hb hd (jld_at hl hq) (kk la hl)
      · exact lv_aload hx hb hd (jld_at hl hq) (kk la hl)
      · exact lv_aload hx hb hd (jld_at hl hq) (kk la hl)
    · cases h
  · unfold jlR at h
    split at h
    · rename_i v hq
      cases h
      obtain (_ | v) | (_ | _) := v
      · exact lv_aload_nN hx hb hd rfl (jld_at hl hq) (kk la hl)
      · exact lv_aload_n hx hb hd rfl (jld_at hl hq) (kk la hl)
      · exact lv_aload_n hx hb hd rfl (jld_at hl hq) (kk la hl)
      · exact lv_aload_n hx hb hd rfl (jld_at hl hq) (kk la hl)
    · cases h
  · unfold jI at h
    split at h
    · split at h
      · rename_i hq
        cases h; exact lv_istore hx hb hd hl hq (jst1_eq g _ _ (.inl _)) kk
      · cases h
    · cases h
  · unfold jI at h
    split at h
    · split at h
      · rename_i hq
        cases h; exact lv_istore_n hx hb hd rfl hl hq (jst1_eq g _ _ (.inl _)) kk
      · cases h
    · cases h
  · unfold jLo at h
    split at h
    · split at h
      · rename_i hq
        cases h; exact lv_lstore hx hb hd hl hq (jst2_eq g _ _ (.inr (.inl _))) kk
      · cases h
    · cases h
  · unfold jLo at h
    split at h
    · split at h
      · rename_i hq
        cases h; exact lv_lstore_n hx hb hd rfl hl hq (jst2_eq g _ _ (.inr (.inl _))) kk
      · cases h
    · cases h
  · unfold jRe at h
    split at h
    · rename_i v _
      split at h
      · rename_i hq
        cases h
        obtain _ | v := v
        · exact lv_astoreN hx hb hd hl hq (jst1_eq g _ _ (.inr (.inr (.inl none)))) kk
        · exact lv_astore hx hb hd hl hq (jst1_eq g _ _ (.inr (.inr (.inl (some _))))) kk
      · cases h
    · cases h
  · unfold jRe at h
    split at h
    · rename_i v _
      split at h
      · rename_i hq
        cases h
        obtain _ | v := v
        · exact lv_astore_nN hx hb hd rfl hl hq (jst1_eq g _ _ (.inr (.inr (.inl none)))) kk
        · exact lv_astore_n hx hb hd rfl hl hq (jst1_eq g _ _ (.inr (.inr (.inl (some _))))) kk
      · cases h
    · cases h
  · split at h
    · rename_i hq
      split at h
      · rename_i hn
        cases h
        obtain ⟨j, hj⟩ := List.getElem?_of_mem (jld_mem hq)
        refine lv_iinc hx hb hd hl (k := j) ?_ rfl hn (jst1_eq g _ _ (.inl _)) kk
        rw [List.getElem?_map, hj]
        rfl
      · cases h
    · cases h
  · unfold jb2 at h; split at h <;> cases h; exact lv_iadd hx hb hd (kk la hl)
  · unfold jb2 at h; split at h <;> cases h; exact lv_isub hx hb hd (kk la hl)
  · unfold jb2 at h; split at h <;> cases h; exact lv_imul hx hb hd (kk la hl)
  · unfold jb2 at h; split at h <;> cases h; exact lv_iand hx hb hd (kk la hl)
  · unfold jb2 at h; split at h <;> cases h; exact lv_ior hx hb hd (kk la hl)
  · unfold jb2 at h; split at h <;> cases h; exact lv_ixor hx hb hd (kk la hl)
  · unfold jb2 at h; split at h <;> cases h; exact lv_ishl hx hb hd (kk la hl)
  · unfold jb2 at h; split at h <;> cases h; exact lv_ishr hx hb hd (kk la hl)
  · unfold jb2 at h; split at h <;> cases h; exact lv_iushr hx hb hd rfl (kk la hl)
  · unfold jb3 at h; split at h <;> cases h; exact lv_ladd hx hb hd (kk la hl)
  · unfold jb3 at h; split at h <;> cases h; exact lv_lmul hx hb hd (kk la hl)
  · split at h <;> cases h; exact W.lcmp hx hb hd (kk la hl)
  · split at h <;> cases h; exact lv_i2l hx hb hd rfl (kk la hl)
  · split at h <;> cases h; exact lv_l2i hx hb hd rfl (kk la hl)
  · split at h <;> cases h; exact lv_i2b hx hb hd rfl (kk la hl)
  · split at h
    · rename_i v _
      cases h
      obtain (_ | v) | (_ | _) := v <;> exact lv_dup hx hb hd rfl (kk la hl)
    · cases h; exact lv_dup hx hb hd rfl (kk la hl)
    · cases h
  · split at h
    · rename_i v _
      cases h
      obtain (_ | v) | (_ | _) := v <;> exact lv_dup2_11 hx hb hd rfl rfl (kk la hl)
    · cases h
  · split at h
    · rename_i hq
      cases h; exact lv_goto hx hb hd (by omega) (kk la hl)
    · cases h
  · cases h
def jrun (mL : Nat) : List (Nat × Instr) → Nat → List (Nat × AV) → List AV → Option JF
  | [], pc, ls, st => some (pc, ls, st)
  | (q, i) :: r, pc, ls, st => if q = pc then (match jstp mL i pc ls st with
    | some (pc', ls', st') => jrun mL r pc' ls' st'
    | none => none) else none
def jOk (md : MD) (tb : List (Nat × Instr)) : Prop := ∀ (k : Nat) (e : Nat × Instr), tb[k]? = some e → decode md.2.1 e.1 = .ok (e.2, jlen e.2)
theorem jOk_of {md : MD} {tb : List (Nat × Instr)} (h : tb.all (fun e => decide (decode md.2.1 e.1 = .ok (e.2, jlen e.2))) = true) : jOk md tb := fun k e hk => by
  have h1 := List.all_eq_true.mp h e (List.mem_of_getElem? hk)
  exact of_decide_eq_true h1
theorem J_run (seg : List (Nat × Instr)) : ∀ {pc pc' : Nat} {ls ls' : List (Nat × AV)} {st st' : List AV}, (∀ e ∈ seg, decode md.2.1 e.1 = .ok (e.2, jlen e.2)) → jrun md.2.2.1 seg pc ls st = some (pc', ls', st') → J l g md R Q pc' ls' st' ah cs → J l g md R Q pc ls st ah cs := by
  induction seg with
  | nil =>
    intro pc pc' ls ls' st st' _ h k
    cases h
    exact k
  | cons a r ih =>
    obtain ⟨q, i⟩ := a
    intro pc pc' ls ls' st st' hd h k
    rw [jrun] at h
    by_cases hq : q = pc
    · rw [if_pos hq] at h
      subst hq
      cases hs : jstp md.2.2.1 i q ls st with
      | none =>
        rw [hs] at h
        cases h
      | some f =>
        obtain ⟨fa, fb, fc⟩ := f
        rw [hs] at h
        exact J_stp (hd (q, i) List.mem_cons_self) hs (ih (fun e he => hd e (List.mem_cons_of_mem _ he)) h k)
    · rw [if_neg hq] at h
      cases h
theorem J_seg {tb : List (Nat × Instr)} (ok : jOk md tb) (i n : Nat) {pc' : Nat} {ls' : List (Nat × AV)} {st' : List AV} (h : jrun md.2.2.1 ((tb.drop i).take n) pc ls st = some (pc', ls', st')) (k : J l g md R Q pc' ls' st' ah cs) : J l g md R Q pc ls st ah cs := by
  refine J_run ((tb.drop i).take n) (fun e he => ?_) h k
  obtain ⟨j, hj⟩ := List.getElem?_of_mem (List.mem_of_mem_drop (List.mem_of_mem_take he))
  exact ok j e hj
end
