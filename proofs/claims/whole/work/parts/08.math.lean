theorem jat {md : MD} {tb : List (Nat × Instr)} (ok : jOk md tb) (k : Nat) {pc n : Nat} {i : Instr} (h : tb[k]? = some (pc, i)) (hn : jlen i = n) : decode md.2.1 pc = .ok (i, n) := by
  subst hn
  have h1 := ok k (pc, i) h
  exact h1
section
variable {l : Launch} {g : GX} {md : MD} {R : Room} {Q : jQ} {pc : Nat} {ls : List (Nat × AV)} {st : List AV} {ah : AH} {cs : Nat × Nat}
theorem J_max {x y : Int32} {idx : Nat} (hd : decode md.2.1 pc = .ok (.invokestatic idx, 3)) (hlk : Cond.methodLink md.1.cls idx Lib.Math.max.name ∈ jBG) (hi : Cond.static Lib.Math.max.name ∈ jBG ∧ Cond.initialized "java/lang/Math" ∈ jBG ∧ Cond.code Lib.Math.max.name Lib.Math.max.code 2 (some .int) ∈ jBG) (hR : 1 ≤ R.frames ∧ 21 ≤ R.locals) (hw : jwd st ≤ 8) (hf : cs.1 ≤ R.cells ∧ cs.2 ≤ R.slots)
    (k : J l g md R Q (pc + 3) ls (.inl (if x < y then y else x) :: st) ah cs) : J l g md R Q pc ls (.inl y :: .inl x :: st) ah cs := by
  intro p e s m args below meth cd H locs la hC hz hP hS hl
  have kk := k p e s m args below meth cd H locs la hC hz hP hS hl
  obtain ⟨hx, hb, hr0, hml, hown, hts, hlk0, hnm, hK, hAm, hN⟩ := hC
  have h8 : 2 * (F0 m pc la ([] : List Value)).monitorRoom + ((st.map (jcv g)).map fun v => v.category).sum ≤ 8 := jroom hw
  exact va_mmax hx hb (by rw [hml]; exact hl.1.symm) hown (hts _ hlk) (hts _ hi.1) (hts _ hi.2.1) (hts _ hi.2.2) hR.1 (by have := hR.2; omega) hf.1 hf.2 hd kk
theorem J_min {x y : Int32} {idx : Nat} (hd : decode md.2.1 pc = .ok (.invokestatic idx, 3)) (hlk : Cond.methodLink md.1.cls idx Lib.Math.min.name ∈ jBG) (hi : Cond.static Lib.Math.min.name ∈ jBG ∧ Cond.initialized "java/lang/Math" ∈ jBG ∧ Cond.code Lib.Math.min.name Lib.Math.min.code 2 (some .int) ∈ jBG) (hR : 1 ≤ R.frames ∧ 21 ≤ R.locals) (hw : jwd st ≤ 8) (hf : cs.1 ≤ R.cells ∧ cs.2 ≤ R.slots)
    (k : J l g md R Q (pc + 3) ls (.inl (if y < x then y else x) :: st) ah cs) : J l g md R Q pc ls (.inl y :: .inl x :: st) ah cs := by
  intro p e s m args below meth cd H locs la hC hz hP hS hl
  have kk := k p e s m args below meth cd H locs la hC hz hP hS hl
  obtain ⟨hx, hb, hr0, hml, hown, hts, hlk0, hnm, hK, hAm, hN⟩ := hC
  have h8 : 2 * (F0 m pc la ([] : List Value)).monitorRoom + ((st.map (jcv g)).map fun v => v.category).sum ≤ 8 := jroom hw
  exact va_mmin hx hb (by rw [hml]; exact hl.1.symm) hown (hts _ hlk) (hts _ hi.1) (hts _ hi.2.1) (hts _ hi.2.2) hR.1 (by have := hR.2; omega) hf.1 hf.2 hd kk
end
