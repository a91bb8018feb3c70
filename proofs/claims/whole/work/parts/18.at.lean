theorem jat {md : MD} {tb : List (Nat × Instr)} (ok : jOk md tb) (k : Nat) {pc n : Nat} {i : Instr} (h : tb[k]? = some (pc, i)) (hn : jlen i = n) : decode md.2.1 pc = .ok (i, n) := by
  subst hn
  have h1 := ok k (pc, i) h
  exact h1
