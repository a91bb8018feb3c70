/-! ===== what the constructors leave ===== -/
def avEq : AV → AV → Bool
  | .inl x, .inl y => x == y
  | .inr (.inl x), .inr (.inl y) => x == y
  | .inr (.inr (.inl x)), .inr (.inr (.inl y)) => x == y
  | .inr (.inr (.inr x)), .inr (.inr (.inr y)) => x == y
  | _, _ => false
theorem avEq_eq {a b : AV} (h : avEq a b = true) : a = b := by
  unfold avEq at h
  split at h
  · rw [eq_of_beq h]
  · rw [eq_of_beq h]
  · rw [eq_of_beq h]
  · rw [eq_of_beq h]
  · cases h
def lEq {α : Type} (e : α → α → Bool) : List α → List α → Bool
  | [], [] => true
  | a :: l, b :: r => e a b && lEq e l r
  | _, _ => false
theorem lEq_eq {α : Type} {e : α → α → Bool} (he : ∀ a b, e a b = true → a = b) : ∀ {l r : List α}, lEq e l r = true → l = r
  | [], [], _ => rfl
  | a :: l, b :: r, h => by
    simp only [lEq, Bool.and_eq_true] at h
    rw [he a b h.1, lEq_eq he h.2]
  | [], _ :: _, h => by cases h
  | _ :: _, [], h => by cases h
def celEq : Cel → Cel → Bool
  | .inl x, .inl y => lEq (fun a b => a == b) x y
  | .inr (.inl x), .inr (.inl y) => x.1 == y.1 && lEq (fun a b => a == b) x.2 y.2
  | .inr (.inr x), .inr (.inr y) => x.1 == y.1 && lEq avEq x.2 y.2
  | _, _ => false
theorem celEq_eq {a b : Cel} (h : celEq a b = true) : a = b := by
  unfold celEq at h
  split at h
  · rw [lEq_eq (fun a b h => eq_of_beq h) h]
  · rename_i x y
    simp only [Bool.and_eq_true] at h
    obtain ⟨x1, x2⟩ := x
    obtain ⟨y1, y2⟩ := y
    have h1 : x1 = y1 := eq_of_beq h.1
    have h2 : x2 = y2 := lEq_eq (fun a b h => eq_of_beq h) h.2
    rw [h1, h2]
  · rename_i x y
    simp only [Bool.and_eq_true] at h
    obtain ⟨x1, x2⟩ := x
    obtain ⟨y1, y2⟩ := y
    have h1 : x1 = y1 := eq_of_beq h.1
    have h2 : x2 = y2 := lEq_eq (fun a b h => avEq_eq h) h.2
    rw [h1, h2]
  · cases h
def oEq (x : Option (Unit × AH)) (y : AH) : Bool := match x with
  | some q => lEq celEq q.2 y
  | none => false
theorem oEq_eq {x : Option (Unit × AH)} {y : AH} (h : oEq x y = true) : x = some ((), y) := by
  unfold oEq at h
  split at h
  · rename_i q
    rw [← lEq_eq (fun a b h => celEq_eq h) h]
  · cases h
def st0 : ST := (fun k => if k ∈ [897, 961, 1025, 1089, 1153, 1217, 1281, 1345, 1409, 1473] then -1 else 0, fun k => if k = 1 ∨ k = 3 then 1 else 0,
  fun k i => if k = 6 then (if i < 6 then -9 else 0) else if k = 61 then (if i = 780 ∨ i = 1560 ∨ i = 2340 then -1 else 0) else if k = 66 ∨ k = 68 then -1 else 0, false)
def cell5 : Cel := .inr (.inr (5, [.inr (.inr (.inl none)), .inr (.inr (.inl none)), .inr (.inr (.inl none)), .inr (.inr (.inl none)), .inr (.inr (.inl none)), .inr (.inr (.inl none)), .inr (.inr (.inl none)), .inr (.inr (.inl none)), .inr (.inr (.inl none)), .inr (.inr (.inl none)), .inl 0, .inl 0, .inr (.inl 0), .inr (.inl 0)]))
set_option maxRecDepth 1000000 in
theorem init5 : (f_X5_init 0 [cell5]) = some ((), (HP st0).take 60) := oEq_eq (by decide +kernel)
def cell6 : Cel := .inr (.inr (6, [.inr (.inr (.inl none)), .inl 0, .inr (.inr (.inl none)), .inr (.inr (.inl none)), .inr (.inr (.inl none)), .inr (.inr (.inl none)), .inl 0, .inr (.inr (.inl none)), .inr (.inr (.inl none)), .inr (.inr (.inl none)), .inr (.inr (.inl none)), .inl 0, .inr (.inl 0), .inr (.inl 0), .inl 0, .inr (.inr (.inl none)), .inl 0, .inl 0, .inl 0, .inr (.inr (.inl none)), .inl 0, .inr (.inr (.inl none)), .inl 0, .inr (.inr (.inl none)), .inr (.inr (.inl none)), .inr (.inr (.inl none)), .inl 0, .inr (.inr (.inl none))]))
set_option maxRecDepth 1000000 in
theorem init6 : (f_X6_init 60 ((HP st0).take 60 ++ [cell6])) = some ((), HP st0) := oEq_eq (by decide +kernel)
