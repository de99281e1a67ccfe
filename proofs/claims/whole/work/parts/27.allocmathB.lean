theorem mayR_t {ops : Nat → Int32} {E : Nat → Nat} {n v k : Nat} (h : cr ops E n v = true) : nI (min k 2) = nI (mayR ops E n v k) := by unfold mayR; rw [if_pos h]
theorem mayR_f {ops : Nat → Int32} {E : Nat → Nat} {n v k : Nat} (h : cr ops E n v = false) : nI k = nI (mayR ops E n v k) := by unfold mayR; rw [if_neg (by rw [h]; decide)]
theorem mayR_le (ops : Nat → Int32) (E : Nat → Nat) (n v k : Nat) : mayR ops E n v k ≤ k := by
  unfold mayR
  split
  · exact Nat.min_le_left _ _
  · exact Nat.le_refl _
theorem isNone_of {α : Type} {o : Option α} (h : o.isSome = false) : o = none := by
  cases o with
  | none => rfl
  | some a => cases h
theorem isSome_of {α : Type} {o : Option α} (h : o.isSome = true) : ∃ a, o = some a := by
  cases o with
  | none => cases h
  | some a => exact ⟨a, rfl⟩
