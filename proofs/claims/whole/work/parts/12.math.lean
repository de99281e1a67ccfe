/-! small facts on the words for a code -/
theorem crx_step {ops : Nat → Int32} {m i : Nat} (h1 : i < m) (h3 : ¬ ops i = 7) : crx ops i (m - i) = crx ops (i + 1) (m - (i + 1)) := by
  have h : m - i = (m - (i + 1)) + 1 := by omega
  rw [h]
  show (decide (ops i = 7) || crx ops (i + 1) (m - (i + 1))) = _
  rw [decide_eq_false h3, Bool.false_or]
theorem crx_hit {ops : Nat → Int32} {m i : Nat} (h1 : i < m) (h3 : ops i = 7) : crx ops i (m - i) = true := by
  have h : m - i = (m - (i + 1)) + 1 := by omega
  rw [h]
  show (decide (ops i = 7) || crx ops (i + 1) (m - (i + 1))) = _
  rw [decide_eq_true h3, Bool.true_or]
theorem crx_end {ops : Nat → Int32} {m i : Nat} (h : m ≤ i) : crx ops i (m - i) = false := by
  rw [Nat.sub_eq_zero_of_le h]
  rfl
theorem om_n {ops : Nat → Int32} {E : Nat → Nat} {n v w a : Nat} (ha : a = om ops E n v w) (h : w = v ∨ iv ops n (nI w) = false ∨ mt E v w = false) : a = om ops E n v (w + 1) := by
  rw [ha]
  show _ = om ops E n v w + _
  rw [if_neg]
  · rfl
  · rintro ⟨h1, h2, h3⟩
    rcases h with h | h | h
    · exact h1 h
    · rw [h] at h2; cases h2
    · rw [h] at h3; cases h3
theorem om_y {ops : Nat → Int32} {E : Nat → Nat} {n v w a : Nat} (ha : a = om ops E n v w) (h1 : w ≠ v) (h2 : iv ops n (nI w) = true) (h3 : mt E v w = true) : a + 1 = om ops E n v (w + 1) := by
  rw [ha]
  show _ = om ops E n v w + _
  rw [if_pos ⟨h1, h2, h3⟩]
