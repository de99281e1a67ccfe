theorem spL_0 {op : Int32} {x2 : Nat → Int32} : x2 = if op = 7 then spM x2 2 else x2 := by
  split
  · exact (spM_0 x2).symm
  · rfl
theorem spL_s {op : Int32} {x2 f : Nat → Int32} {r : Nat} (hf : f = if op = 7 then spM x2 r else x2) (hr : 2 ≤ r) (h : op = 7) : upd f r (-1) = if op = 7 then spM x2 (r + 1) else x2 := by
  rw [if_pos h] at hf ⊢
  rw [hf]
  exact spM_s x2 hr
theorem spL_e {op : Int32} {x2 f : Nat → Int32} {r : Nat} (hf : f = if op = 7 then spM x2 r else x2) (hr : r ≤ 10) (h : 10 ≤ r) : f = spC op x2 := by
  rw [Nat.le_antisymm hr h] at hf
  exact hf
theorem spL_n {op : Int32} {x2 f : Nat → Int32} {r : Nat} (hf : f = if op = 7 then spM x2 r else x2) (h : ¬ op = 7) : f = spC op x2 := by
  rw [if_neg h] at hf
  unfold spC
  rw [if_neg h]
  exact hf
