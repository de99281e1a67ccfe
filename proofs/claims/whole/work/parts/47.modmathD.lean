theorem mayR_1 {ops : Nat → Int32} {E : Nat → Nat} {n v k : Nat} (hk : 1 ≤ k) : 1 ≤ mayR ops E n v k := by
  unfold mayR
  split <;> omega
theorem in_15 {v : Int32} (h : inB v 1 5 = true) : ∃ j : Nat, 1 ≤ j ∧ j ≤ 5 ∧ v = nI j := by
  have h1 := of_decide_eq_true h
  obtain ⟨j, h2, rfl⟩ := ix_le (v := v) (b := 5) (by omega) (ge1 h1.1) (i32_nlt.mp h1.2)
  refine ⟨j, ?_, h2, rfl⟩
  rcases Nat.eq_zero_or_pos j with q | q
  · subst q; exact absurd (by decide) h1.1
  · exact q
