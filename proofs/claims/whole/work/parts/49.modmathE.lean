theorem in_07 {q : Int32} (h : inB q 0 7 = true) : ∃ j : Nat, j ≤ 7 ∧ q = nI j := by
  have h1 := of_decide_eq_true h
  exact ix_le (v := q) (b := 7) (by omega) h1.1 (i32_nlt.mp h1.2)
section CTM
variable {ops plc : Nat → Int32} {n sm evm rgm : Nat} {alc : Bool} {q : Int32}
theorem ctM_0 (h : q = 0) : nI n = ctM ops plc n sm evm rgm alc q := by subst h; rfl
theorem ctM_1 (h : q = 1) : nI (cvM ops n) = ctM ops plc n sm evm rgm alc q := by subst h; rfl
theorem ctM_2 (h7 : inB q 0 7 = true) (h3 : ¬ 3 ≤ q) (h0 : ¬ q = 0) (h1 : ¬ q = 1) : nI sm = ctM ops plc n sm evm rgm alc q := by
  obtain ⟨j, hj, rfl⟩ := in_07 h7
  have : j = 0 ∨ j = 1 ∨ j = 2 ∨ j = 3 ∨ j = 4 ∨ j = 5 ∨ j = 6 ∨ j = 7 := by omega
  rcases this with rfl | rfl | rfl | rfl | rfl | rfl | rfl | rfl
  · exact absurd rfl h0
  · exact absurd rfl h1
  · rfl
  all_goals exact absurd (by decide) h3
theorem q3 (h3 : 3 ≤ q) : ¬ q = 0 ∧ ¬ q = 1 ∧ ¬ q = 2 := by
  refine ⟨?_, ?_, ?_⟩ <;> (rintro rfl; exact absurd h3 (by decide))
theorem ctM_a (h3 : 3 ≤ q) (ha : alc = false) : 0 = ctM ops plc n sm evm rgm alc q := by
  obtain ⟨a, b, c⟩ := q3 h3
  unfold ctM
  rw [if_neg a, if_neg b, if_neg c, if_pos ha]
theorem ctM_3 (ha : alc = true) (h : q = 3) : nI evm = ctM ops plc n sm evm rgm alc q := by subst h; subst ha; rfl
theorem ctM_4 (ha : alc = true) (h : q = 4) : nI (csM ops plc alc n) = ctM ops plc n sm evm rgm alc q := by subst h; subst ha; rfl
theorem ctM_5 (ha : alc = true) (h : q = 5) : nI (udM ops plc n 10 6) = ctM ops plc n sm evm rgm alc q := by subst h; subst ha; rfl
theorem ctM_6 (ha : alc = true) (h : q = 6) : nI (udM ops plc n 0 5) = ctM ops plc n sm evm rgm alc q := by subst h; subst ha; rfl
theorem ctM_7 (h7 : inB q 0 7 = true) (h3 : 3 ≤ q) (ha : alc = true) (h_3 : ¬ q = 3) (h_4 : ¬ q = 4) (h_5 : ¬ q = 5) (h_6 : ¬ q = 6) : nI rgm = ctM ops plc n sm evm rgm alc q := by
  obtain ⟨a, b, c⟩ := q3 h3
  unfold ctM
  rw [if_neg a, if_neg b, if_neg c, if_neg (by rw [ha]; decide), if_neg h_3, if_neg h_4, if_neg h_5, if_neg h_6]
end CTM
