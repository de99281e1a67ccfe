/-! what the reference takes for an instruction is what the class takes -/
theorem accM_1 {ops : Nat → Int32} {n : Nat} {op x y d : Int32} (h : inB op 0 7 = false) : acc ops n op x y d = false := by
  have h1 := of_decide_eq_false h
  unfold acc
  by_cases a : op < 0
  · rw [if_pos a]
  · rw [if_neg a]
    by_cases b : 7 < op
    · rw [if_pos b]
    · exact absurd ⟨a, b⟩ h1
theorem i32_34 {d : Int32} : d < nI 4 ↔ ¬ 3 < d := by
  rw [i32_nlt, Int32.lt_iff_toInt_lt, Int32.le_iff_toInt_le]
  have e1 : (nI 4).toInt = 4 := rfl
  have e2 : (3 : Int32).toInt = 3 := rfl
  omega
theorem accM_2 {ops : Nat → Int32} {n : Nat} {op x y d : Int32} (h0 : inB op 0 7 = true) (h : inB d 0 3 = false) : acc ops n op x y d = false := by
  have h1 := of_decide_eq_false h
  have h2 := of_decide_eq_true h0
  unfold acc
  rw [if_neg h2.1, if_neg h2.2]
  by_cases a : d < 0
  · rw [if_pos a]
  · rw [if_neg a]
    by_cases b : 3 < d
    · rw [if_pos (fun q => i32_34.mp q b)]
    · exact absurd ⟨a, b⟩ h1
theorem accM_3 {ops : Nat → Int32} {n : Nat} {op x y d : Int32} (h0 : inB op 0 7 = true) (h1 : inB d 0 3 = true) (h2 : op = 1) (h : inB x 0 3 = false) : acc ops n op x y d = false := by
  have a0 := of_decide_eq_true h0
  have a1 := of_decide_eq_true h1
  have a2 := of_decide_eq_false h
  unfold acc
  rw [if_neg a0.1, if_neg a0.2, if_neg a1.1, if_neg (fun q => q (i32_34.mpr a1.2))]
  by_cases a : x < 0
  · rw [if_pos ⟨h2, a⟩]
  · rw [if_neg (fun q => a q.2)]
    by_cases b : 3 < x
    · rw [if_pos ⟨h2, fun q => i32_34.mp q b⟩]
    · exact absurd ⟨a, b⟩ a2
theorem acc_ff {ops : Nat → Int32} {n : Nat} {op x y d : Int32} (h : ¬ acc ops n op x y d = true) : acc ops n op x y d = false := by
  cases hz : acc ops n op x y d with
  | false => rfl
  | true => exact absurd hz h
theorem accM_4 {ops : Nat → Int32} {n : Nat} {op x y d : Int32} (h1 : uL op = true) (h2 : iv ops n x = false) : acc ops n op x y d = false := acc_ff (fun q => by
  have := (acc_spec q).2.2.2.1 h1
  rw [h2] at this; cases this)
theorem accM_5 {ops : Nat → Int32} {n : Nat} {op x y d : Int32} (h1 : uR op = true) (h2 : iv ops n y = false) : acc ops n op x y d = false := acc_ff (fun q => by
  have := (acc_spec q).2.2.2.2 h1
  rw [h2] at this; cases this)
theorem accM_t {ops : Nat → Int32} {n : Nat} {op x y d : Int32} (h0 : inB op 0 7 = true) (h1 : inB d 0 3 = true) (h2 : op = 1 → inB x 0 3 = true) (h3 : uL op = true → iv ops n x = true) (h4 : uR op = true → iv ops n y = true) : acc ops n op x y d = true := by
  have a0 := of_decide_eq_true h0
  have a1 := of_decide_eq_true h1
  unfold acc
  rw [if_neg a0.1, if_neg a0.2, if_neg a1.1, if_neg (fun q => q (i32_34.mpr a1.2)), if_neg (fun q => (of_decide_eq_true (h2 q.1)).1 q.2), if_neg (fun q => q.2 (i32_34.mpr (of_decide_eq_true (h2 q.1)).2)),
    if_neg (fun q => by have := h3 q.1; rw [q.2] at this; cases this), if_neg (fun q => by have := h4 q.1; rw [q.2] at this; cases this)]
