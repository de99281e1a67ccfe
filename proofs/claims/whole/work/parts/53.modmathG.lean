theorem stP_sc (pl : Bool) (nu ops lf rg plc : Nat → Int32) (i : Nat) (val cel sd : Nat → Int32) (sc : Nat) (rs : Int32) : (stP pl nu ops lf rg plc i val cel sd sc rs).2.2.2.1 ≤ sc + 1 := by
  unfold stP
  split
  · exact Nat.le_succ _
  · split
    · exact Nat.le_refl _
    · split <;> exact Nat.le_succ _
theorem pfM_sc {pl : Bool} {nu ops lf rg plc : Nat → Int32} {val cel sd : Nat → Int32} {rs : Int32} (i : Nat) : (pfM pl nu ops lf rg plc (val, cel, sd, 0, rs, true) i).2.2.2.1 ≤ i := by
  induction i with
  | zero => exact Nat.le_refl 0
  | succ i ih =>
    show (if _ then _ else _ : MSM).2.2.2.1 ≤ i + 1
    split
    · omega
    · have := stP_sc pl nu ops lf rg plc i (pfM pl nu ops lf rg plc (val, cel, sd, 0, rs, true) i).1 (pfM pl nu ops lf rg plc (val, cel, sd, 0, rs, true) i).2.1 (pfM pl nu ops lf rg plc (val, cel, sd, 0, rs, true) i).2.2.1 (pfM pl nu ops lf rg plc (val, cel, sd, 0, rs, true) i).2.2.2.1 (pfM pl nu ops lf rg plc (val, cel, sd, 0, rs, true) i).2.2.2.2.1
      omega
section SMB
variable {a b : Nat → Int32} {na nb : Nat} {ra rb : Int32} {ga gb : Bool}
theorem smB_1 (h : ¬ ga = gb) : smB a b na nb ra rb ga gb = false := by unfold smB; rw [decide_eq_false h]; rfl
theorem smB_2 (h : ¬ na = nb) : smB a b na nb ra rb ga gb = false := by unfold smB; rw [decide_eq_false h, Bool.false_and, Bool.and_false]
theorem smB_3 (h1 : ga = true) (h : ¬ ra = rb) : smB a b na nb ra rb ga gb = false := by unfold smB; rw [decide_eq_false h, h1]; simp
theorem smB_4 (h : sdE a b na = false) : smB a b na nb ra rb ga gb = false := by unfold smB; rw [h]; simp
theorem smB_t (h1 : ga = gb) (h2 : na = nb) (h3 : ga = false ∨ ra = rb) (h4 : sdE a b na = true) : smB a b na nb ra rb ga gb = true := by
  unfold smB
  rw [decide_eq_true h1, decide_eq_true h2, h4]
  rcases h3 with h | h
  · rw [h]; rfl
  · rw [decide_eq_true h]; simp
end SMB
