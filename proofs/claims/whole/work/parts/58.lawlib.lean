/-! rows for the law: longs compared, its loop, whose cells grow -/
section LWA
variable {p : Program} {l : Launch} {e : Env} {R : Room} {s : State} {m : MethodId} {args : Array Value} {below : List Frame} {meth : Method} {c : Code} {H : Heap} {locs : List Loc} {cells slots : Nat} {Q : State → Prop}
variable {cc : ByteArray} {pc : Nat} {ls : Array Slot} {rest : List Value}
theorem wb_lcmp (hexec : p.tables.exec = Jvm.exec) (hb : c.code = cc) {x y : Int64} (h : x = y) (hdg : decode cc pc = .ok (.lcmp, 1))
    (k : W p l e R s m args below meth c H locs cells slots Q (F0 m (pc + 1) ls (.int 0 :: rest))) : W p l e R s m args below meth c H locs cells slots Q (F0 m pc ls (.long y :: .long x :: rest)) := by
  subst h
  intro T hT X
  obtain ⟨t, a, b⟩ := k T hT X
  refine ⟨t, ?_, b⟩
  have h0 : (if x > x then (1 : Int32) else if (x == x) = true then 0 else -1) = 0 := by
    rw [if_neg (Int64.lt_irrefl), if_pos (beq_self_eq_true x)]
  jvm_step X.here [X.here.top, hexec, hb, hdg]
  first | exact a | (simp at a ⊢; exact a)
theorem wb_loopC {σ : Type} (pc : Nat) (Inv : σ → Heap → List Loc → Array Slot → Prop) (μ cs ss : σ → Nat)
    (step : ∀ (x : σ) (H : Heap) (locs : List Loc) (ls : Array Slot), Inv x H locs ls → (∀ (y : σ) (H1 : Heap) (locs1 : List Loc) (ls1 : Array Slot), Inv y H1 locs1 ls1 → μ y < μ x → W p l e R s m args below meth c H1 locs1 (cs y) (ss y) Q (F0 m pc ls1 [])) → W p l e R s m args below meth c H locs (cs x) (ss x) Q (F0 m pc ls [])) :
    ∀ (x : σ) (H : Heap) (locs : List Loc) (ls : Array Slot), Inv x H locs ls → W p l e R s m args below meth c H locs (cs x) (ss x) Q (F0 m pc ls []) := by
  have key : ∀ (n : Nat) (x : σ) (H : Heap) (locs : List Loc) (ls : Array Slot), μ x < n → Inv x H locs ls → W p l e R s m args below meth c H locs (cs x) (ss x) Q (F0 m pc ls []) := by
    intro n
    induction n with
    | zero => intro x H locs ls h; omega
    | succ n ih =>
      intro x H locs ls hn hI
      exact step x H locs ls hI (fun y H1 locs1 ls1 hI1 hlt => ih y H1 locs1 ls1 (by omega) hI1)
  exact fun x H locs ls hI => key (μ x + 1) x H locs ls (by omega) hI
end LWA
