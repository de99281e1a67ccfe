/-! rooms by levels; arrays of natural numbers; the mathematical words for a code -/
def lvR (d mc ms : Nat) : Room := { frames := d, cells := mc, slots := ms, locals := 34 * d }
def uN (E : Nat → Nat) (k v : Nat) : Nat → Nat := fun j => if j = k then v else E j
theorem uN_s {E : Nat → Nat} {k v : Nat} : uN E k v k = v := if_pos rfl
theorem uN_n {E : Nat → Nat} {k v j : Nat} (h : j ≠ k) : uN E k v j = E j := if_neg h
theorem upd_nI (E : Nat → Nat) (k v : Nat) : upd (fun j => nI (E j)) k (nI v) = fun j => nI (uN E k v j) := by
  funext j
  unfold upd uN
  split <;> rfl
section WBN
variable {p : Program} {l : Launch} {e : Env} {R : Room} {s : State} {m : MethodId} {args : Array Value} {below : List Frame} {meth : Method} {c : Code} {H : Heap} {locs : List Loc} {cells slots : Nat} {Q : State → Prop}
variable {cc : ByteArray} {pc : Nat} {ls : Array Slot} {rest : List Value} {D : va_G} {cl : List vw_C} {A : Nat → Prop} {a : Nat} {tys : List (ClassId × FieldType)} {ws : va_W} {H0 : Heap}
theorem wb_iastN (hexec : p.tables.exec = Jvm.exec) (hb : c.code = cc) (hK : va_K D cl tys s) (hP : va_P D cl ws H) (hD : va_D A ws) (hS : va_S A H0 H locs) (q0 t0 : Nat) {cA : ClassId} {n : Nat} {E : Nat → Nat} (ha : ws[q0]? = some (a, .inl (cA, n, .inl (fun j => nI (E j))))) (ht : tys[t0]? = some (cA, .int)) {i : Int32} {x : Int32} (j : Nat) (hi : i = nI j) (hj : j < n) (hn : n < 2 ^ 31) (v : Nat) (hv : x = nI v) (hdg : decode cc pc = .ok (.iastore, 1))
    (kk : ∀ (H1 : Heap) (locs1 : List Loc), va_P D cl (ws.set q0 (a, .inl (cA, n, .inl (fun i => nI (uN E j v i))))) H1 → va_D A (ws.set q0 (a, .inl (cA, n, .inl (fun i => nI (uN E j v i))))) → va_S A H0 H1 locs1 → W p l e R s m args below meth c H1 locs1 cells slots Q (F0 m (pc + 1) ls rest)) : W p l e R s m args below meth c H locs cells slots Q (F0 m pc ls (.int x :: .int i :: .ref a :: rest)) := by
  subst hv
  refine wb_iast hexec hb hK hP hD hS q0 t0 ha ht j hi hj hn hdg ?_
  rw [upd_nI]
  exact kk
/-- another name for the number on top -/
theorem wb_top {x y : Int32} (h : x = y) (k : W p l e R s m args below meth c H locs cells slots Q (F0 m pc ls (.int y :: rest))) : W p l e R s m args below meth c H locs cells slots Q (F0 m pc ls (.int x :: rest)) := h ▸ k
theorem wb_topd {x y : UInt64} (h : x = y) (k : W p l e R s m args below meth c H locs cells slots Q (F0 m pc ls (.double y :: rest))) : W p l e R s m args below meth c H locs cells slots Q (F0 m pc ls (.double x :: rest)) := h ▸ k
end WBN
def uL (op : Int32) : Bool := decide (2 ≤ op)
def uR (op : Int32) : Bool := decide (2 ≤ op ∧ op ≤ 5)
def iv (ops : Nat → Int32) (n : Nat) (v : Int32) : Bool := decide (¬ v < 0 ∧ v < nI n ∧ ops v.toNatClampNeg ≠ 6)
theorem iv_nat {ops : Nat → Int32} {n j : Nat} (hj : j < 2 ^ 31) (hn : n < 2 ^ 31) : iv ops n (nI j) = decide (j < n ∧ ops j ≠ 6) := by
  unfold iv
  rw [nI_clamp hj]
  simp only [nI_pos hj, not_false_eq_true, true_and, nI_ltI hj hn]
theorem i32_nlt {a b : Int32} : ¬ a < b ↔ b ≤ a := by
  rw [Int32.lt_iff_toInt_lt, Int32.le_iff_toInt_le]
  omega
theorem i32_nle {a b : Int32} : ¬ a ≤ b ↔ b < a := by
  rw [Int32.lt_iff_toInt_lt, Int32.le_iff_toInt_le]
  omega
/-- a value's number, once looked at -/
theorem ix_of {v : Int32} {n : Nat} (hn : n < 2 ^ 31) (h0 : ¬ v < 0) (h1 : ¬ nI n ≤ v) : ∃ j : Nat, j < n ∧ v = nI j := by
  rcases pk_ix v hn with h | h | h
  · exact absurd h h0
  · exact absurd h h1
  · exact h
def mt (E : Nat → Nat) (i j : Nat) : Bool := decide (i < E j ∧ j < E i)
/-- is there a CALL among the k instructions from i on -/
def crx (ops : Nat → Int32) : Nat → Nat → Bool
  | _, 0 => false
  | i, k + 1 => decide (ops i = 7) || crx ops (i + 1) k
def cr (ops : Nat → Int32) (E : Nat → Nat) (n v : Nat) : Bool := crx ops (v + 1) (min (E v) n - (v + 1))
/-- how many of the first k are values other than v that meet it -/
def om (ops : Nat → Int32) (E : Nat → Nat) (n v : Nat) : Nat → Nat
  | 0 => 0
  | k + 1 => om ops E n v k + if k ≠ v ∧ iv ops n (nI k) = true ∧ mt E v k = true then 1 else 0
/-- the weight of a value as a double -/
def wt (P E : Nat → Nat) (v : Nat) : UInt64 := FP.ddiv (FP.i2d (nI (P v))) (FP.i2d (nI (E v - v)))
theorem bI1 {b : Bool} (h : b = true) : (1 : Int32) = bI b := by rw [h]; rfl
theorem bI0 {b : Bool} (h : b = false) : (0 : Int32) = bI b := by rw [h]; rfl
theorem uL_t {op : Int32} (h : ¬ op < 2) : uL op = true := decide_eq_true (i32_nlt.mp h)
theorem uL_f {op : Int32} (h : op < 2) : uL op = false := decide_eq_false (fun q => i32_nlt.mpr q h)
theorem uR_t {op : Int32} (h : ¬ op < 2) (h2 : ¬ 5 < op) : uR op = true := decide_eq_true ⟨i32_nlt.mp h, i32_nlt.mp h2⟩
theorem uR_f1 {op : Int32} (h : op < 2) : uR op = false := decide_eq_false (fun q => i32_nlt.mpr q.1 h)
theorem uR_f2 {op : Int32} (h : 5 < op) : uR op = false := decide_eq_false (fun q => i32_nlt.mpr q.2 h)
theorem iv_f1 {ops : Nat → Int32} {n : Nat} {v : Int32} (h : v < 0) : iv ops n v = false := decide_eq_false (fun q => q.1 h)
theorem iv_f2 {ops : Nat → Int32} {n : Nat} {v : Int32} (h : nI n ≤ v) : iv ops n v = false := decide_eq_false (fun q => i32_nlt.mpr h q.2.1)
theorem iv_f3 {ops : Nat → Int32} {n j : Nat} (hn : n ≤ 24) (hj : j < n) (h : ops j = 6) : iv ops n (nI j) = false := by
  rw [iv_nat (by omega) (by omega)]
  exact decide_eq_false (fun q => q.2 h)
theorem iv_t {ops : Nat → Int32} {n j : Nat} (hn : n ≤ 24) (hj : j < n) (h : ¬ ops j = 6) : iv ops n (nI j) = true := by
  rw [iv_nat (by omega) (by omega)]
  exact decide_eq_true ⟨hj, h⟩
theorem iv_spec {ops : Nat → Int32} {n : Nat} {v : Int32} (hn : n ≤ 24) (h : iv ops n v = true) : ∃ j : Nat, j < n ∧ v = nI j ∧ ops j ≠ 6 := by
  have h1 := of_decide_eq_true h
  obtain ⟨j, hj, rfl⟩ := ix_of (n := n) (by omega) h1.1 (fun q => i32_nlt.mpr q h1.2.1)
  refine ⟨j, hj, rfl, ?_⟩
  have h2 := h1.2.2
  rw [nI_clamp (by omega)] at h2
  exact h2
theorem mt_f1 {E : Nat → Nat} {i j : Nat} (h : E j ≤ i) : mt E i j = false := decide_eq_false (fun q => absurd q.1 (Nat.not_lt.mpr h))
theorem mt_f2 {E : Nat → Nat} {i j : Nat} (h : E i ≤ j) : mt E i j = false := decide_eq_false (fun q => absurd q.2 (Nat.not_lt.mpr h))
theorem mt_t {E : Nat → Nat} {i j : Nat} (h : i < E j) (h2 : j < E i) : mt E i j = true := decide_eq_true ⟨h, h2⟩
theorem lt31 {a b : Nat} (h : a ≤ b) (hb : b < 2 ^ 31) : a < 2 ^ 31 := Nat.lt_of_le_of_lt h hb
