/-! the words for giving registers and slots -/
theorem lwB_n {E : Nat → Nat} {o : Option Nat} {w : Nat} (h : o = none) : lwB E o w = true := by subst h; rfl
theorem lwB_t {E : Nat → Nat} {b w : Nat} (h : E b - b < E w - w) : lwB E (some b) w = true := decide_eq_true h
theorem lwB_f {E : Nat → Nat} {b w : Nat} (h : E w - w ≤ E b - b) : lwB E (some b) w = false := decide_eq_false (Nat.not_lt.mpr h)
/-- the first home from i on, of k, in which nothing meets v -/
def fsl (E P : Nat → Nat) (hm : Nat → Int32) (n v : Nat) : Nat → Nat → Option Nat
  | _, 0 => none
  | i, k + 1 => if deq (hv E P hm v (nI i) n) FP.dconst0 then some i else fsl E P hm n v (i + 1) k
theorem fsl_y {E P : Nat → Nat} {hm : Nat → Int32} {n v i t : Nat} (hi : i < t) (h : deq (hv E P hm v (nI i) n) FP.dconst0) : fsl E P hm n v i (t - i) = some i := by
  have e : t - i = (t - (i + 1)) + 1 := by omega
  rw [e]; exact if_pos h
theorem fsl_n {E P : Nat → Nat} {hm : Nat → Int32} {n v i t : Nat} (hi : i < t) (h : ¬ deq (hv E P hm v (nI i) n) FP.dconst0) : fsl E P hm n v i (t - i) = fsl E P hm n v (i + 1) (t - (i + 1)) := by
  have e : t - i = (t - (i + 1)) + 1 := by omega
  rw [e]; exact if_neg h
theorem fsl_e {E P : Nat → Nat} {hm : Nat → Int32} {n v i t : Nat} (hi : t ≤ i) : fsl E P hm n v i (t - i) = none := by
  rw [Nat.sub_eq_zero_of_le hi]; rfl
/-- the homes once v has found a slot, or not -/
def slH (hm : Nat → Int32) (v : Nat) : Option Nat → Nat → Int32
  | none => hm
  | some i => upd hm v (nI i)
def mayR (ops : Nat → Int32) (E : Nat → Nat) (n v k : Nat) : Nat := if cr ops E n v = true then min k 2 else k
theorem mn2 {k : Nat} (hk : k ≤ 5) : (if (2 : Int32) < nI k then (2 : Int32) else nI k) = nI (min k 2) := by
  have h : k = 0 ∨ k = 1 ∨ k = 2 ∨ k = 3 ∨ k = 4 ∨ k = 5 := by omega
  rcases h with rfl | rfl | rfl | rfl | rfl | rfl <;> decide
/-- the best register of the first r, and the weight to be beaten -/
def trF (E P : Nat → Nat) (hm : Nat → Int32) (n v : Nat) : Nat → Option Nat × UInt64
  | 0 => (none, wt P E v)
  | r + 1 => if dlt (hv E P hm v (nI r) n) (trF E P hm n v r).2 then (some r, hv E P hm v (nI r) n) else trF E P hm n v r
theorem trF_y {E P : Nat → Nat} {hm : Nat → Int32} {n v r : Nat} {b : Option Nat} {d : UInt64} (h : (b, d) = trF E P hm n v r) (hd : dlt (hv E P hm v (nI r) n) d) : (some r, hv E P hm v (nI r) n) = trF E P hm n v (r + 1) := by
  have e : (trF E P hm n v r).2 = d := by rw [← h]
  show _ = if dlt (hv E P hm v (nI r) n) (trF E P hm n v r).2 then _ else _
  rw [e, if_pos hd]
theorem trF_n {E P : Nat → Nat} {hm : Nat → Int32} {n v r : Nat} {b : Option Nat} {d : UInt64} (h : (b, d) = trF E P hm n v r) (hd : ¬ dlt (hv E P hm v (nI r) n) d) : (b, d) = trF E P hm n v (r + 1) := by
  have e : (trF E P hm n v r).2 = d := by rw [← h]
  show _ = if dlt (hv E P hm v (nI r) n) (trF E P hm n v r).2 then _ else _
  rw [e, if_neg hd]; exact h
theorem trF_lt {E P : Nat → Nat} {hm : Nat → Int32} {n v r x : Nat} (h : (trF E P hm n v r).1 = some x) : x < r := by
  induction r with
  | zero => cases h
  | succ r ih =>
    unfold trF at h
    split at h
    · cases h; omega
    · have := ih h; omega
/-- homes and evictions once v has found a register, or not -/
def tkH (E : Nat → Nat) (hm : Nat → Int32) (n v : Nat) : Option Nat → Nat → Int32
  | none => hm
  | some b => upd (evH E hm v (nI b) n) v (nI b)
def tkC (E : Nat → Nat) (hm : Nat → Int32) (n v : Nat) : Option Nat → Nat
  | none => 0
  | some b => evC E hm v (nI b) n
/-- one look: done, no room, or the next state -/
def stp (ops : Nat → Int32) (E P : Nat → Nat) (n k : Nat) (hm : Nat → Int32) (ev : Nat) : Bool ⊕ ((Nat → Int32) × Nat) :=
  match lw ops E n hm n with
  | none => .inl true
  | some v => match (trF E P hm n v (mayR ops E n v k)).1 with
    | some b => .inr (tkH E hm n v (some b), ev + tkC E hm n v (some b))
    | none => match fsl E P hm n v 10 6 with
      | some i => .inr (slH hm v (some i), ev)
      | none => .inl false
def flR (ops : Nat → Int32) (E P : Nat → Nat) (n k : Nat) : Nat → (Nat → Int32) → Nat → Bool × (Nat → Int32) × Nat
  | 0, hm, ev => (false, hm, ev)
  | t + 1, hm, ev => match stp ops E P n k hm ev with
    | .inl b => (b, hm, ev)
    | .inr q => flR ops E P n k t q.1 q.2
theorem flR_s {ops : Nat → Int32} {E P : Nat → Nat} {n k t i ev : Nat} {hm : Nat → Int32} {q : (Nat → Int32) × Nat} (hi : i < t) (h : stp ops E P n k hm ev = .inr q) : flR ops E P n k (t - i) hm ev = flR ops E P n k (t - (i + 1)) q.1 q.2 := by
  have e : t - i = (t - (i + 1)) + 1 := by omega
  rw [e]
  show (match stp ops E P n k hm ev with | .inl b => (b, hm, ev) | .inr q => flR ops E P n k (t - (i + 1)) q.1 q.2) = _
  rw [h]
theorem flR_d {ops : Nat → Int32} {E P : Nat → Nat} {n k t i ev : Nat} {hm : Nat → Int32} {b : Bool} (hi : i < t) (h : stp ops E P n k hm ev = .inl b) : flR ops E P n k (t - i) hm ev = (b, hm, ev) := by
  have e : t - i = (t - (i + 1)) + 1 := by omega
  rw [e]
  show (match stp ops E P n k hm ev with | .inl b => (b, hm, ev) | .inr q => flR ops E P n k (t - (i + 1)) q.1 q.2) = _
  rw [h]
theorem flR_e {ops : Nat → Int32} {E P : Nat → Nat} {n k t i ev : Nat} {hm : Nat → Int32} (hi : t ≤ i) : flR ops E P n k (t - i) hm ev = (false, hm, ev) := by
  rw [Nat.sub_eq_zero_of_le hi]; rfl
theorem stp_done {ops : Nat → Int32} {E P : Nat → Nat} {n k ev : Nat} {hm : Nat → Int32} (h : lw ops E n hm n = none) : stp ops E P n k hm ev = .inl true := by
  unfold stp; rw [h]
theorem stp_reg {ops : Nat → Int32} {E P : Nat → Nat} {n k ev v b : Nat} {hm : Nat → Int32} (h : lw ops E n hm n = some v) (h1 : (trF E P hm n v (mayR ops E n v k)).1 = some b) : stp ops E P n k hm ev = .inr (tkH E hm n v (some b), ev + tkC E hm n v (some b)) := by
  unfold stp; rw [h]; show (match (trF E P hm n v (mayR ops E n v k)).1 with | some b => _ | none => _) = _; rw [h1]
theorem stp_slot {ops : Nat → Int32} {E P : Nat → Nat} {n k ev v i : Nat} {hm : Nat → Int32} (h : lw ops E n hm n = some v) (h1 : (trF E P hm n v (mayR ops E n v k)).1 = none) (h2 : fsl E P hm n v 10 6 = some i) : stp ops E P n k hm ev = .inr (slH hm v (some i), ev) := by
  unfold stp; rw [h]; show (match (trF E P hm n v (mayR ops E n v k)).1 with | some b => _ | none => _) = _; rw [h1]; show (match fsl E P hm n v 10 6 with | some i => _ | none => _) = _; rw [h2]
theorem stp_no {ops : Nat → Int32} {E P : Nat → Nat} {n k ev v : Nat} {hm : Nat → Int32} (h : lw ops E n hm n = some v) (h1 : (trF E P hm n v (mayR ops E n v k)).1 = none) (h2 : fsl E P hm n v 10 6 = none) : stp ops E P n k hm ev = .inl false := by
  unfold stp; rw [h]; show (match (trF E P hm n v (mayR ops E n v k)).1 with | some b => _ | none => _) = _; rw [h1]; show (match fsl E P hm n v 10 6 with | some i => _ | none => _) = _; rw [h2]
def LIM : Nat := 1000000
