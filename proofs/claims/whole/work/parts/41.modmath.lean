/-! the reference's words -/
section WBM
variable {p : Program} {l : Launch} {e : Env} {R : Room} {s : State} {m : MethodId} {args : Array Value} {below : List Frame} {meth : Method} {c : Code} {H : Heap} {locs : List Loc} {cells slots : Nat} {Q : State → Prop}
variable {cc : ByteArray} {pc : Nat} {ls : Array Slot} {rest : List Value}
theorem nI_mul (a b : Nat) : nI a * nI b = nI (a * b) := (Int32.ofNat_mul a b).symm
theorem wb_imul (hexec : p.tables.exec = Jvm.exec) (hb : c.code = cc) {x y : Int32} (i j : Nat) (hx : x = nI i) (hy : y = nI j) (hdg : decode cc pc = .ok (.imul, 1))
    (k : W p l e R s m args below meth c H locs cells slots Q (F0 m (pc + 1) ls (.int (nI (i * j)) :: rest))) : W p l e R s m args below meth c H locs cells slots Q (F0 m pc ls (.int y :: .int x :: rest)) := by
  subst hx; subst hy
  refine lv_imul hexec hb hdg ?_
  rw [nI_mul]
  exact k
end WBM
def inB (v lo hi : Int32) : Bool := decide (¬ v < lo ∧ ¬ hi < v)
theorem inB_f1 {v lo hi : Int32} (h : v < lo) : inB v lo hi = false := decide_eq_false (fun q => q.1 h)
theorem inB_f2 {v lo hi : Int32} (h : hi < v) : inB v lo hi = false := decide_eq_false (fun q => q.2 h)
theorem inB_t {v lo hi : Int32} (h : ¬ v < lo) (h2 : ¬ hi < v) : inB v lo hi = true := decide_eq_true ⟨h, h2⟩
theorem inB_uR (o : Int32) : inB o 2 5 = uR o := by
  unfold inB uR
  simp only [i32_nlt]
/-- places below n, as the reference looks for them -/
theorem in_ix {v : Int32} {n : Nat} (hn : n ≤ 24) (h : inB v 0 (nI n - 1) = true) : ∃ j : Nat, j < n ∧ v = nI j := by
  have h1 := of_decide_eq_true h
  refine ix_of (n := n) (by omega) h1.1 (fun q => h1.2 ?_)
  rw [Int32.le_iff_toInt_le, nI_toInt (by omega)] at q
  rw [Int32.lt_iff_toInt_lt]
  have e : (nI n - 1).toInt = (n : Int) - 1 := by
    rw [Int32.toInt_sub, nI_toInt (by omega)]
    show ((n : Int) - 1).bmod (2 ^ 32) = _
    rw [Int.bmod_eq_of_le] <;> omega
  omega
theorem in_no {v : Int32} {n : Nat} (hn : n ≤ 24) (h : inB v 0 (nI n - 1) = false) : v < 0 ∨ ¬ v < nI n := by
  rcases Decidable.em (v < 0) with q | q
  · exact Or.inl q
  · refine Or.inr (fun q2 => ?_)
    have h1 := of_decide_eq_false h
    refine h1 ⟨q, fun q3 => ?_⟩
    rw [Int32.lt_iff_toInt_lt, nI_toInt (by omega)] at q2
    rw [Int32.lt_iff_toInt_lt] at q3
    have e : (nI n - 1).toInt = (n : Int) - 1 := by
      rw [Int32.toInt_sub, nI_toInt (by omega)]
      show ((n : Int) - 1).bmod (2 ^ 32) = _
      rw [Int.bmod_eq_of_le] <;> omega
    omega
theorem in_iv {ops : Nat → Int32} {v : Int32} {n : Nat} (hn : n ≤ 24) (h : inB v 0 (nI n - 1) = false) : iv ops n v = false := by
  rcases in_no hn h with q | q
  · exact iv_f1 q
  · exact iv_f2 (i32_nlt.mp q)
def us (ops lf rg : Nat → Int32) (i v : Nat) : Nat := if uL (ops i) = true then (if lf i = nI v then 1 else 0) + (if uR (ops i) = true ∧ rg i = nI v then 1 else 0) else 0
theorem us_0 {ops lf rg : Nat → Int32} {i v : Nat} (h : ¬ 2 ≤ ops i) : (0 : Nat) = us ops lf rg i v := by
  unfold us
  rw [if_neg]
  unfold uL
  simpa using h
theorem us_1 {ops lf rg : Nat → Int32} {i v a b : Nat} (h : 2 ≤ ops i) (ha : a = if lf i = nI v then 1 else 0) (hb : b = if uR (ops i) = true ∧ rg i = nI v then 1 else 0) : a + b = us ops lf rg i v := by
  unfold us
  rw [if_pos (show uL (ops i) = true from decide_eq_true h), ha, hb]
theorem us_le (ops lf rg : Nat → Int32) (i v : Nat) : us ops lf rg i v ≤ 2 := by
  unfold us
  split
  · split <;> split <;> omega
  · omega
theorem us_z {ops lf rg : Nat → Int32} {i v : Nat} (h : nI (us ops lf rg i v) ≤ 0) : ¬ 0 < us ops lf rg i v := fun q => by
  have := us_le ops lf rg i v
  have h2 := (nI_leI (a := us ops lf rg i v) (b := 0) (by omega) (by omega)).mp h
  omega
theorem us_p {ops lf rg : Nat → Int32} {i v : Nat} (h : ¬ nI (us ops lf rg i v) ≤ 0) : 0 < us ops lf rg i v := by
  have := us_le ops lf rg i v
  rcases Nat.eq_zero_or_pos (us ops lf rg i v) with q | q
  · rw [q] at h; exact absurd (by decide) h
  · exact q
/-- where a value ends, looking at the first i -/
def enI (ops lf rg : Nat → Int32) (v : Nat) : Nat → Nat
  | 0 => v + 1
  | i + 1 => if v < i ∧ 0 < us ops lf rg i v then i else enI ops lf rg v i
theorem enI_0 {ops lf rg : Nat → Int32} {v : Nat} (i : Nat) (h : i ≤ v + 1) : v + 1 = enI ops lf rg v i := by
  induction i with
  | zero => rfl
  | succ i ih =>
    show _ = if _ then _ else _
    rw [if_neg (by omega)]
    exact ih (by omega)
theorem enI_y {ops lf rg : Nat → Int32} {v i : Nat} (h : v < i) (h2 : 0 < us ops lf rg i v) : i = enI ops lf rg v (i + 1) := (if_pos ⟨h, h2⟩).symm
theorem enI_n {ops lf rg : Nat → Int32} {v i a : Nat} (ha : a = enI ops lf rg v i) (h2 : ¬ 0 < us ops lf rg i v) : a = enI ops lf rg v (i + 1) := ha.trans (if_neg (fun q => h2 q.2)).symm
def prI (d : Int32) : Nat := if d = 0 then 1 else if d = 1 then 10 else if d = 2 then 100 else 1000
theorem prI_0 {d : Int32} (h : d = 0) : 1 = prI d := by subst h; rfl
theorem prI_1 {d : Int32} (h : d = 1) : 10 = prI d := by subst h; rfl
theorem prI_2 {d : Int32} (h : d = 2) : 100 = prI d := by subst h; rfl
theorem prI_3 {d : Int32} (h0 : ¬ d = 0) (h1 : ¬ d = 1) (h2 : ¬ d = 2) : 1000 = prI d := by unfold prI; rw [if_neg h0, if_neg h1, if_neg h2]
/-- what it costs, looking at the first i -/
def smI (ops lf rg dpa : Nat → Int32) (v : Nat) : Nat → Nat
  | 0 => prI (dpa v)
  | i + 1 => smI ops lf rg dpa v i + if v < i then us ops lf rg i v * prI (dpa i) else 0
theorem smI_0 {ops lf rg dpa : Nat → Int32} {v : Nat} (i : Nat) (h : i ≤ v + 1) : prI (dpa v) = smI ops lf rg dpa v i := by
  induction i with
  | zero => rfl
  | succ i ih =>
    show _ = _ + if _ then _ else _
    rw [if_neg (by omega)]
    exact ih (by omega)
theorem smI_s {ops lf rg dpa : Nat → Int32} {v i a : Nat} (ha : a = smI ops lf rg dpa v i) (h : v < i) : a + us ops lf rg i v * prI (dpa i) = smI ops lf rg dpa v (i + 1) := by
  show _ = _ + if _ then _ else _
  rw [if_pos h, ha]
/-- is a home free for v, among the first k -/
def frB (ops : Nat → Int32) (E : Nat → Nat) (hm : Nat → Int32) (v : Nat) (x : Int32) : Nat → Bool
  | 0 => true
  | k + 1 => frB ops E hm v x k && !(decide (hm k = x ∧ k ≠ v ∧ ops k ≠ 6 ∧ mt E v k = true))
theorem frB_y {ops : Nat → Int32} {E : Nat → Nat} {hm : Nat → Int32} {v k : Nat} {x : Int32} (h : frB ops E hm v x k = true) (q : ¬ hm k = x ∨ k = v ∨ ops k = 6 ∨ mt E v k = false) : frB ops E hm v x (k + 1) = true := by
  show (frB ops E hm v x k && _) = true
  rw [h, decide_eq_false]
  · rfl
  · rintro ⟨h1, h2, h3, h4⟩
    rcases q with q | q | q | q
    · exact q h1
    · exact h2 q
    · exact h3 q
    · rw [q] at h4; cases h4
theorem frB_n {ops : Nat → Int32} {E : Nat → Nat} {hm : Nat → Int32} {v k m : Nat} {x : Int32} (h1 : hm k = x) (h2 : ¬ k = v) (h3 : ¬ ops k = 6) (h4 : mt E v k = true) (hk : k < m) : frB ops E hm v x m = false := by
  induction m with
  | zero => omega
  | succ m ih =>
    show (frB ops E hm v x m && _) = false
    rcases Nat.lt_or_ge k m with h | h
    · rw [ih h]; rfl
    · have : m = k := by omega
      subst this
      rw [decide_eq_true ⟨h1, h2, h3, h4⟩, Bool.not_true, Bool.and_false]
def hvM (ops : Nat → Int32) (E P : Nat → Nat) (hm : Nat → Int32) (v : Nat) (x : Int32) : Nat → UInt64
  | 0 => FP.dconst0
  | k + 1 => if (hm k = x ∧ k ≠ v ∧ ops k ≠ 6 ∧ mt E v k = true) ∧ dgt (wt P E k) (hvM ops E P hm v x k) then wt P E k else hvM ops E P hm v x k
theorem hvM_y {ops : Nat → Int32} {E P : Nat → Nat} {hm : Nat → Int32} {v k : Nat} {x : Int32} {a : UInt64} (ha : a = hvM ops E P hm v x k) (h1 : hm k = x) (h2 : ¬ k = v) (h3 : ¬ ops k = 6) (h4 : mt E v k = true) (h5 : dgt (wt P E k) a) : wt P E k = hvM ops E P hm v x (k + 1) := by
  subst ha
  exact (if_pos ⟨⟨h1, h2, h3, h4⟩, h5⟩).symm
theorem hvM_n {ops : Nat → Int32} {E P : Nat → Nat} {hm : Nat → Int32} {v k : Nat} {x : Int32} {a : UInt64} (ha : a = hvM ops E P hm v x k) (h : ¬ hm k = x ∨ k = v ∨ ops k = 6 ∨ mt E v k = false ∨ ¬ dgt (wt P E k) a) : a = hvM ops E P hm v x (k + 1) := by
  subst ha
  refine (if_neg ?_).symm
  rintro ⟨⟨h1, h2, h3, h4⟩, h5⟩
  rcases h with q | q | q | q | q
  · exact q h1
  · exact h2 q
  · exact h3 q
  · rw [q] at h4; cases h4
  · exact q h5
/-- the first free home -/
def fsM (ops : Nat → Int32) (E : Nat → Nat) (hm : Nat → Int32) (n v : Nat) : Nat → Nat → Option Nat
  | _, 0 => none
  | i, k + 1 => if frB ops E hm v (nI i) n = true then some i else fsM ops E hm n v (i + 1) k
theorem fsM_y {ops : Nat → Int32} {E : Nat → Nat} {hm : Nat → Int32} {n v i t : Nat} (hi : i < t) (h : frB ops E hm v (nI i) n = true) : fsM ops E hm n v i (t - i) = some i := by
  have e : t - i = (t - (i + 1)) + 1 := by omega
  rw [e]; exact if_pos h
theorem fsM_n {ops : Nat → Int32} {E : Nat → Nat} {hm : Nat → Int32} {n v i t : Nat} (hi : i < t) (h : frB ops E hm v (nI i) n = false) : fsM ops E hm n v i (t - i) = fsM ops E hm n v (i + 1) (t - (i + 1)) := by
  have e : t - i = (t - (i + 1)) + 1 := by omega
  rw [e]; exact if_neg (by rw [h]; decide)
theorem fsM_e {ops : Nat → Int32} {E : Nat → Nat} {hm : Nat → Int32} {n v i t : Nat} (hi : t ≤ i) : fsM ops E hm n v i (t - i) = none := by
  rw [Nat.sub_eq_zero_of_le hi]; rfl
theorem fsM_lt {ops : Nat → Int32} {E : Nat → Nat} {hm : Nat → Int32} {n v q : Nat} : ∀ (k i : Nat), fsM ops E hm n v i k = some q → i ≤ q ∧ q < i + k
  | 0, i, h => by cases h
  | k + 1, i, h => by
    unfold fsM at h
    split at h
    · cases h; omega
    · have := fsM_lt k (i + 1) h; omega
theorem oI_lt {o : Option Nat} (h : oI o < 0) (hb : ∀ b, o = some b → b < 2 ^ 31) : o = none := by
  cases o with
  | none => rfl
  | some b => exact absurd h (nI_pos (hb b rfl))
theorem oI_ge {o : Option Nat} (h : ¬ oI o < 0) : ∃ b, o = some b := by
  cases o with
  | none => exact absurd (by decide) h
  | some b => exact ⟨b, rfl⟩
