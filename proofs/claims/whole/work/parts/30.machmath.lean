/-! words for a machine: what an instruction makes, what it says, whether it faults -/
def dvV (x y : Int32) : Int32 := if y = 0 then 0 else x / y
def dvF (ft : Bool) (y : Int32) : Bool := if y = 0 then true else ft
def cmpV (nu : Nat → Int32) (op x y : Int32) : Int32 :=
  if op = 1 then nu x.toNatClampNeg else if op = 2 then x + y else if op = 3 then x - y else if op = 4 then x * y else if op = 5 then dvV x y else if op = 6 then 0 else if op = 7 then x * 3 + 1 else x
def cmpS (sd : Nat → Int32) (sc : Nat) (op x : Int32) : Nat → Int32 := if op = 6 then upd sd sc x else sd
def cmpN (sc : Nat) (op : Int32) : Nat := if op = 6 then sc + 1 else sc
def cmpF (ft : Bool) (op y : Int32) : Bool := if op = 5 then dvF ft y else ft
theorem cmpV_1 {nu : Nat → Int32} {op x y : Int32} (h : op = 1) : nu x.toNatClampNeg = cmpV nu op x y := by subst h; rfl
theorem cmpV_2 {nu : Nat → Int32} {op x y : Int32} (h : op = 2) : x + y = cmpV nu op x y := by subst h; rfl
theorem cmpV_3 {nu : Nat → Int32} {op x y : Int32} (h : op = 3) : x - y = cmpV nu op x y := by subst h; rfl
theorem cmpV_4 {nu : Nat → Int32} {op x y : Int32} (h : op = 4) : x * y = cmpV nu op x y := by subst h; rfl
theorem cmpV_5 {nu : Nat → Int32} {op x y : Int32} (h : op = 5) : dvV x y = cmpV nu op x y := by subst h; rfl
theorem cmpV_6 {nu : Nat → Int32} {op x y : Int32} (h : op = 6) : 0 = cmpV nu op x y := by subst h; rfl
theorem cmpV_7 {nu : Nat → Int32} {op x y : Int32} (h : op = 7) : x * 3 + 1 = cmpV nu op x y := by subst h; rfl
theorem cmpV_8 {nu : Nat → Int32} {op x y : Int32} (h1 : ¬ op = 1) (h2 : ¬ op = 2) (h3 : ¬ op = 3) (h4 : ¬ op = 4) (h5 : ¬ op = 5) (h6 : ¬ op = 6) (h7 : ¬ op = 7) : x = cmpV nu op x y := by
  unfold cmpV; rw [if_neg h1, if_neg h2, if_neg h3, if_neg h4, if_neg h5, if_neg h6, if_neg h7]
theorem cmpS_n {sd : Nat → Int32} {sc : Nat} {op x : Int32} (h : ¬ op = 6) : cmpS sd sc op x = sd := if_neg h
theorem cmpN_n {sc : Nat} {op : Int32} (h : ¬ op = 6) : cmpN sc op = sc := if_neg h
theorem cmpF_n {ft : Bool} {op y : Int32} (h : ¬ op = 5) : cmpF ft op y = ft := if_neg h
theorem ne_of {op a b : Int32} (h : op = a) (hab : ¬ a = b) : ¬ op = b := fun q => hab (h.symm.trans q)
def spF (cl : Nat → Int32) (k : Nat) : Nat → Int32 := fun j => if 2 ≤ j ∧ j < k then -1 else cl j
theorem spF_0 (cl : Nat → Int32) : spF cl 2 = cl := funext fun j => if_neg (by omega)
theorem spF_s (cl : Nat → Int32) {i : Nat} (hi : 2 ≤ i) : upd (spF cl i) i (-1) = spF cl (i + 1) := by
  funext j
  unfold upd spF
  by_cases h : j = i
  · rw [if_pos h, if_pos (by omega)]
  · rw [if_neg h]
    by_cases h2 : 2 ≤ j ∧ j < i
    · rw [if_pos h2, if_pos (by omega)]
    · rw [if_neg h2, if_neg (by omega)]
theorem spF_e {cl : Nat → Int32} {k i : Nat} (hi : 2 ≤ i) (hk : k ≤ i) (h : i ≤ k ∨ i = 2) : spF cl k = spF cl i := by
  funext j
  unfold spF
  by_cases h2 : 2 ≤ j ∧ j < k
  · rw [if_pos h2, if_pos (by omega)]
  · rw [if_neg h2, if_neg (by omega)]
/-- what an instruction takes from the left and from the right -/
def opL (cl hm ops lf : Nat → Int32) (i : Nat) : Int32 := if uL (ops i) = true then cl (hm (lf i).toNatClampNeg).toNatClampNeg else lf i
def opR (cl hm ops rg : Nat → Int32) (i : Nat) : Int32 := if uR (ops i) = true then cl (hm (rg i).toNatClampNeg).toNatClampNeg else 0
/-- cells, said, how many, result, fault -/
abbrev MS : Type := (Nat → Int32) × (Nat → Int32) × Nat × Int32 × Bool
def stC (cl hm ops : Nat → Int32) (k i : Nat) (rs : Int32) (ft : Bool) : Nat → Int32 :=
  if ops i ≠ 6 ∧ ft = false then upd (if ops i = 7 then spF cl k else cl) (hm i).toNatClampNeg rs else (if ops i = 7 then spF cl k else cl)
def stM (nu ops lf rg hm : Nat → Int32) (k i : Nat) (cl sd : Nat → Int32) (sc : Nat) (ft : Bool) : MS :=
  (stC cl hm ops k i (cmpV nu (ops i) (opL cl hm ops lf i) (opR cl hm ops rg i)) (cmpF ft (ops i) (opR cl hm ops rg i)), cmpS sd sc (ops i) (opL cl hm ops lf i), cmpN sc (ops i), cmpV nu (ops i) (opL cl hm ops lf i) (opR cl hm ops rg i), cmpF ft (ops i) (opR cl hm ops rg i))
def pf (nu ops lf rg hm : Nat → Int32) (k : Nat) (z : MS) : Nat → MS
  | 0 => z
  | i + 1 => if (pf nu ops lf rg hm k z i).2.2.2.2 = true then pf nu ops lf rg hm k z i else stM nu ops lf rg hm k i (pf nu ops lf rg hm k z i).1 (pf nu ops lf rg hm k z i).2.1 (pf nu ops lf rg hm k z i).2.2.1 (pf nu ops lf rg hm k z i).2.2.2.2
theorem pf_s {nu ops lf rg hm : Nat → Int32} {k i : Nat} {z : MS} {x1 x2 : Nat → Int32} {x3 : Nat} {x4 : Int32} {x5 : Bool} (h : (x1, x2, x3, x4, x5) = pf nu ops lf rg hm k z i) (h5 : x5 = false) : stM nu ops lf rg hm k i x1 x2 x3 x5 = pf nu ops lf rg hm k z (i + 1) := by
  show _ = if (pf nu ops lf rg hm k z i).2.2.2.2 = true then _ else _
  rw [← h]
  show _ = if x5 = true then _ else _
  rw [if_neg (by rw [h5]; decide)]
theorem pf_stop {nu ops lf rg hm : Nat → Int32} {k i m : Nat} {z : MS} (h : (pf nu ops lf rg hm k z i).2.2.2.2 = true) (him : i ≤ m) : pf nu ops lf rg hm k z m = pf nu ops lf rg hm k z i := by
  induction m with
  | zero => rw [Nat.le_zero.mp him]
  | succ m ih =>
    rcases Nat.lt_or_ge m i with q | q
    · rw [show i = m + 1 by omega]
    · have e := ih q
      show (if (pf nu ops lf rg hm k z m).2.2.2.2 = true then pf nu ops lf rg hm k z m else _) = _
      rw [e, if_pos h]
/-- do two runs end alike: of the first k said -/
def sdE (a b : Nat → Int32) : Nat → Bool
  | 0 => true
  | k + 1 => sdE a b k && decide (a k = b k)
def endL (a b : Nat → Int32) (sa sb : Nat) (ra rb : Int32) (fa fb : Bool) : Bool := decide (fa = fb) && (decide (sa = sb) && (sdE a b sa && (fa || decide (ra = rb))))
theorem sdE_y {a b : Nat → Int32} {k : Nat} (h : sdE a b k = true) (q : a k = b k) : sdE a b (k + 1) = true := by
  show (sdE a b k && decide (a k = b k)) = true
  rw [h, decide_eq_true q]; rfl
theorem sdE_n {a b : Nat → Int32} {k m : Nat} (q : ¬ a k = b k) (hkm : k < m) : sdE a b m = false := by
  induction m with
  | zero => omega
  | succ m ih =>
    show (sdE a b m && decide (a m = b m)) = false
    rcases Nat.lt_or_ge k m with h | h
    · rw [ih h]; rfl
    · rw [show m = k by omega, decide_eq_false q, Bool.and_false]
theorem bI_eq {a b : Bool} (h : bI a = bI b) : a = b := by cases a <;> cases b <;> first | rfl | exact absurd h (by decide)
