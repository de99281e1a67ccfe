/-! what an instruction more does to the arrays of a code -/
def nuE (b : Bool) (E : Nat → Nat) (v n : Nat) : Nat → Nat := if b = true then uN E v n else E
def nuU (b : Bool) (U : Nat → Nat) (v : Nat) : Nat → Nat := if b = true then uN U v (U v + 1) else U
def nuP (b : Bool) (P : Nat → Nat) (v n : Nat) : Nat → Nat := if b = true then uN P v (P v + P n) else P
def apE (E : Nat → Nat) (n : Nat) (op x y : Int32) : Nat → Nat := nuE (uR op) (nuE (uL op) (uN E n (n + 1)) x.toNatClampNeg n) y.toNatClampNeg n
def apU (U : Nat → Nat) (n : Nat) (op x y : Int32) : Nat → Nat := nuU (uR op) (nuU (uL op) (uN U n 0) x.toNatClampNeg) y.toNatClampNeg
def apP (P : Nat → Nat) (n : Nat) (op x y : Int32) (dp : Nat) : Nat → Nat := nuP (uR op) (nuP (uL op) (uN P n (prc dp)) x.toNatClampNeg n) y.toNatClampNeg n
def apV (vc : Nat) (op : Int32) : Nat := if op = 6 then vc else vc + 1
theorem nuE_t {b : Bool} {E : Nat → Nat} {v n j : Nat} (h : b = true) (hv : v = j) : nuE b E v n = uN E j n := by subst hv; exact if_pos h
theorem nuE_f {b : Bool} {E : Nat → Nat} {v n : Nat} (h : b = false) : nuE b E v n = E := if_neg (by rw [h]; decide)
theorem nuU_t {b : Bool} {U : Nat → Nat} {v j : Nat} (h : b = true) (hv : v = j) : nuU b U v = uN U j (U j + 1) := by subst hv; exact if_pos h
theorem nuU_f {b : Bool} {U : Nat → Nat} {v : Nat} (h : b = false) : nuU b U v = U := if_neg (by rw [h]; decide)
theorem nuP_t {b : Bool} {P : Nat → Nat} {v n j : Nat} (h : b = true) (hv : v = j) : nuP b P v n = uN P j (P j + P n) := by subst hv; exact if_pos h
theorem nuP_f {b : Bool} {P : Nat → Nat} {v n : Nat} (h : b = false) : nuP b P v n = P := if_neg (by rw [h]; decide)
