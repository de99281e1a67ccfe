/-! the state of the class, of the reference, and that they stand for the same -/
def AD : Type := Nat × Nat × Nat × Nat × Nat × Nat × Nat × Nat × Nat × Nat × Nat × Nat × Nat × Nat × Nat × Nat × Nat × Nat × Nat × Nat × Nat × Nat × Nat × Nat × Nat × Nat × Nat × Nat × Nat × Nat × Nat × Nat × Nat × Nat × Nat
def AD.xx (x : AD) : Nat := x.1
def AD.h (x : AD) : Nat := x.2.1
def AD.o1 (x : AD) : Nat := x.2.2.1
def AD.o2 (x : AD) : Nat := x.2.2.2.1
def AD.o3 (x : AD) : Nat := x.2.2.2.2.1
def AD.o4 (x : AD) : Nat := x.2.2.2.2.2.1
def AD.o5 (x : AD) : Nat := x.2.2.2.2.2.2.1
def AD.o6 (x : AD) : Nat := x.2.2.2.2.2.2.2.1
def AD.ow (x : AD) : Nat := x.2.2.2.2.2.2.2.2.1
def AD.wm (x : AD) : Nat := x.2.2.2.2.2.2.2.2.2.1
def AD.m1 (x : AD) : Nat := x.2.2.2.2.2.2.2.2.2.2.1
def AD.m2 (x : AD) : Nat := x.2.2.2.2.2.2.2.2.2.2.2.1
def AD.m3 (x : AD) : Nat := x.2.2.2.2.2.2.2.2.2.2.2.2.1
def AD.bm (x : AD) : Nat := x.2.2.2.2.2.2.2.2.2.2.2.2.2.1
def AD.b1 (x : AD) : Nat := x.2.2.2.2.2.2.2.2.2.2.2.2.2.2.1
def AD.b2 (x : AD) : Nat := x.2.2.2.2.2.2.2.2.2.2.2.2.2.2.2.1
def AD.b3 (x : AD) : Nat := x.2.2.2.2.2.2.2.2.2.2.2.2.2.2.2.2.1
def AD.lt (x : AD) : Nat := x.2.2.2.2.2.2.2.2.2.2.2.2.2.2.2.2.2.1
def AD.al (x : AD) : Nat := x.2.2.2.2.2.2.2.2.2.2.2.2.2.2.2.2.2.2.1
def AD.ah (x : AD) : Nat := x.2.2.2.2.2.2.2.2.2.2.2.2.2.2.2.2.2.2.2.1
def AD.at9 (x : AD) : Nat := x.2.2.2.2.2.2.2.2.2.2.2.2.2.2.2.2.2.2.2.2.1
def AD.th (x : AD) : Nat := x.2.2.2.2.2.2.2.2.2.2.2.2.2.2.2.2.2.2.2.2.2.1
def AD.mo (x : AD) : Nat := x.2.2.2.2.2.2.2.2.2.2.2.2.2.2.2.2.2.2.2.2.2.2.1
def AD.a1 (x : AD) : Nat := x.2.2.2.2.2.2.2.2.2.2.2.2.2.2.2.2.2.2.2.2.2.2.2.1
def AD.a2 (x : AD) : Nat := x.2.2.2.2.2.2.2.2.2.2.2.2.2.2.2.2.2.2.2.2.2.2.2.2.1
def AD.a3 (x : AD) : Nat := x.2.2.2.2.2.2.2.2.2.2.2.2.2.2.2.2.2.2.2.2.2.2.2.2.2.1
def AD.a4 (x : AD) : Nat := x.2.2.2.2.2.2.2.2.2.2.2.2.2.2.2.2.2.2.2.2.2.2.2.2.2.2.1
def AD.a5 (x : AD) : Nat := x.2.2.2.2.2.2.2.2.2.2.2.2.2.2.2.2.2.2.2.2.2.2.2.2.2.2.2.1
def AD.a6 (x : AD) : Nat := x.2.2.2.2.2.2.2.2.2.2.2.2.2.2.2.2.2.2.2.2.2.2.2.2.2.2.2.2.1
def AD.a7 (x : AD) : Nat := x.2.2.2.2.2.2.2.2.2.2.2.2.2.2.2.2.2.2.2.2.2.2.2.2.2.2.2.2.2.1
def AD.a8 (x : AD) : Nat := x.2.2.2.2.2.2.2.2.2.2.2.2.2.2.2.2.2.2.2.2.2.2.2.2.2.2.2.2.2.2.1
def AD.a9 (x : AD) : Nat := x.2.2.2.2.2.2.2.2.2.2.2.2.2.2.2.2.2.2.2.2.2.2.2.2.2.2.2.2.2.2.2.1
def AD.a10 (x : AD) : Nat := x.2.2.2.2.2.2.2.2.2.2.2.2.2.2.2.2.2.2.2.2.2.2.2.2.2.2.2.2.2.2.2.2.1
def AD.ou (x : AD) : Nat := x.2.2.2.2.2.2.2.2.2.2.2.2.2.2.2.2.2.2.2.2.2.2.2.2.2.2.2.2.2.2.2.2.2.1
def AD.od (x : AD) : Nat := x.2.2.2.2.2.2.2.2.2.2.2.2.2.2.2.2.2.2.2.2.2.2.2.2.2.2.2.2.2.2.2.2.2.2
def CS : Type := Nat × Nat × (Nat → Int32) × (Nat → Int32) × (Nat → Int32) × (Nat → Nat) × (Nat → Nat) × (Nat → Nat) × (Nat → Int32) × (Nat → Int32) × (Nat → Int32) × Nat × Int32 × Bool × (Nat → Int32) × (Nat → Int32) × (Nat → Int32) × Nat × Int32 × Bool × Bool × Nat × Nat × (Nat → Int32) × Nat × Nat × (Nat → Int32)
def CS.n (x : CS) : Nat := x.1
def CS.vc (x : CS) : Nat := x.2.1
def CS.ops (x : CS) : Nat → Int32 := x.2.2.1
def CS.lf (x : CS) : Nat → Int32 := x.2.2.2.1
def CS.rg (x : CS) : Nat → Int32 := x.2.2.2.2.1
def CS.E (x : CS) : Nat → Nat := x.2.2.2.2.2.1
def CS.U (x : CS) : Nat → Nat := x.2.2.2.2.2.2.1
def CS.P (x : CS) : Nat → Nat := x.2.2.2.2.2.2.2.1
def CS.cl (x : CS) : Nat → Int32 := x.2.2.2.2.2.2.2.2.1
def CS.nu (x : CS) : Nat → Int32 := x.2.2.2.2.2.2.2.2.2.1
def CS.sd (x : CS) : Nat → Int32 := x.2.2.2.2.2.2.2.2.2.2.1
def CS.sc (x : CS) : Nat := x.2.2.2.2.2.2.2.2.2.2.2.1
def CS.rs (x : CS) : Int32 := x.2.2.2.2.2.2.2.2.2.2.2.2.1
def CS.ft (x : CS) : Bool := x.2.2.2.2.2.2.2.2.2.2.2.2.2.1
def CS.cl2 (x : CS) : Nat → Int32 := x.2.2.2.2.2.2.2.2.2.2.2.2.2.2.1
def CS.nu2 (x : CS) : Nat → Int32 := x.2.2.2.2.2.2.2.2.2.2.2.2.2.2.2.1
def CS.sd2 (x : CS) : Nat → Int32 := x.2.2.2.2.2.2.2.2.2.2.2.2.2.2.2.2.1
def CS.sc2 (x : CS) : Nat := x.2.2.2.2.2.2.2.2.2.2.2.2.2.2.2.2.2.1
def CS.rs2 (x : CS) : Int32 := x.2.2.2.2.2.2.2.2.2.2.2.2.2.2.2.2.2.2.1
def CS.ft2 (x : CS) : Bool := x.2.2.2.2.2.2.2.2.2.2.2.2.2.2.2.2.2.2.2.1
def CS.lb (x : CS) : Bool := x.2.2.2.2.2.2.2.2.2.2.2.2.2.2.2.2.2.2.2.2.1
def CS.k (x : CS) : Nat := x.2.2.2.2.2.2.2.2.2.2.2.2.2.2.2.2.2.2.2.2.2.1
def CS.ev (x : CS) : Nat := x.2.2.2.2.2.2.2.2.2.2.2.2.2.2.2.2.2.2.2.2.2.2.1
def CS.hm (x : CS) : Nat → Int32 := x.2.2.2.2.2.2.2.2.2.2.2.2.2.2.2.2.2.2.2.2.2.2.2.1
def CS.k2 (x : CS) : Nat := x.2.2.2.2.2.2.2.2.2.2.2.2.2.2.2.2.2.2.2.2.2.2.2.2.1
def CS.ev2 (x : CS) : Nat := x.2.2.2.2.2.2.2.2.2.2.2.2.2.2.2.2.2.2.2.2.2.2.2.2.2.1
def CS.hm2 (x : CS) : Nat → Int32 := x.2.2.2.2.2.2.2.2.2.2.2.2.2.2.2.2.2.2.2.2.2.2.2.2.2.2
def MS9 : Type := (Nat → Int32) × (Nat → Int32) × (Nat → Int32) × (Nat → Int32) × (Nat → Int32) × (Nat → Int32) × (Nat → Int32) × Nat × Nat × Nat × Int32 × Int32 × Nat × Bool
def MS9.dpa (x : MS9) : Nat → Int32 := x.1
def MS9.plc (x : MS9) : Nat → Int32 := x.2.1
def MS9.mde (x : MS9) : Nat → Int32 := x.2.2.1
def MS9.val (x : MS9) : Nat → Int32 := x.2.2.2.1
def MS9.cel (x : MS9) : Nat → Int32 := x.2.2.2.2.1
def MS9.sdm (x : MS9) : Nat → Int32 := x.2.2.2.2.2.1
def MS9.bfr (x : MS9) : Nat → Int32 := x.2.2.2.2.2.2.1
def MS9.evm (x : MS9) : Nat := x.2.2.2.2.2.2.2.1
def MS9.rgm (x : MS9) : Nat := x.2.2.2.2.2.2.2.2.1
def MS9.sm (x : MS9) : Nat := x.2.2.2.2.2.2.2.2.2.1
def MS9.rm (x : MS9) : Int32 := x.2.2.2.2.2.2.2.2.2.2.1
def MS9.tm (x : MS9) : Int32 := x.2.2.2.2.2.2.2.2.2.2.2.1
def MS9.chm (x : MS9) : Nat := x.2.2.2.2.2.2.2.2.2.2.2.2.1
def MS9.alc (x : MS9) : Bool := x.2.2.2.2.2.2.2.2.2.2.2.2.2
def insOK (ops lf rg : Nat → Int32) (i : Nat) : Prop :=
  (¬ ops i < 0 ∧ ¬ 7 < ops i) ∧ (ops i = 1 → ∃ j : Nat, j < 4 ∧ lf i = nI j) ∧ (uL (ops i) = true → ∃ j : Nat, j < i ∧ lf i = nI j ∧ ops j ≠ 6) ∧ (uR (ops i) = true → ∃ j : Nat, j < i ∧ rg i = nI j ∧ ops j ≠ 6)
def CodeOK (n vc : Nat) (ops lf rg dpa : Nat → Int32) (E U P : Nat → Nat) : Prop := (n ≤ 24) ∧ (∀ j, E j ≤ 24) ∧ (∀ j, j < n → j < E j) ∧ (∀ j, j < n → enI ops lf rg j n = E j) ∧ (∀ j, j < n → smI ops lf rg dpa j n = P j) ∧ (∀ j, j < n → utI ops lf rg j n = U j) ∧ (vc = cvM ops n) ∧ (∀ i, i < n → insOK ops lf rg i)
theorem CodeOK.hn {n vc : Nat} {ops lf rg dpa : Nat → Int32} {E U P : Nat → Nat} (h : CodeOK n vc ops lf rg dpa E U P) : n ≤ 24 := h.1
theorem CodeOK.e24 {n vc : Nat} {ops lf rg dpa : Nat → Int32} {E U P : Nat → Nat} (h : CodeOK n vc ops lf rg dpa E U P) : ∀ j, E j ≤ 24 := h.2.1
theorem CodeOK.ewf {n vc : Nat} {ops lf rg dpa : Nat → Int32} {E U P : Nat → Nat} (h : CodeOK n vc ops lf rg dpa E U P) : ∀ j, j < n → j < E j := h.2.2.1
theorem CodeOK.en {n vc : Nat} {ops lf rg dpa : Nat → Int32} {E U P : Nat → Nat} (h : CodeOK n vc ops lf rg dpa E U P) : ∀ j, j < n → enI ops lf rg j n = E j := h.2.2.2.1
theorem CodeOK.sm {n vc : Nat} {ops lf rg dpa : Nat → Int32} {E U P : Nat → Nat} (h : CodeOK n vc ops lf rg dpa E U P) : ∀ j, j < n → smI ops lf rg dpa j n = P j := h.2.2.2.2.1
theorem CodeOK.ut {n vc : Nat} {ops lf rg dpa : Nat → Int32} {E U P : Nat → Nat} (h : CodeOK n vc ops lf rg dpa E U P) : ∀ j, j < n → utI ops lf rg j n = U j := h.2.2.2.2.2.1
theorem CodeOK.vcn {n vc : Nat} {ops lf rg dpa : Nat → Int32} {E U P : Nat → Nat} (h : CodeOK n vc ops lf rg dpa E U P) : vc = cvM ops n := h.2.2.2.2.2.2.1
theorem CodeOK.ok {n vc : Nat} {ops lf rg dpa : Nat → Int32} {E U P : Nat → Nat} (h : CodeOK n vc ops lf rg dpa E U P) : ∀ i, i < n → insOK ops lf rg i := h.2.2.2.2.2.2.2
/-- homes that a finished allocation with k registers leaves -/
def homesOK (ops : Nat → Int32) (n k : Nat) (hm : Nat → Int32) : Prop := ∀ j, j < n → ops j ≠ 6 → ∃ q : Nat, hm j = nI q ∧ (q < k ∨ (10 ≤ q ∧ q < 16))
def lsc (x : CS) : Nat := if x.lb = true then x.sc2 else x.sc
def lsd (x : CS) : Nat → Int32 := if x.lb = true then x.sd2 else x.sd
def Rel (x : CS) (y : MS9) : Prop := (CodeOK x.n x.vc x.ops x.lf x.rg y.dpa x.E x.U x.P) ∧ (x.k ≤ 5) ∧ (y.alc = !decide (x.k = 0)) ∧ (x.k ≠ 0 → y.rgm = x.k ∧ y.evm = x.ev ∧ (∀ j, j < x.n → y.plc j = x.hm j) ∧ homesOK x.ops x.n x.k x.hm) ∧ (x.k = 0 → x.ev = 0 ∧ ∀ j, j < 24 → x.hm j = -1) ∧ (∀ j, j < 24 → (x.n ≤ j ∨ x.ops j = 6) → x.hm j = -1) ∧ (lsc x ≤ 24) ∧ (y.sm = lsc x) ∧ (∀ j, j < lsc x → y.sdm j = lsd x j)
theorem Rel.cod {x : CS} {y : MS9} (h : Rel x y) : CodeOK x.n x.vc x.ops x.lf x.rg y.dpa x.E x.U x.P := h.1
theorem Rel.k5 {x : CS} {y : MS9} (h : Rel x y) : x.k ≤ 5 := h.2.1
theorem Rel.alc {x : CS} {y : MS9} (h : Rel x y) : y.alc = !decide (x.k = 0) := h.2.2.1
theorem Rel.al1 {x : CS} {y : MS9} (h : Rel x y) : x.k ≠ 0 → y.rgm = x.k ∧ y.evm = x.ev ∧ (∀ j, j < x.n → y.plc j = x.hm j) ∧ homesOK x.ops x.n x.k x.hm := h.2.2.2.1
theorem Rel.al0 {x : CS} {y : MS9} (h : Rel x y) : x.k = 0 → x.ev = 0 ∧ ∀ j, j < 24 → x.hm j = -1 := h.2.2.2.2.1
theorem Rel.out {x : CS} {y : MS9} (h : Rel x y) : ∀ j, j < 24 → (x.n ≤ j ∨ x.ops j = 6) → x.hm j = -1 := h.2.2.2.2.2.1
theorem Rel.sc1 {x : CS} {y : MS9} (h : Rel x y) : lsc x ≤ 24 := h.2.2.2.2.2.2.1
theorem Rel.smn {x : CS} {y : MS9} (h : Rel x y) : y.sm = lsc x := h.2.2.2.2.2.2.2.1
theorem Rel.sdn {x : CS} {y : MS9} (h : Rel x y) : ∀ j, j < lsc x → y.sdm j = lsd x j := h.2.2.2.2.2.2.2.2
def LT (a : AD) (x : CS) : Prop := a.lt = if x.lb = true then a.bm else a.wm
def addX (x : CS) (op p q d : Int32) : CS := (x.n + 1, apV x.vc op, upd x.ops x.n op, upd x.lf x.n p, upd x.rg x.n q, apE x.E x.n op p q, apU x.U x.n op p q, apP x.P x.n op p q d.toNatClampNeg, x.cl, x.nu, x.sd, x.sc, x.rs, x.ft, x.cl2, x.nu2, x.sd2, x.sc2, x.rs2, x.ft2, x.lb, 0, 0, filF x.hm (-1) 24, x.k2, x.ev2, x.hm2)
def addY (y : MS9) (n : Nat) (d : Int32) : MS9 := (upd y.dpa n d, y.plc, y.mde, y.val, y.cel, y.sdm, y.bfr, y.evm, y.rgm, y.sm, y.rm, 0, y.chm, false)
def tmY (y : MS9) (t : Int32) : MS9 := (y.dpa, y.plc, y.mde, y.val, y.cel, y.sdm, y.bfr, y.evm, y.rgm, y.sm, y.rm, t, y.chm, y.alc)
def clrX (x : CS) : CS := (0, 0, x.ops, x.lf, x.rg, x.E, x.U, x.P, x.cl, x.nu, x.sd, x.sc, x.rs, x.ft, x.cl2, x.nu2, x.sd2, x.sc2, x.rs2, x.ft2, x.lb, 0, 0, filF x.hm (-1) 24, x.k2, x.ev2, x.hm2)
def clrY (y : MS9) : MS9 := (y.dpa, y.plc, y.mde, y.val, y.cel, y.sdm, y.bfr, y.evm, y.rgm, y.sm, y.rm, 0, y.chm, false)
def FLx (x : CS) (kk : Int32) : Bool × (Nat → Int32) × Nat := flR x.ops x.E x.P x.n kk.toNatClampNeg LIM (filF x.hm2 (-1) 24) 0
def aloX (x : CS) (kn : Nat) (FL : Bool × (Nat → Int32) × Nat) : CS := (x.n, x.vc, x.ops, x.lf, x.rg, x.E, x.U, x.P, x.cl, x.nu, x.sd, x.sc, x.rs, x.ft, x.cl2, x.nu2, x.sd2, x.sc2, x.rs2, x.ft2, x.lb, kn, FL.2.2, FL.2.1, x.k, x.ev, x.hm)
def alfX (x : CS) (kn : Nat) (FL : Bool × (Nat → Int32) × Nat) : CS := (x.n, x.vc, x.ops, x.lf, x.rg, x.E, x.U, x.P, x.cl, x.nu, x.sd, x.sc, x.rs, x.ft, x.cl2, x.nu2, x.sd2, x.sc2, x.rs2, x.ft2, x.lb, x.k, x.ev, x.hm, kn, FL.2.2, FL.2.1)
def aloA (a : AD) : AD := (a.xx, a.h, a.o1, a.o2, a.o3, a.o4, a.o5, a.o6, a.ow, a.wm, a.m1, a.m2, a.m3, a.bm, a.b1, a.b2, a.b3, a.lt, a.at9, a.th, a.al, a.ah, a.mo, a.a1, a.a2, a.a3, a.a4, a.a5, a.a6, a.a7, a.a8, a.a9, a.a10, a.ou, a.od)
def ltW (a : AD) : AD := (a.xx, a.h, a.o1, a.o2, a.o3, a.o4, a.o5, a.o6, a.ow, a.wm, a.m1, a.m2, a.m3, a.bm, a.b1, a.b2, a.b3, a.wm, a.al, a.ah, a.at9, a.th, a.mo, a.a1, a.a2, a.a3, a.a4, a.a5, a.a6, a.a7, a.a8, a.a9, a.a10, a.ou, a.od)
def ltB (a : AD) : AD := (a.xx, a.h, a.o1, a.o2, a.o3, a.o4, a.o5, a.o6, a.ow, a.wm, a.m1, a.m2, a.m3, a.bm, a.b1, a.b2, a.b3, a.bm, a.al, a.ah, a.at9, a.th, a.mo, a.a1, a.a2, a.a3, a.a4, a.a5, a.a6, a.a7, a.a8, a.a9, a.a10, a.ou, a.od)
def aloY (y : MS9) (n : Nat) (kn : Nat) (z : Bool × (Nat → Int32) × Nat) : MS9 := (y.dpa, cpF y.plc z.2.1 n, z.2.1, y.val, y.cel, y.sdm, y.bfr, z.2.2, kn, y.sm, y.rm, 0, z.2.2, true)
def alfY (y : MS9) (z : Bool × (Nat → Int32) × Nat) : MS9 := (y.dpa, y.plc, z.2.1, y.val, y.cel, y.sdm, y.bfr, y.evm, y.rgm, y.sm, y.rm, 2, z.2.2, y.alc)
def NUx (nu : Nat → Int32) (x y z w : Int32) : Nat → Int32 := upd (upd (upd (upd nu 0 x) 1 y) 2 z) 3 w
def ZW (x : CS) (p q r t : Int32) : MS := pf (upd (upd (upd (upd x.nu 0 p) 1 q) 2 r) 3 t) x.ops x.lf x.rg (owF 24) 0 (filF x.cl 0 24, x.sd, 0, 0, false) x.n
def ZA (x : CS) (p q r t : Int32) : MS := pf (upd (upd (upd (upd x.nu2 0 p) 1 q) 2 r) 3 t) x.ops x.lf x.rg x.hm x.k (filF x.cl2 0 24, x.sd2, 0, 0, false) x.n
def runX (x : CS) (p q r t : Int32) : CS := (x.n, x.vc, x.ops, x.lf, x.rg, x.E, x.U, x.P, (ZW x p q r t).1, NUx x.nu p q r t, (ZW x p q r t).2.1, (ZW x p q r t).2.2.1, (ZW x p q r t).2.2.2.1, (ZW x p q r t).2.2.2.2, x.cl2, x.nu2, x.sd2, x.sc2, x.rs2, x.ft2, false, x.k, x.ev, x.hm, x.k2, x.ev2, x.hm2)
def goX (x : CS) (p q r t : Int32) : CS := (x.n, x.vc, x.ops, x.lf, x.rg, x.E, x.U, x.P, x.cl, x.nu, x.sd, x.sc, x.rs, x.ft, (ZA x p q r t).1, NUx x.nu2 p q r t, (ZA x p q r t).2.1, (ZA x p q r t).2.2.1, (ZA x p q r t).2.2.2.1, (ZA x p q r t).2.2.2.2, true, x.k, x.ev, x.hm, x.k2, x.ev2, x.hm2)
def samX (x : CS) (p q r t : Int32) : CS := (x.n, x.vc, x.ops, x.lf, x.rg, x.E, x.U, x.P, (ZW x p q r t).1, NUx x.nu p q r t, (ZW x p q r t).2.1, (ZW x p q r t).2.2.1, (ZW x p q r t).2.2.2.1, (ZW x p q r t).2.2.2.2, (ZA x p q r t).1, NUx x.nu2 p q r t, (ZA x p q r t).2.1, (ZA x p q r t).2.2.1, (ZA x p q r t).2.2.2.1, (ZA x p q r t).2.2.2.2, true, x.k, x.ev, x.hm, x.k2, x.ev2, x.hm2)
def ZM (pl : Bool) (x : CS) (y : MS9) (p q r t : Int32) : MSM := pfM pl (n4 p q r t) x.ops x.lf x.rg y.plc (y.val, filF y.cel 0 16, y.sdm, 0, 0, true) x.n
def ZM2 (x : CS) (y : MS9) (p q r t : Int32) : MSM := pfM true (n4 p q r t) x.ops x.lf x.rg y.plc ((ZM false x y p q r t).1, filF (ZM false x y p q r t).2.1 0 16, (ZM false x y p q r t).2.2.1, 0, 0, true) x.n
def rnY (y : MS9) (Z : MSM) (t : Int32) : MS9 := (y.dpa, y.plc, y.mde, Z.1, Z.2.1, Z.2.2.1, y.bfr, y.evm, y.rgm, Z.2.2.2.1, Z.2.2.2.2.1, t, y.chm, y.alc)
def smY (y : MS9) (Z1 Z : MSM) : MS9 := (y.dpa, y.plc, y.mde, Z.1, Z.2.1, Z.2.2.1, cpF y.bfr Z1.2.2.1 Z1.2.2.2.1, y.evm, y.rgm, Z.2.2.2.1, Z.2.2.2.2.1, 0, y.chm, y.alc)
theorem Rel.tm {x : CS} {y : MS9} (h : Rel x y) (t : Int32) : Rel x (tmY y t) := h
