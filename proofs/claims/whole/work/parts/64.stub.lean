/-! to be proved -/
theorem hwa9 {x : CS} {y : MS9} (R : Rel x y) : ∀ j, j < x.n → vf_n64 (wt x.P x.E j) := sorry
theorem nan1 {x : CS} {y : MS9} (R : Rel x y) : ∀ j, j < x.n → ¬ x.hm j < 10 → vf_n64 (FP.dadd (ps x.P x.hm j) (FP.i2d (nI (x.P j)))) := sorry
theorem nan2 {x : CS} {y : MS9} (R : Rel x y) : ∀ j, j < x.n → ¬ x.ops j = 6 → ¬ y.plc j ≤ 9 → vf_n64 (FP.dadd (psM x.ops x.P y.plc j) (FP.i2d (nI (x.P j)))) := sorry
theorem ckw {x : CS} {y : MS9} (R : Rel x y) : ∀ i, i < x.n → CK x.ops x.lf x.rg (owF 24) i := sorry
theorem cka {x : CS} {y : MS9} (R : Rel x y) : ¬ nI x.k = 0 → ∀ i, i < x.n → CK x.ops x.lf x.rg x.hm i := sorry
theorem cmf {x : CS} {y : MS9} (R : Rel x y) : ∀ i, i < x.n → CM false x.ops x.lf x.rg y.plc i := sorry
theorem cmt {x : CS} {y : MS9} (R : Rel x y) : y.alc = true → ∀ i, i < x.n → CM true x.ops x.lf x.rg y.plc i := sorry
theorem rel_add {x : CS} {y : MS9} (R : Rel x y) {op p q d : Int32} (h : acc x.ops x.n op p q d = true) (h2 : x.n < 24) : Rel (addX x op p q d) (addY y x.n d) := sorry
theorem rel_clr {x : CS} {y : MS9} (R : Rel x y) : Rel (clrX x) (clrY y) := sorry
theorem alloc_fin {x : CS} {y : MS9} (R : Rel x y) (kk : Int32) : ∃ (T : Nat) (z : Bool × (Nat → Int32) × Nat), inB kk 1 5 = true → flM x.ops x.E x.P x.n kk.toNatClampNeg T (filF y.mde (-1) x.n) 0 = some z ∧ (FLx x kk).1 = z.1 ∧ (z.1 = true → Rel (aloX x kk.toNatClampNeg (FLx x kk)) (aloY y x.n kk.toNatClampNeg z) ∧ vF (FLx x kk).2.1 0 5 = cnR x.ops z.2.1 x.n) := sorry
theorem run_eq {x : CS} {y : MS9} (R : Rel x y) (p q r t : Int32) : (ZW x p q r t).2.2.2.2 = !(ZM false x y p q r t).2.2.2.2.2 ∧ ((ZW x p q r t).2.2.2.2 = false → (ZW x p q r t).2.2.2.1 = (ZM false x y p q r t).2.2.2.2.1) := sorry
theorem rel_run {x : CS} {y : MS9} (R : Rel x y) (p q r t u : Int32) : Rel (runX x p q r t) (rnY y (ZM false x y p q r t) u) := sorry
theorem go_eq {x : CS} {y : MS9} (R : Rel x y) (hk : ¬ nI x.k = 0) (p q r t : Int32) : (ZA x p q r t).2.2.2.2 = !(ZM true x y p q r t).2.2.2.2.2 ∧ ((ZA x p q r t).2.2.2.2 = false → (ZA x p q r t).2.2.2.1 = (ZM true x y p q r t).2.2.2.2.1) := sorry
theorem rel_go {x : CS} {y : MS9} (R : Rel x y) (hk : ¬ nI x.k = 0) (p q r t u : Int32) : Rel (goX x p q r t) (rnY y (ZM true x y p q r t) u) := sorry
theorem sam_eq {x : CS} {y : MS9} (R : Rel x y) (hk : ¬ nI x.k = 0) (p q r t : Int32) : endL (ZA x p q r t).2.1 (ZW x p q r t).2.1 (ZA x p q r t).2.2.1 (ZW x p q r t).2.2.1 (ZA x p q r t).2.2.2.1 (ZW x p q r t).2.2.2.1 (ZA x p q r t).2.2.2.2 (ZW x p q r t).2.2.2.2 = smB (cpF y.bfr (ZM false x y p q r t).2.2.1 (ZM false x y p q r t).2.2.2.1) (ZM2 x y p q r t).2.2.1 (ZM false x y p q r t).2.2.2.1 (ZM2 x y p q r t).2.2.2.1 (ZM false x y p q r t).2.2.2.2.1 (ZM2 x y p q r t).2.2.2.2.1 (ZM false x y p q r t).2.2.2.2.2 (ZM2 x y p q r t).2.2.2.2.2 := sorry
theorem rel_sam {x : CS} {y : MS9} (R : Rel x y) (hk : ¬ nI x.k = 0) (p q r t : Int32) : Rel (samX x p q r t) (smY y (ZM false x y p q r t) (ZM2 x y p q r t)) := sorry
theorem cost_eq {x : CS} {y : MS9} (R : Rel x y) (hk : ¬ nI x.k = 0) : ps x.P x.hm x.n = psM x.ops x.P y.plc x.n := sorry
theorem cnt_eq {x : CS} {y : MS9} (R : Rel x y) {q : Int32} (hq : inB q 0 7 = true) : ctR x.n x.vc (lsc x) x.k x.ev x.hm q = ctM x.ops y.plc x.n y.sm y.evm y.rgm y.alc q := sorry
theorem cnt_eq_t {x : CS} {y : MS9} (R : Rel x y) (h : x.lb = true) {q : Int32} (hq : inB q 0 7 = true) : ctR x.n x.vc x.sc2 x.k x.ev x.hm q = ctM x.ops y.plc x.n y.sm y.evm y.rgm y.alc q := by
  have e1 : lsc x = x.sc2 := if_pos h
  rw [← e1]; exact cnt_eq R hq
theorem cnt_eq_f {x : CS} {y : MS9} (R : Rel x y) (h : x.lb = false) {q : Int32} (hq : inB q 0 7 = true) : ctR x.n x.vc x.sc x.k x.ev x.hm q = ctM x.ops y.plc x.n y.sm y.evm y.rgm y.alc q := by
  have e1 : lsc x = x.sc := if_neg (by rw [h]; decide)
  rw [← e1]; exact cnt_eq R hq
