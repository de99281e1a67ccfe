/-! to be proved -/
theorem alloc_fin {x : CS} {y : MS9} (R : Rel x y) (kk : Int32) : ∃ (T : Nat) (z : Bool × (Nat → Int32) × Nat), inB kk 1 5 = true → flM x.ops x.E x.P x.n kk.toNatClampNeg T (filF y.mde (-1) x.n) 0 = some z ∧ (FLx x kk).1 = z.1 ∧ (z.1 = true → Rel (aloX x kk.toNatClampNeg (FLx x kk)) (aloY y x.n kk.toNatClampNeg z) ∧ vF (FLx x kk).2.1 0 5 = cnR x.ops z.2.1 x.n) := sorry
theorem cnt_eq_t {x : CS} {y : MS9} (R : Rel x y) (h : x.lb = true) {q : Int32} (hq : inB q 0 7 = true) : ctR x.n x.vc x.sc2 x.k x.ev x.hm q = ctM x.ops y.plc x.n y.sm y.evm y.rgm y.alc q := by
  have e1 : lsc x = x.sc2 := if_pos h
  rw [← e1]; exact cnt_eq R hq
theorem cnt_eq_f {x : CS} {y : MS9} (R : Rel x y) (h : x.lb = false) {q : Int32} (hq : inB q 0 7 = true) : ctR x.n x.vc x.sc x.k x.ev x.hm q = ctM x.ops y.plc x.n y.sm y.evm y.rgm y.alc q := by
  have e1 : lsc x = x.sc := if_neg (by rw [h]; decide)
  rw [← e1]; exact cnt_eq R hq
