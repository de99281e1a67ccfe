/-! to be proved -/
theorem cnt_eq_t {x : CS} {y : MS9} (R : Rel x y) (h : x.lb = true) {q : Int32} (hq : inB q 0 7 = true) : ctR x.n x.vc x.sc2 x.k x.ev x.hm q = ctM x.ops y.plc x.n y.sm y.evm y.rgm y.alc q := by
  have e1 : lsc x = x.sc2 := if_pos h
  rw [← e1]; exact cnt_eq R hq
theorem cnt_eq_f {x : CS} {y : MS9} (R : Rel x y) (h : x.lb = false) {q : Int32} (hq : inB q 0 7 = true) : ctR x.n x.vc x.sc x.k x.ev x.hm q = ctM x.ops y.plc x.n y.sm y.evm y.rgm y.alc q := by
  have e1 : lsc x = x.sc := if_neg (by rw [h]; decide)
  rw [← e1]; exact cnt_eq R hq
