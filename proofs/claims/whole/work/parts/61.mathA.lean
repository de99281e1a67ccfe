/-! doubles: weights are numbers, and more than nothing -/
theorem n64_of {r : UInt64} (h : FP.Core.val64 r ≠ .nan) : vf_n64 r := by
  have h1 := (FP.Core.ne_nan r).mp h
  unfold vf_n64
  rw [UInt64.le_iff_toNat_le, UInt64.toNat_and]
  show r.toNat &&& (2 ^ 63 - 1) ≤ 9218868437227405312
  rw [Nat.and_two_pow_sub_one_eq_mod]
  exact h1
def zv (a : UInt64) : Int := FP.Core.zval FP.Core.b64 (FP.Core.val64 a)
def nn (a : UInt64) : Prop := FP.Core.val64 a ≠ .nan
theorem dint_nn {i : Int} {a : UInt64} (h : FP.Core.DInt i a) : nn a := fun q => by
  unfold FP.Core.DInt at h
  rw [q] at h
  exact h
theorem dlt_iff {a b : UInt64} (ha : nn a) (hb : nn b) : dlt a b ↔ zv a < zv b := by
  unfold dlt
  rw [FP.Core.dcmp_lt]
  exact ⟨fun h => h.2.2, fun h => ⟨ha, hb, h⟩⟩
theorem dgt_iff {a b : UInt64} (ha : nn a) (hb : nn b) : dgt a b ↔ zv b < zv a := by
  unfold dgt
  rw [FP.Core.dcmp_gt]
  exact ⟨fun h => h.2.2, fun h => ⟨ha, hb, h⟩⟩
theorem deq_iff {a b : UInt64} (ha : nn a) (hb : nn b) : deq a b ↔ zv a = zv b := by
  unfold deq
  rw [FP.Core.dcmp_eq]
  exact ⟨fun h => h.2.2, fun h => ⟨ha, hb, h⟩⟩
theorem nn_0 : nn FP.dconst0 := by unfold nn; decide +kernel
theorem zv_0 : zv FP.dconst0 = 0 := FP.Core.zval64_zero
theorem rr_pos {A B : Nat} {e : Int} (hA : 0 < A) (hB : 0 < B) (h : ¬ FP.Core.Below A B (FP.Core.b64.qmin - e)) : 0 < FP.Core.zval FP.Core.b64 (FP.Core.roundRatio FP.Core.b64 false A B e) := by
  have hq : ¬ FP.Core.Below A B (FP.Core.quantum FP.Core.b64 A B e - e + (0 : Nat)) := by
    rcases FP.Core.quantum_not_below (f := FP.Core.b64) hA hB e with q | q
    · rw [q]; simpa using h
    · intro q2
      exact q (FP.Core.below_mono (by show _ ≤ _ + ((53 : Int) - 1); omega) q2)
  rw [← FP.Core.units_below] at hq
  have hn : 1 ≤ FP.Core.nearest (FP.Core.unitsNum A e (FP.Core.quantum FP.Core.b64 A B e)) (FP.Core.unitsDen B e (FP.Core.quantum FP.Core.b64 A B e)) := FP.Core.nearest_ge (FP.Core.unitsDen_pos hB _ _) (by omega)
  have hb : ∀ (c : Nat) (q : Int), 1 ≤ c → 0 < FP.Core.zval FP.Core.b64 (FP.Core.bound FP.Core.b64 false c q) := by
    intro c q hc
    unfold FP.Core.bound
    split
    · show (0 : Int) < ((FP.Core.inUnits c q FP.Core.b64.qmin : Nat) : Int)
      unfold FP.Core.inUnits
      have := Nat.mul_pos (show 0 < c by omega) (Nat.two_pow_pos (q - FP.Core.b64.qmin).toNat)
      omega
    · show (0 : Int) < ((FP.Core.b64.tails * 2 ^ (FP.Core.b64.exps - 2) : Nat) : Int)
      have := Nat.mul_pos (FP.Core.tails_pos FP.Core.b64) (Nat.two_pow_pos (FP.Core.b64.exps - 2))
      omega
  unfold FP.Core.roundRatio
  rw [if_neg (by omega)]
  unfold FP.Core.roundAt FP.Core.settle
  split
  · exact hb _ _ hn
  · exact hb _ _ (FP.Core.tails_pos FP.Core.b64)
theorem dd_pos {p q : Nat} (hp : 0 < p) (hp2 : p < 2 ^ 31) (hq : 0 < q) (hq2 : q ≤ 24) : nn (FP.ddiv (FP.i2d (nI p)) (FP.i2d (nI q))) ∧ 0 < zv (FP.ddiv (FP.i2d (nI p)) (FP.i2d (nI q))) := by
  have h1 := FP.Core.i2d_int (nI p)
  have h2 := FP.Core.i2d_int (nI q)
  have f1 := FP.Core.val64_fits (FP.i2d (nI p))
  have f2 := FP.Core.val64_fits (FP.i2d (nI q))
  rw [nI_toInt hp2] at h1
  rw [nI_toInt (by omega)] at h2
  unfold FP.Core.DInt at h1 h2
  unfold nn zv
  have e := FP.Core.val64_ddiv (FP.i2d (nI p)) (FP.i2d (nI q))
  unfold FP.ddiv
  rw [e]
  revert h1 h2 f1 f2
  generalize FP.Core.val64 (FP.i2d (nI p)) = x
  generalize FP.Core.val64 (FP.i2d (nI q)) = y
  intro h1 h2 f1 f2
  cases x with
  | nan => exact h1.elim
  | inf => exact h1.elim
  | fin s c a =>
  cases y with
  | nan => exact h2.elim
  | inf => exact h2.elim
  | fin t d b =>
    have k1 : FP.Core.signed s (c * 2 ^ a.toNat) = (p : Int) * ((2 ^ (-a).toNat : Nat) : Int) := h1
    have k2 : FP.Core.signed t (d * 2 ^ b.toNat) = (q : Int) * ((2 ^ (-b).toNat : Nat) : Int) := h2
    have p1 := Nat.mul_pos hp (Nat.two_pow_pos (-a).toNat)
    have p2 := Nat.mul_pos hq (Nat.two_pow_pos (-b).toNat)
    have es : s = false := by
      cases s with
      | false => rfl
      | true =>
        have k : -((c * 2 ^ a.toNat : Nat) : Int) = (p : Int) * ((2 ^ (-a).toNat : Nat) : Int) := k1
        rw [← Int.natCast_mul] at k
        omega
    have et : t = false := by
      cases t with
      | false => rfl
      | true =>
        have k : -((d * 2 ^ b.toNat : Nat) : Int) = (q : Int) * ((2 ^ (-b).toNat : Nat) : Int) := k2
        rw [← Int.natCast_mul] at k
        omega
    subst es; subst et
    have m1 : c * 2 ^ a.toNat = p * 2 ^ (-a).toNat := by
      have k : ((c * 2 ^ a.toNat : Nat) : Int) = (p : Int) * ((2 ^ (-a).toNat : Nat) : Int) := k1
      rw [← Int.natCast_mul] at k
      omega
    have m2 : d * 2 ^ b.toNat = q * 2 ^ (-b).toNat := by
      have k : ((d * 2 ^ b.toNat : Nat) : Int) = (q : Int) * ((2 ^ (-b).toNat : Nat) : Int) := k2
      rw [← Int.natCast_mul] at k
      omega
    have hc : 0 < c := by
      rcases Nat.eq_zero_or_pos c with z | z
      · rw [z, Nat.zero_mul] at m1; omega
      · exact z
    have hd : 0 < d := by
      rcases Nat.eq_zero_or_pos d with z | z
      · rw [z, Nat.zero_mul] at m2; omega
      · exact z
    have c53 : c < 2 ^ 53 := f1.1
    have d53 : d < 2 ^ 53 := f2.1
    have la : -52 ≤ a := by
      apply Decidable.byContradiction
      intro h
      have e0 : a.toNat = 0 := by omega
      obtain ⟨k, hk⟩ : ∃ k, (-a).toNat = 53 + k := ⟨(-a).toNat - 53, by omega⟩
      rw [e0, hk, Nat.pow_zero, Nat.mul_one, Nat.pow_add] at m1
      have := Nat.mul_pos hp (Nat.two_pow_pos k)
      have e1 : p * (2 ^ 53 * 2 ^ k) = 2 ^ 53 * (p * 2 ^ k) := by ac_rfl
      rw [e1] at m1
      have : 2 ^ 53 * 1 ≤ 2 ^ 53 * (p * 2 ^ k) := Nat.mul_le_mul_left _ this
      omega
    have lb : b ≤ 4 := by
      apply Decidable.byContradiction
      intro h
      have e0 : (-b).toNat = 0 := by omega
      obtain ⟨k, hk⟩ : ∃ k, b.toNat = 5 + k := ⟨b.toNat - 5, by omega⟩
      rw [e0, hk, Nat.pow_zero, Nat.mul_one, Nat.pow_add] at m2
      have := Nat.mul_pos hd (Nat.two_pow_pos k)
      have e1 : d * (2 ^ 5 * 2 ^ k) = 2 ^ 5 * (d * 2 ^ k) := by ac_rfl
      rw [e1] at m2
      have : 2 ^ 5 * 1 ≤ 2 ^ 5 * (d * 2 ^ k) := Nat.mul_le_mul_left _ this
      omega
    have hz : FP.Core.quotient FP.Core.b64 (.fin false c a) (.fin false d b) = FP.Core.roundRatio FP.Core.b64 false c d (a - b) := by
      show (if d = 0 then _ else _) = _
      rw [if_neg (by omega)]; rfl
    rw [hz]
    refine ⟨FP.Core.roundRatio_ne_nan _ _ _ _ _, rr_pos hc hd ?_⟩
    intro hbl
    have hq : FP.Core.b64.qmin = -1074 := by decide
    rw [hq] at hbl
    unfold FP.Core.Below at hbl
    have e0 : (-1074 - (a - b)).toNat = 0 := by omega
    obtain ⟨k, hk⟩ : ∃ k, (-(-1074 - (a - b))).toNat = 53 + k := ⟨(-(-1074 - (a - b))).toNat - 53, by omega⟩
    rw [e0, hk, Nat.pow_zero, Nat.mul_one, Nat.pow_add] at hbl
    have := Nat.mul_pos hc (Nat.two_pow_pos k)
    have e1 : c * (2 ^ 53 * 2 ^ k) = 2 ^ 53 * (c * 2 ^ k) := by ac_rfl
    rw [e1] at hbl
    have : 2 ^ 53 * 1 ≤ 2 ^ 53 * (c * 2 ^ k) := Nat.mul_le_mul_left _ this
    omega
/-! prices and spans of a code -/
theorem prI_b (d : Int32) : 1 ≤ prI d ∧ prI d ≤ 1000 := by
  unfold prI
  split
  · omega
  · split
    · omega
    · split <;> omega
theorem smI_b (ops lf rg dpa : Nat → Int32) (v i : Nat) : 1 ≤ smI ops lf rg dpa v i ∧ smI ops lf rg dpa v i ≤ 1000 + 2000 * i := by
  induction i with
  | zero => have := prI_b (dpa v); exact ⟨this.1, by show prI (dpa v) ≤ _; omega⟩
  | succ i ih =>
    have h1 := us_le ops lf rg i v
    have h2 := (prI_b (dpa i)).2
    have h3 : us ops lf rg i v * prI (dpa i) ≤ 2 * 1000 := Nat.mul_le_mul h1 h2
    show 1 ≤ smI ops lf rg dpa v i + _ ∧ smI ops lf rg dpa v i + _ ≤ _
    split <;> omega
theorem Rel.Pb {x : CS} {y : MS9} (R : Rel x y) : ∀ j, j < x.n → 1 ≤ x.P j ∧ x.P j ≤ 49000 := fun j hj => by
  have h := smI_b x.ops x.lf x.rg y.dpa j x.n
  rw [R.cod.sm j hj] at h
  have := R.cod.hn
  omega
theorem Rel.Eb {x : CS} {y : MS9} (R : Rel x y) : ∀ j, j < x.n → 0 < x.E j - j ∧ x.E j - j ≤ 24 := fun j hj => by
  have h1 := R.cod.ewf j hj
  have h2 := R.cod.e24 j
  omega
theorem Rel.wn {x : CS} {y : MS9} (R : Rel x y) : ∀ j, j < x.n → nn (wt x.P x.E j) ∧ 0 < zv (wt x.P x.E j) := fun j hj => by
  have h1 := R.Pb j hj
  have h2 := R.Eb j hj
  exact dd_pos (by omega) (by omega) h2.1 h2.2
theorem hwa9 {x : CS} {y : MS9} (R : Rel x y) : ∀ j, j < x.n → vf_n64 (wt x.P x.E j) := fun j hj => n64_of (R.wn j hj).1
theorem di_0 : FP.Core.DInt 0 FP.dconst0 := by
  show FP.Core.Whole 0 (FP.Core.val64 0)
  rw [FP.Core.val64_zero]
  show FP.Core.signed false (0 * 2 ^ _) = 0 * _
  rw [Nat.zero_mul, Int.zero_mul]; rfl
theorem di_P {p : Nat} (h : p < 2 ^ 31) : FP.Core.DInt (p : Int) (FP.i2d (nI p)) := by
  have h1 := FP.Core.i2d_int (nI p)
  rw [nI_toInt h] at h1
  exact h1
theorem di_add {s p : Nat} {a : UInt64} (ha : FP.Core.DInt (s : Int) a) (hs : s ≤ 2 ^ 40) (hp : p < 2 ^ 31) : FP.Core.DInt ((s + p : Nat) : Int) (FP.dadd a (FP.i2d (nI p))) := by
  have := FP.Core.dadd_int ha (di_P hp) (by omega)
  rw [Int.natCast_add]
  exact this
theorem ps_d {P : Nat → Nat} {hm : Nat → Int32} {n : Nat} (hP : ∀ j, j < n → P j ≤ 49000) (hn : n ≤ 24) : ∀ k, k ≤ n → ∃ s : Nat, s ≤ 49000 * k ∧ FP.Core.DInt (s : Int) (ps P hm k) := by
  intro k
  induction k with
  | zero => exact fun _ => ⟨0, by omega, di_0⟩
  | succ k ih =>
    intro hk
    obtain ⟨s, h1, h2⟩ := ih (by omega)
    have h3 := hP k (by omega)
    show ∃ s : Nat, s ≤ 49000 * (k + 1) ∧ FP.Core.DInt (s : Int) (if hm k < 10 then ps P hm k else FP.dadd (ps P hm k) (FP.i2d (nI (P k))))
    split
    · exact ⟨s, by omega, h2⟩
    · exact ⟨s + P k, by omega, di_add h2 (by omega) (by omega)⟩
theorem psM_d {ops : Nat → Int32} {P : Nat → Nat} {hm : Nat → Int32} {n : Nat} (hP : ∀ j, j < n → P j ≤ 49000) (hn : n ≤ 24) : ∀ k, k ≤ n → ∃ s : Nat, s ≤ 49000 * k ∧ FP.Core.DInt (s : Int) (psM ops P hm k) := by
  intro k
  induction k with
  | zero => exact fun _ => ⟨0, by omega, di_0⟩
  | succ k ih =>
    intro hk
    obtain ⟨s, h1, h2⟩ := ih (by omega)
    have h3 := hP k (by omega)
    show ∃ s : Nat, s ≤ 49000 * (k + 1) ∧ FP.Core.DInt (s : Int) (if ops k = 6 ∨ hm k ≤ 9 then psM ops P hm k else FP.dadd (psM ops P hm k) (FP.i2d (nI (P k))))
    split
    · exact ⟨s, by omega, h2⟩
    · exact ⟨s + P k, by omega, di_add h2 (by omega) (by omega)⟩
theorem nan1 {x : CS} {y : MS9} (R : Rel x y) : ∀ j, j < x.n → ¬ x.hm j < 10 → vf_n64 (FP.dadd (ps x.P x.hm j) (FP.i2d (nI (x.P j)))) := fun j hj _ => by
  obtain ⟨s, h1, h2⟩ := ps_d (P := x.P) (hm := x.hm) (fun j hj => (R.Pb j hj).2) R.cod.hn j (by omega)
  have := R.cod.hn
  have h3 := (R.Pb j hj).2
  exact n64_of (dint_nn (di_add h2 (by omega) (by omega)))
theorem nan2 {x : CS} {y : MS9} (R : Rel x y) : ∀ j, j < x.n → ¬ x.ops j = 6 → ¬ y.plc j ≤ 9 → vf_n64 (FP.dadd (psM x.ops x.P y.plc j) (FP.i2d (nI (x.P j)))) := fun j hj _ _ => by
  obtain ⟨s, h1, h2⟩ := psM_d (ops := x.ops) (P := x.P) (hm := y.plc) (fun j hj => (R.Pb j hj).2) R.cod.hn j (by omega)
  have := R.cod.hn
  have h3 := (R.Pb j hj).2
  exact n64_of (dint_nn (di_add h2 (by omega) (by omega)))
theorem i32_910 {a : Int32} : a ≤ 9 ↔ a < 10 := by
  rw [Int32.lt_iff_toInt_lt, Int32.le_iff_toInt_le]
  have e1 : (9 : Int32).toInt = 9 := rfl
  have e2 : (10 : Int32).toInt = 10 := rfl
  omega
theorem cost_eq {x : CS} {y : MS9} (R : Rel x y) (hk : ¬ nI x.k = 0) : ps x.P x.hm x.n = psM x.ops x.P y.plc x.n := by
  have hp := (R.al1 (k_ne hk)).2.2.1
  have hn := R.cod.hn
  suffices h : ∀ i, i ≤ x.n → ps x.P x.hm i = psM x.ops x.P y.plc i from h x.n (Nat.le_refl _)
  intro i
  induction i with
  | zero => exact fun _ => rfl
  | succ i ih =>
    intro hi
    have e := ih (by omega)
    show (if x.hm i < 10 then ps x.P x.hm i else _) = (if x.ops i = 6 ∨ y.plc i ≤ 9 then psM x.ops x.P y.plc i else _)
    rw [hp i (by omega), e]
    by_cases h6 : x.ops i = 6
    · have h1 := R.out i (by omega) (Or.inr h6)
      rw [if_pos (by rw [h1]; decide), if_pos (Or.inl h6)]
    · by_cases h1 : x.hm i < 10
      · rw [if_pos h1, if_pos (Or.inr (i32_910.mpr h1))]
      · rw [if_neg h1, if_neg (fun q => q.elim h6 (fun z => h1 (i32_910.mp z)))]
