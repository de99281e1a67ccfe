/-! small facts that the law's roads need -/
theorem kz_t {x : CS} {y : MS9} (R : Rel x y) (h : nI x.k = 0) (h2 : y.alc = true) : False := by
  have h1 : x.k = 0 := nI_inj (a := x.k) (b := 0) (Nat.lt_of_le_of_lt R.k5 (by decide)) (by decide) h
  have h3 := R.alc
  rw [h2, h1] at h3
  cases h3
theorem kz_f {x : CS} {y : MS9} (R : Rel x y) (h : ¬ nI x.k = 0) (h2 : y.alc = false) : False := by
  have h3 := R.alc
  rw [h2] at h3
  by_cases hk : x.k = 0
  · rw [hk] at h; exact h rfl
  · rw [decide_eq_false hk] at h3; cases h3
theorem k_ne {x : CS} (h : ¬ nI x.k = 0) : x.k ≠ 0 := fun q => h (by rw [q]; rfl)
theorem al_a {k : Int32} (h : k < 1 ∨ ¬ k ≤ 5) (h2 : inB k 1 5 = true) : False := by
  have h3 := of_decide_eq_true h2
  rcases h with h | h
  · exact h3.1 h
  · exact h3.2 (i32_nle.mp h)
theorem al_b {k : Int32} (h : ¬ k < 1) (h1 : k ≤ 5) (h2 : inB k 1 5 = false) : False := of_decide_eq_false h2 ⟨h, i32_nlt.mpr h1⟩
theorem td_a {k : Int32} (h : k < 0 ∨ ¬ k ≤ 3) (h2 : inB k 0 3 = true) : False := by
  have h3 := of_decide_eq_true h2
  rcases h with h | h
  · exact h3.1 h
  · exact h3.2 (i32_nle.mp h)
theorem td_b {k : Int32} (h : ¬ k < 0) (h1 : k ≤ 3) (h2 : inB k 0 3 = false) : False := of_decide_eq_false h2 ⟨h, i32_nlt.mpr h1⟩
theorem sd_a {i : Int32} {sc sm : Nat} (h24 : sc ≤ 24) (e : sm = sc) (h : i < 0 ∨ ¬ i < nI sc) (h2 : inB i 0 (nI sm - 1) = true) : False := by
  subst e
  obtain ⟨j, hj, rfl⟩ := in_ix h24 h2
  rcases h with h | h
  · exact nI_pos (by omega) h
  · exact h ((nI_ltI (by omega) (by omega)).mpr hj)
theorem sd_b {i : Int32} {sc sm : Nat} (h24 : sc ≤ 24) (e : sm = sc) (h : ¬ i < 0) (h1 : i < nI sc) (h2 : inB i 0 (nI sm - 1) = false) : False := by
  subst e
  rcases in_no h24 h2 with q | q
  · exact h q
  · exact q h1
theorem ct_a {q : Int32} (h : ¬ q = 0 ∧ ¬ q = 1 ∧ ¬ q = 2 ∧ ¬ q = 3 ∧ ¬ q = 4 ∧ ¬ q = 5 ∧ ¬ q = 6 ∧ ¬ q = 7) (h2 : inB q 0 7 = true) : False := by
  obtain ⟨j, hj, rfl⟩ := in_07 h2
  obtain ⟨a0, a1, a2, a3, a4, a5, a6, a7⟩ := h
  have : j = 0 ∨ j = 1 ∨ j = 2 ∨ j = 3 ∨ j = 4 ∨ j = 5 ∨ j = 6 ∨ j = 7 := by omega
  rcases this with rfl | rfl | rfl | rfl | rfl | rfl | rfl | rfl
  · exact a0 rfl
  · exact a1 rfl
  · exact a2 rfl
  · exact a3 rfl
  · exact a4 rfl
  · exact a5 rfl
  · exact a6 rfl
  · exact a7 rfl
theorem ct_b {q : Int32} (h : q = 0 ∨ q = 1 ∨ q = 2 ∨ q = 3 ∨ q = 4 ∨ q = 5 ∨ q = 6 ∨ q = 7) (h2 : inB q 0 7 = false) : False := by
  rcases h with rfl | rfl | rfl | rfl | rfl | rfl | rfl | rfl <;> exact absurd h2 (by decide)
theorem sc_t {x : CS} {y : MS9} (R : Rel x y) (h : x.lb = true) : x.sc2 ≤ 24 ∧ y.sm = x.sc2 ∧ ∀ j, j < x.sc2 → y.sdm j = x.sd2 j := by
  have e1 : lsc x = x.sc2 := if_pos h
  have e2 : lsd x = x.sd2 := if_pos h
  have h1 := R.sc1; have h2 := R.smn; have h3 := R.sdn
  rw [e1] at h1 h2 h3
  rw [e2] at h3
  exact ⟨h1, h2, h3⟩
theorem sc_f {x : CS} {y : MS9} (R : Rel x y) (h : x.lb = false) : x.sc ≤ 24 ∧ y.sm = x.sc ∧ ∀ j, j < x.sc → y.sdm j = x.sd j := by
  have e1 : lsc x = x.sc := if_neg (by rw [h]; decide)
  have e2 : lsd x = x.sd := if_neg (by rw [h]; decide)
  have h1 := R.sc1; have h2 := R.smn; have h3 := R.sdn
  rw [e1] at h1 h2 h3
  rw [e2] at h3
  exact ⟨h1, h2, h3⟩
theorem lt_t {a : AD} {x : CS} (h : LT a x) (hl : x.lb = true) : a.lt = a.bm := by unfold LT at h; rw [hl] at h; exact h
theorem lt_f {a : AD} {x : CS} (h : LT a x) (hl : x.lb = false) : a.lt = a.wm := by unfold LT at h; rw [hl] at h; exact h
theorem LT_B {a : AD} {x : CS} (hl : x.lb = true) : LT (ltB a) x := by
  show a.bm = if x.lb = true then a.bm else a.wm
  rw [hl]; rfl
theorem LT_W {a : AD} {x : CS} (hl : x.lb = false) : LT (ltW a) x := by
  show a.wm = if x.lb = true then a.bm else a.wm
  rw [hl]; rfl
theorem place_eq {x : CS} {y : MS9} (R : Rel x y) {v : Int32} (h : iv x.ops x.n v = true) (hk : ¬ nI x.k = 0) : x.hm v.toNatClampNeg = y.plc v.toNatClampNeg := by
  obtain ⟨j, hj, rfl, -⟩ := iv_spec R.cod.hn h
  rw [nI_clamp (by have := R.cod.hn; omega)]
  exact ((R.al1 (k_ne hk)).2.2.1 j hj).symm
theorem said_eq {sc : Nat} {sd sdm : Nat → Int32} (h24 : sc ≤ 24) (h : ∀ j, j < sc → sdm j = sd j) {i : Int32} (h0 : ¬ i < 0) (h1 : i < nI sc) : sd i.toNatClampNeg = sdm i.toNatClampNeg := by
  obtain ⟨j, hj, rfl⟩ := ix_of (n := sc) (by omega) h0 (fun q => i32_nlt.mpr q h1)
  rw [nI_clamp (by omega)]
  exact (h j hj).symm
theorem updL0 {f : Nat → Int64} {x : Int64} : vp_updL f 0 x (0 : Int32).toNatClampNeg = x := rfl
theorem updD0 {f : Nat → UInt64} {x : UInt64} : vf_upd f 0 x (0 : Int32).toNatClampNeg = x := rfl
theorem law_in {L t : Nat} (hL : L ≤ 2560) (h : ¬ (Int32.ofNat L - 5) < nI (5 * t)) (ht : 5 * t ≤ 2560) : 5 * t + 5 ≤ L := by
  have e : (Int32.ofNat L - 5).toInt = (L : Int) - 5 := by
    rw [Int32.toInt_sub, show (Int32.ofNat L).toInt = (L : Int) from nI_toInt (by omega)]
    show ((L : Int) - 5).bmod (2 ^ 32) = _
    rw [Int.bmod_eq_of_le] <;> omega
  rw [Int32.lt_iff_toInt_lt, e, nI_toInt (by omega)] at h
  omega
theorem Rel.alf {x : CS} {y : MS9} (R : Rel x y) (kk : Nat) (FL z : Bool × (Nat → Int32) × Nat) : Rel (alfX x kk FL) (alfY y z) := R
theorem LT_alf {a : AD} {x : CS} (h : LT a x) (kk : Nat) (FL : Bool × (Nat → Int32) × Nat) : LT a (alfX x kk FL) := by
  unfold LT at h ⊢
  exact h
theorem LT_alo {a : AD} {x : CS} (h : LT a x) (kk : Nat) (FL : Bool × (Nat → Int32) × Nat) : LT (aloA a) (aloX x kk FL) := by
  unfold LT at h ⊢
  exact h
theorem LT_add {a : AD} {x : CS} (h : LT a x) (o p q d : Int32) : LT a (addX x o p q d) := by
  unfold LT at h ⊢
  exact h
theorem LT_clr {a : AD} {x : CS} (h : LT a x) : LT a (clrX x) := by
  unfold LT at h ⊢
  exact h
theorem LT_run {a : AD} {x : CS} (o p q d : Int32) : LT (ltW a) (runX x o p q d) := by
  unfold LT
  rfl
theorem LT_go {a : AD} {x : CS} (o p q d : Int32) : LT (ltB a) (goX x o p q d) := by
  unfold LT
  rfl
theorem LT_sam {a : AD} {x : CS} (o p q d : Int32) : LT (ltB a) (samX x o p q d) := by
  unfold LT
  rfl
