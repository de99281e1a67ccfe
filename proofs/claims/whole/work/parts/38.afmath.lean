/-! what told and count answer -/
def tdR (ops : Nat → Int32) (E U : Nat → Nat) (n : Nat) (v : Nat) (q : Int32) : Int32 := if q = 0 then nI (E v) else if q = 1 then nI (U v) else if q = 2 then bI (cr ops E n v) else nI (om ops E n v n)
theorem tdR_0 {ops : Nat → Int32} {E U : Nat → Nat} {n v : Nat} {q : Int32} (h : q = 0) : nI (E v) = tdR ops E U n v q := by subst h; rfl
theorem tdR_1 {ops : Nat → Int32} {E U : Nat → Nat} {n v : Nat} {q : Int32} (h : q = 1) : nI (U v) = tdR ops E U n v q := by subst h; rfl
theorem tdR_2 {ops : Nat → Int32} {E U : Nat → Nat} {n v : Nat} {q : Int32} (h : q = 2) : bI (cr ops E n v) = tdR ops E U n v q := by subst h; rfl
theorem tdR_3 {ops : Nat → Int32} {E U : Nat → Nat} {n v : Nat} {q : Int32} (h0 : ¬ q = 0) (h1 : ¬ q = 1) (h2 : ¬ q = 2) : nI (om ops E n v n) = tdR ops E U n v q := by unfold tdR; rw [if_neg h0, if_neg h1, if_neg h2]
def ctR (n vc sc k ev : Nat) (hm : Nat → Int32) (q : Int32) : Int32 := if q = 0 then nI n else if q = 1 then nI vc else if q = 2 then nI sc else if q = 3 then nI ev else if q = 4 then nI (vF hm 10 6) else if q = 5 then nI (hU hm 10 6) else if q = 6 then nI (hU hm 0 5) else nI k
theorem ctR_0 {n vc sc k ev : Nat} {hm : Nat → Int32} {q : Int32} (h : q = 0) : nI n = ctR n vc sc k ev hm q := by subst h; rfl
theorem ctR_1 {n vc sc k ev : Nat} {hm : Nat → Int32} {q : Int32} (h : q = 1) : nI vc = ctR n vc sc k ev hm q := by subst h; rfl
theorem ctR_2 {n vc sc k ev : Nat} {hm : Nat → Int32} {q : Int32} (h : q = 2) : nI sc = ctR n vc sc k ev hm q := by subst h; rfl
theorem ctR_3 {n vc sc k ev : Nat} {hm : Nat → Int32} {q : Int32} (h : q = 3) : nI ev = ctR n vc sc k ev hm q := by subst h; rfl
theorem ctR_4 {n vc sc k ev : Nat} {hm : Nat → Int32} {q : Int32} (h : q = 4) : nI (vF hm 10 6) = ctR n vc sc k ev hm q := by subst h; rfl
theorem ctR_5 {n vc sc k ev : Nat} {hm : Nat → Int32} {q : Int32} (h : q = 5) : nI (hU hm 10 6) = ctR n vc sc k ev hm q := by subst h; rfl
theorem ctR_6 {n vc sc k ev : Nat} {hm : Nat → Int32} {q : Int32} (h : q = 6) : nI (hU hm 0 5) = ctR n vc sc k ev hm q := by subst h; rfl
theorem ctR_7 {n vc sc k ev : Nat} {hm : Nat → Int32} {q : Int32} (h : q = 7) : nI k = ctR n vc sc k ev hm q := by subst h; rfl
theorem nI_inj {a b : Nat} (ha : a < 2 ^ 31) (hb : b < 2 ^ 31) (h : nI a = nI b) : a = b := by
  have h2 := congrArg Int32.toNatClampNeg h
  rw [nI_clamp ha, nI_clamp hb] at h2
  exact h2
/-- an int between 0 and b -/
theorem ix_le {v : Int32} {b : Nat} (hb : b < 2 ^ 30) (h0 : ¬ v < 0) (h1 : v ≤ nI b) : ∃ j : Nat, j ≤ b ∧ v = nI j := by
  obtain ⟨j, hj, e⟩ := ix_of (v := v) (n := b + 1) (by omega) h0 (fun h => by
    have e1 : (nI (b + 1)) ≤ nI b := Int32.le_trans h h1
    have := (nI_leI (a := b + 1) (b := b) (by omega) (by omega)).mp e1
    omega)
  exact ⟨j, by omega, e⟩
theorem acc_dep {ops : Nat → Int32} {n : Nat} {op x y d : Int32} (h : acc ops n op x y d = true) : (∃ j : Nat, j < 4 ∧ d = nI j) := by
  unfold acc at h
  split at h
  · cases h
  · split at h
    · cases h
    · split at h
      · cases h
      · split at h
        · cases h
        · rename_i h1 h2 h3 h4
          exact ix_of (n := 4) (by omega) h3 (fun q => h4 (fun z => i32_nlt.mpr q z))
theorem acc_spec {ops : Nat → Int32} {n : Nat} {op x y d : Int32} (h : acc ops n op x y d = true) : (¬ op < 0 ∧ ¬ 7 < op) ∧ (∃ j : Nat, j < 4 ∧ d = nI j) ∧ (op = 1 → ∃ j : Nat, j < 4 ∧ x = nI j) ∧ (uL op = true → iv ops n x = true) ∧ (uR op = true → iv ops n y = true) := by
  refine ⟨?_, acc_dep h, ?_⟩
  · unfold acc at h
    split at h
    · cases h
    · split at h
      · cases h
      · exact ⟨by assumption, by assumption⟩
  · unfold acc at h
    split at h
    · cases h
    · split at h
      · cases h
      · split at h
        · cases h
        · split at h
          · cases h
          · split at h
            · cases h
            · split at h
              · cases h
              · split at h
                · cases h
                · split at h
                  · cases h
                  · rename_i h1 h2 h3 h4 h5 h6 h7 h8
                    refine ⟨fun q => ?_, fun q => ?_, fun q => ?_⟩
                    · exact ix_of (n := 4) (by omega) (fun z => h5 ⟨q, z⟩) (fun z => h6 ⟨q, fun z2 => i32_nlt.mpr z z2⟩)
                    · cases hz : iv ops n x with
                      | true => rfl
                      | false => exact absurd ⟨q, hz⟩ h7
                    · cases hz : iv ops n y with
                      | true => rfl
                      | false => exact absurd ⟨q, hz⟩ h8
theorem acc_x {ops : Nat → Int32} {n : Nat} {op x y d : Int32} (hn : n ≤ 24) (h : acc ops n op x y d = true) : uL op = true → ∃ j : Nat, j < n ∧ x = nI j := fun q => by
  obtain ⟨j, h1, h2, -⟩ := iv_spec hn ((acc_spec h).2.2.2.1 q)
  exact ⟨j, h1, h2⟩
theorem acc_y {ops : Nat → Int32} {n : Nat} {op x y d : Int32} (hn : n ≤ 24) (h : acc ops n op x y d = true) : uR op = true → ∃ j : Nat, j < n ∧ y = nI j := fun q => by
  obtain ⟨j, h1, h2, -⟩ := iv_spec hn ((acc_spec h).2.2.2.2 q)
  exact ⟨j, h1, h2⟩
theorem ge1 {k : Int32} (h : ¬ k < 1) : ¬ k < 0 := fun q => h (by
  rw [Int32.lt_iff_toInt_lt] at q ⊢
  have e0 : (0 : Int32).toInt = 0 := rfl
  have e1 : (1 : Int32).toInt = 1 := rfl
  omega)
theorem pf_sc {nu ops lf rg hm : Nat → Int32} {k : Nat} {cl sd : Nat → Int32} (i : Nat) : (pf nu ops lf rg hm k (cl, sd, 0, 0, false) i).2.2.1 ≤ i := by
  induction i with
  | zero => exact Nat.le_refl 0
  | succ i ih =>
    show (if _ then _ else _ : MS).2.2.1 ≤ i + 1
    split
    · omega
    · exact cmpN_le ih
