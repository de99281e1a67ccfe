/-! what the machine's step needs of an instruction, and how it ends -/
def CK (ops lf rg hm : Nat → Int32) (i : Nat) : Prop :=
  (uL (ops i) = true → ∃ j q : Nat, lf i = nI j ∧ j < 24 ∧ hm j = nI q ∧ q < 24) ∧ (uR (ops i) = true → ∃ j q : Nat, rg i = nI j ∧ j < 24 ∧ hm j = nI q ∧ q < 24) ∧ (ops i = 1 → ∃ j : Nat, j < 4 ∧ lf i = nI j) ∧ (¬ ops i = 6 → ∃ q : Nat, hm i = nI q ∧ q < 24)
theorem opL_t {cl hm ops lf : Nat → Int32} {i j q : Nat} (h : uL (ops i) = true) (hj : lf i = nI j) (hj2 : j < 24) (hq : hm j = nI q) (hq2 : q < 24) : cl q = opL cl hm ops lf i := by
  unfold opL
  rw [if_pos h, hj, nI_clamp (by omega), hq, nI_clamp (by omega)]
theorem opL_f {cl hm ops lf : Nat → Int32} {i : Nat} (h : uL (ops i) = false) : lf i = opL cl hm ops lf i := by
  unfold opL
  rw [if_neg (by rw [h]; decide)]
theorem opR_t {cl hm ops rg : Nat → Int32} {i j q : Nat} (h : uR (ops i) = true) (hj : rg i = nI j) (hj2 : j < 24) (hq : hm j = nI q) (hq2 : q < 24) : cl q = opR cl hm ops rg i := by
  unfold opR
  rw [if_pos h, hj, nI_clamp (by omega), hq, nI_clamp (by omega)]
theorem opR_f {cl hm ops rg : Nat → Int32} {i : Nat} (h : uR (ops i) = false) : 0 = opR cl hm ops rg i := by
  unfold opR
  rw [if_neg (by rw [h]; decide)]
theorem CK_1 {cl ops lf rg hm : Nat → Int32} {i : Nat} (h : CK ops lf rg hm i) : ops i = 1 → ∃ j : Nat, j < 4 ∧ opL cl hm ops lf i = nI j := fun q => by
  obtain ⟨j, h1, h2⟩ := h.2.2.1 q
  exact ⟨j, h1, by rw [← opL_f (show uL (ops i) = false by rw [q]; decide)]; exact h2⟩
theorem stC_y {cl hm ops : Nat → Int32} {k i q : Nat} {rs : Int32} {ft : Bool} (h6 : ¬ ops i = 6) (hf : ft = false) (hq : hm i = nI q) (hq2 : q < 24) {d : Nat → Int32} (hd : d = if ops i = 7 then spF cl k else cl) : stC cl hm ops k i rs ft = upd d q rs := by
  unfold stC
  rw [if_pos ⟨h6, hf⟩, hq, nI_clamp (by omega), hd]
theorem stC_n {cl hm ops : Nat → Int32} {k i : Nat} {rs : Int32} {ft : Bool} (h6 : ops i = 6 ∨ ft = true) {d : Nat → Int32} (hd : d = if ops i = 7 then spF cl k else cl) : stC cl hm ops k i rs ft = d := by
  unfold stC
  rw [if_neg, hd]
  rintro ⟨h1, h2⟩
  rcases h6 with h | h
  · exact h1 h
  · rw [h] at h2; cases h2
theorem cmpN_le {sc i : Nat} {op : Int32} (h : sc ≤ i) : cmpN sc op ≤ i + 1 := by
  unfold cmpN
  split <;> omega
theorem endL_1 {a b : Nat → Int32} {sa sb : Nat} {ra rb : Int32} {fa fb : Bool} (h : ¬ fa = fb) : endL a b sa sb ra rb fa fb = false := by
  unfold endL; rw [decide_eq_false h]; rfl
theorem endL_2 {a b : Nat → Int32} {sa sb : Nat} {ra rb : Int32} {fa fb : Bool} (h : ¬ sa = sb) : endL a b sa sb ra rb fa fb = false := by
  unfold endL; rw [decide_eq_false h, Bool.false_and, Bool.and_false]
theorem endL_3 {a b : Nat → Int32} {sa sb : Nat} {ra rb : Int32} {fa fb : Bool} (h : sdE a b sa = false) : endL a b sa sb ra rb fa fb = false := by
  unfold endL; rw [h, Bool.false_and, Bool.and_false, Bool.and_false]
theorem endL_r {a b : Nat → Int32} {sa sb : Nat} {ra rb : Int32} {fa fb : Bool} (h1 : fa = fb) (h2 : sa = sb) (h3 : sdE a b sa = true) : endL a b sa sb ra rb fa fb = (fa || decide (ra = rb)) := by
  unfold endL; rw [decide_eq_true h1, decide_eq_true h2, h3, Bool.true_and, Bool.true_and, Bool.true_and]
theorem endL_4 {a b : Nat → Int32} {sa sb : Nat} {ra rb : Int32} {fa fb : Bool} (h1 : fa = fb) (h2 : sa = sb) (h3 : sdE a b sa = true) (h4 : fa = true) : endL a b sa sb ra rb fa fb = true := by
  rw [endL_r h1 h2 h3, h4]; rfl
theorem endL_5 {a b : Nat → Int32} {sa sb : Nat} {ra rb : Int32} {fa fb : Bool} (h1 : fa = fb) (h2 : sa = sb) (h3 : sdE a b sa = true) (h4 : ra = rb) : endL a b sa sb ra rb fa fb = true := by
  rw [endL_r h1 h2 h3, decide_eq_true h4, Bool.or_true]
theorem endL_6 {a b : Nat → Int32} {sa sb : Nat} {ra rb : Int32} {fa fb : Bool} (h1 : fa = fb) (h2 : sa = sb) (h3 : sdE a b sa = true) (h4 : fa = false) (h5 : ¬ ra = rb) : endL a b sa sb ra rb fa fb = false := by
  rw [endL_r h1 h2 h3, decide_eq_false h5, h4]; rfl
