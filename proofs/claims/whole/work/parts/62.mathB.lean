/-! an instruction that was taken can be run -/
theorem owF_lt {j : Nat} (h : j < 24) : owF 24 j = nI j := if_pos h
theorem ckw {x : CS} {y : MS9} (R : Rel x y) : ∀ i, i < x.n → CK x.ops x.lf x.rg (owF 24) i := fun i hi => by
  have hn := R.cod.hn
  obtain ⟨h1, h2, h3, h4⟩ := R.cod.ok i hi
  refine ⟨fun q => ?_, fun q => ?_, h2, fun _ => ⟨i, owF_lt (by omega), by omega⟩⟩
  · obtain ⟨j, a, b, c⟩ := h3 q
    exact ⟨j, j, b, by omega, owF_lt (by omega), by omega⟩
  · obtain ⟨j, a, b, c⟩ := h4 q
    exact ⟨j, j, b, by omega, owF_lt (by omega), by omega⟩
theorem hm_lt {x : CS} {y : MS9} (R : Rel x y) (hk : ¬ nI x.k = 0) {j : Nat} (hj : j < x.n) (h6 : x.ops j ≠ 6) : ∃ q : Nat, x.hm j = nI q ∧ q < 16 := by
  obtain ⟨q, a, b⟩ := (R.al1 (k_ne hk)).2.2.2 j hj h6
  have := R.k5
  exact ⟨q, a, by omega⟩
theorem cka {x : CS} {y : MS9} (R : Rel x y) : ¬ nI x.k = 0 → ∀ i, i < x.n → CK x.ops x.lf x.rg x.hm i := fun hk i hi => by
  have hn := R.cod.hn
  obtain ⟨h1, h2, h3, h4⟩ := R.cod.ok i hi
  refine ⟨fun q => ?_, fun q => ?_, h2, fun h6 => ?_⟩
  · obtain ⟨j, a, b, c⟩ := h3 q
    obtain ⟨u, d, e⟩ := hm_lt R hk (j := j) (by omega) c
    exact ⟨j, u, b, by omega, d, by omega⟩
  · obtain ⟨j, a, b, c⟩ := h4 q
    obtain ⟨u, d, e⟩ := hm_lt R hk (j := j) (by omega) c
    exact ⟨j, u, b, by omega, d, by omega⟩
  · obtain ⟨u, d, e⟩ := hm_lt R hk hi h6
    exact ⟨u, d, by omega⟩
theorem cmf {x : CS} {y : MS9} (R : Rel x y) : ∀ i, i < x.n → CM false x.ops x.lf x.rg y.plc i := fun i hi => by
  have hn := R.cod.hn
  obtain ⟨h1, h2, h3, h4⟩ := R.cod.ok i hi
  refine ⟨fun q => ?_, fun q => ?_, h2, fun _ q => (by cases q), h1⟩
  · obtain ⟨j, a, b, c⟩ := h3 q
    exact ⟨j, b, by omega, fun q => (by cases q)⟩
  · obtain ⟨j, a, b, c⟩ := h4 q
    exact ⟨j, b, by omega, fun q => (by cases q)⟩
theorem cmt {x : CS} {y : MS9} (R : Rel x y) : y.alc = true → ∀ i, i < x.n → CM true x.ops x.lf x.rg y.plc i := fun ha i hi => by
  have hn := R.cod.hn
  have hk : ¬ nI x.k = 0 := fun q => kz_t R q ha
  have hp := (R.al1 (k_ne hk)).2.2.1
  obtain ⟨h1, h2, h3, h4⟩ := R.cod.ok i hi
  refine ⟨fun q => ?_, fun q => ?_, h2, fun h6 _ => ?_, h1⟩
  · obtain ⟨j, a, b, c⟩ := h3 q
    refine ⟨j, b, by omega, fun _ => ?_⟩
    rw [hp j (by omega)]
    exact hm_lt R hk (by omega) c
  · obtain ⟨j, a, b, c⟩ := h4 q
    refine ⟨j, b, by omega, fun _ => ?_⟩
    rw [hp j (by omega)]
    exact hm_lt R hk (by omega) c
  · rw [hp i hi]
    exact hm_lt R hk hi h6
theorem rel_clr {x : CS} {y : MS9} (R : Rel x y) : Rel (clrX x) (clrY y) := by
  refine ⟨⟨?_, R.cod.e24, ?_, ?_, ?_, ?_, rfl, ?_⟩, ?_, rfl, ?_, ?_, ?_, R.sc1, R.smn, R.sdn⟩
  · exact Nat.zero_le 24
  · exact fun j hj => absurd hj (Nat.not_lt_zero j)
  · exact fun j hj => absurd hj (Nat.not_lt_zero j)
  · exact fun j hj => absurd hj (Nat.not_lt_zero j)
  · exact fun j hj => absurd hj (Nat.not_lt_zero j)
  · exact fun j hj => absurd hj (Nat.not_lt_zero j)
  · exact Nat.zero_le 5
  · exact fun h => absurd rfl h
  · exact fun _ => ⟨rfl, fun j hj => filF_lt hj⟩
  · exact fun j hj _ => filF_lt hj
/-! an instruction more -/
theorem upd_ne {f : Nat → Int32} {k j : Nat} {x : Int32} (h : j ≠ k) : upd f k x j = f j := if_neg h
theorem us_upd {ops lf rg : Nat → Int32} {n : Nat} {op p q : Int32} {i v : Nat} (h : i < n) : us (upd ops n op) (upd lf n p) (upd rg n q) i v = us ops lf rg i v := by
  unfold us
  rw [upd_ne (by omega), upd_ne (by omega), upd_ne (by omega)]
theorem enI_upd {ops lf rg : Nat → Int32} {n : Nat} {op p q : Int32} {v : Nat} : ∀ i, i ≤ n → enI (upd ops n op) (upd lf n p) (upd rg n q) v i = enI ops lf rg v i := by
  intro i
  induction i with
  | zero => exact fun _ => rfl
  | succ i ih =>
    intro hi
    show (if v < i ∧ 0 < us (upd ops n op) (upd lf n p) (upd rg n q) i v then i else enI (upd ops n op) (upd lf n p) (upd rg n q) v i) = if v < i ∧ 0 < us ops lf rg i v then i else enI ops lf rg v i
    rw [us_upd (by omega), ih (by omega)]
theorem smI_upd {ops lf rg dpa : Nat → Int32} {n : Nat} {op p q d : Int32} {v : Nat} (hv : v < n) : ∀ i, i ≤ n → smI (upd ops n op) (upd lf n p) (upd rg n q) (upd dpa n d) v i = smI ops lf rg dpa v i := by
  intro i
  induction i with
  | zero => intro _; show prI (upd dpa n d v) = prI (dpa v); rw [upd_ne (by omega)]
  | succ i ih =>
    intro hi
    show smI (upd ops n op) (upd lf n p) (upd rg n q) (upd dpa n d) v i + (if v < i then us (upd ops n op) (upd lf n p) (upd rg n q) i v * prI (upd dpa n d i) else 0) = smI ops lf rg dpa v i + if v < i then us ops lf rg i v * prI (dpa i) else 0
    rw [us_upd (by omega), ih (by omega), upd_ne (by omega)]
theorem utI_upd {ops lf rg : Nat → Int32} {n : Nat} {op p q : Int32} {v : Nat} : ∀ i, i ≤ n → utI (upd ops n op) (upd lf n p) (upd rg n q) v i = utI ops lf rg v i := by
  intro i
  induction i with
  | zero => exact fun _ => rfl
  | succ i ih =>
    intro hi
    show utI (upd ops n op) (upd lf n p) (upd rg n q) v i + us (upd ops n op) (upd lf n p) (upd rg n q) i v = utI ops lf rg v i + us ops lf rg i v
    rw [us_upd (by omega), ih (by omega)]
theorem cvM_upd {ops : Nat → Int32} {n : Nat} {op : Int32} : ∀ i, i ≤ n → cvM (upd ops n op) i = cvM ops i := by
  intro i
  induction i with
  | zero => exact fun _ => rfl
  | succ i ih =>
    intro hi
    show cvM (upd ops n op) i + (if upd ops n op i = 6 then 0 else 1) = cvM ops i + if ops i = 6 then 0 else 1
    rw [ih (by omega), upd_ne (by omega)]
theorem apE_at (E : Nat → Nat) (n : Nat) (op p q : Int32) (j : Nat) : apE E n op p q j = if uR op = true ∧ j = q.toNatClampNeg then n else if uL op = true ∧ j = p.toNatClampNeg then n else if j = n then n + 1 else E j := by
  unfold apE nuE
  cases uL op <;> cases uR op <;> simp [uN]
theorem apU_at (U : Nat → Nat) (n : Nat) (op p q : Int32) (j : Nat) : apU U n op p q j = (if j = n then 0 else U j) + (if uL op = true ∧ j = p.toNatClampNeg then 1 else 0) + (if uR op = true ∧ j = q.toNatClampNeg then 1 else 0) := by
  unfold apU nuU
  generalize p.toNatClampNeg = a
  generalize q.toNatClampNeg = b
  cases uL op <;> cases uR op <;> simp [uN]
  · by_cases h : j = b
    · subst h; simp
    · simp [h]
  · by_cases h : j = a
    · subst h; simp
    · simp [h]
  · by_cases h : j = b
    · subst h
      by_cases h2 : j = a
      · subst h2; simp
      · simp [h2]
    · by_cases h2 : j = a
      · subst h2; simp [h]
      · simp [h, h2]
theorem apP_at (P : Nat → Nat) (n : Nat) (op p q : Int32) (dp j : Nat) (hp : uL op = true → p.toNatClampNeg < n) (hq : uR op = true → q.toNatClampNeg < n) : apP P n op p q dp j = (if j = n then prc dp else P j) + (if uL op = true ∧ j = p.toNatClampNeg then prc dp else 0) + (if uR op = true ∧ j = q.toNatClampNeg then prc dp else 0) := by
  unfold apP nuP
  revert hp hq
  generalize p.toNatClampNeg = a
  generalize q.toNatClampNeg = b
  generalize prc dp = r
  intro hp hq
  cases hL : uL op <;> cases hR : uR op
  · simp [uN]
  · have h1 := hq hR
    by_cases h : j = b
    · subst h; simp [uN]
    · simp [uN, h]
  · have h1 := hp hL
    by_cases h : j = a
    · subst h; simp [uN]
    · simp [uN, h]
  · have h1 := hp hL
    have h2 := hq hR
    have e : n ≠ a := by omega
    by_cases h : j = b
    · subst h
      by_cases h2 : j = a
      · subst h2; simp [uN, e]
      · simp [uN, h2, e]
    · by_cases h2 : j = a
      · subst h2; simp [uN, h]
      · simp [uN, h, h2]
theorem us_at {ops lf rg : Nat → Int32} {n : Nat} {op p q : Int32} {j : Nat} (hRL : uR op = true → uL op = true) (hj : j < 2 ^ 31) (hp : uL op = true → p.toNatClampNeg < n ∧ p = nI p.toNatClampNeg) (hq : uR op = true → q.toNatClampNeg < n ∧ q = nI q.toNatClampNeg) (hn : n ≤ 24) : us (upd ops n op) (upd lf n p) (upd rg n q) n j = (if uL op = true ∧ j = p.toNatClampNeg then 1 else 0) + (if uR op = true ∧ j = q.toNatClampNeg then 1 else 0) := by
  unfold us
  rw [upd_self, upd_self, upd_self]
  revert hp hq
  generalize hpa : p.toNatClampNeg = a
  generalize hqb : q.toNatClampNeg = b
  intro hp hq
  have ep : uL op = true → (p = nI j ↔ j = a) := fun h => by
    obtain ⟨h1, h2⟩ := hp h
    rw [h2, nI_eq (by omega) hj]
    exact eq_comm
  have eq : uR op = true → (q = nI j ↔ j = b) := fun h => by
    obtain ⟨h1, h2⟩ := hq h
    rw [h2, nI_eq (by omega) hj]
    exact eq_comm
  cases hL : uL op <;> cases hR : uR op
  · simp
  · rw [hRL hR] at hL; cases hL
  · simp [ep hL]
  · simp [ep hL, eq hR]
theorem prc_prI {d : Int32} (h : ∃ j : Nat, j < 4 ∧ d = nI j) : prc d.toNatClampNeg = prI d := by
  obtain ⟨j, h1, rfl⟩ := h
  have : j = 0 ∨ j = 1 ∨ j = 2 ∨ j = 3 := by omega
  rcases this with rfl | rfl | rfl | rfl <;> rfl
theorem uRL {op : Int32} (h : uR op = true) : uL op = true := decide_eq_true (of_decide_eq_true h).1
theorem us_no {ops lf rg : Nat → Int32} {i v : Nat} (h : insOK ops lf rg i) (hi : i ≤ v) (hv : v ≤ 24) : us ops lf rg i v = 0 := by
  obtain ⟨-, -, h3, h4⟩ := h
  unfold us
  split
  · rename_i hL
    obtain ⟨a, a1, a2, -⟩ := h3 hL
    rw [if_neg, if_neg]
    · rintro ⟨hR, b2⟩
      obtain ⟨b, b1, b3, -⟩ := h4 hR
      rw [b3, nI_eq (by omega) (by omega)] at b2
      omega
    · rw [a2, nI_eq (by omega) (by omega)]
      omega
  · rfl
theorem utI_no {ops lf rg : Nat → Int32} {v : Nat} (hv : v ≤ 24) : ∀ i, i ≤ v → (∀ j, j < i → insOK ops lf rg j) → utI ops lf rg v i = 0 := by
  intro i
  induction i with
  | zero => exact fun _ _ => rfl
  | succ i ih =>
    intro hi h
    show utI ops lf rg v i + us ops lf rg i v = 0
    rw [ih (by omega) (fun j hj => h j (by omega)), us_no (h i (by omega)) (by omega) hv]
theorem ins_upd {ops lf rg : Nat → Int32} {n i : Nat} {op p q : Int32} (h : insOK ops lf rg i) (hi : i < n) : insOK (upd ops n op) (upd lf n p) (upd rg n q) i := by
  unfold insOK
  rw [upd_ne (by omega), upd_ne (by omega), upd_ne (by omega)]
  obtain ⟨h1, h2, h3, h4⟩ := h
  refine ⟨h1, h2, fun z => ?_, fun z => ?_⟩
  · obtain ⟨j, a, b, c⟩ := h3 z
    exact ⟨j, a, b, by rw [upd_ne (by omega)]; exact c⟩
  · obtain ⟨j, a, b, c⟩ := h4 z
    exact ⟨j, a, b, by rw [upd_ne (by omega)]; exact c⟩
theorem rel_add {x : CS} {y : MS9} (R : Rel x y) {op p q d : Int32} (h : acc x.ops x.n op p q d = true) (h2 : x.n < 24) : Rel (addX x op p q d) (addY y x.n d) := by
  obtain ⟨s1, s2, s3, s4, s5⟩ := acc_spec h
  have hn := R.cod.hn
  have hp : uL op = true → ∃ j : Nat, j < x.n ∧ p = nI j ∧ x.ops j ≠ 6 := fun z => iv_spec hn (s4 z)
  have hq : uR op = true → ∃ j : Nat, j < x.n ∧ q = nI j ∧ x.ops j ≠ 6 := fun z => iv_spec hn (s5 z)
  have hp2 : uL op = true → p.toNatClampNeg < x.n ∧ p = nI p.toNatClampNeg := fun z => by
    obtain ⟨j, a, b, c⟩ := hp z
    rw [b, nI_clamp (by omega)]
    exact ⟨a, rfl⟩
  have hq2 : uR op = true → q.toNatClampNeg < x.n ∧ q = nI q.toNatClampNeg := fun z => by
    obtain ⟨j, a, b, c⟩ := hq z
    rw [b, nI_clamp (by omega)]
    exact ⟨a, rfl⟩
  have hus : ∀ j, j ≤ x.n → us (upd x.ops x.n op) (upd x.lf x.n p) (upd x.rg x.n q) x.n j = (if uL op = true ∧ j = p.toNatClampNeg then 1 else 0) + (if uR op = true ∧ j = q.toNatClampNeg then 1 else 0) := fun j hj => us_at uRL (by omega) hp2 hq2 hn
  have hins : insOK (upd x.ops x.n op) (upd x.lf x.n p) (upd x.rg x.n q) x.n := by
    unfold insOK
    rw [upd_self, upd_self, upd_self]
    refine ⟨s1, s3, fun z => ?_, fun z => ?_⟩
    · obtain ⟨j, a, b, c⟩ := hp z
      exact ⟨j, a, b, by rw [upd_ne (by omega)]; exact c⟩
    · obtain ⟨j, a, b, c⟩ := hq z
      exact ⟨j, a, b, by rw [upd_ne (by omega)]; exact c⟩
  have hall : ∀ i, i < x.n + 1 → insOK (upd x.ops x.n op) (upd x.lf x.n p) (upd x.rg x.n q) i := fun i hi => by
    rcases Nat.lt_or_ge i x.n with z | z
    · exact ins_upd (R.cod.ok i z) z
    · rw [show i = x.n by omega]; exact hins
  refine ⟨⟨h2, ?_, ?_, ?_, ?_, ?_, ?_, hall⟩, ?_, rfl, ?_, ?_, ?_, R.sc1, R.smn, R.sdn⟩
  · intro j
    show apE x.E x.n op p q j ≤ 24
    have := R.cod.e24 j
    rw [apE_at]
    split
    · omega
    · split
      · omega
      · split <;> omega
  · intro j hj
    have hj : j < x.n + 1 := hj
    show j < apE x.E x.n op p q j
    rw [apE_at]
    split
    · rename_i z; have := hq2 z.1; omega
    · split
      · rename_i z; have := hp2 z.1; omega
      · split
        · omega
        · exact R.cod.ewf j (by omega)
  · intro j hj
    have hj : j < x.n + 1 := hj
    show enI (upd x.ops x.n op) (upd x.lf x.n p) (upd x.rg x.n q) j (x.n + 1) = apE x.E x.n op p q j
    rw [apE_at]
    rcases Nat.lt_or_ge j x.n with z | z
    · show (if j < x.n ∧ 0 < us (upd x.ops x.n op) (upd x.lf x.n p) (upd x.rg x.n q) x.n j then x.n else enI (upd x.ops x.n op) (upd x.lf x.n p) (upd x.rg x.n q) j x.n) = _
      rw [hus j (by omega), enI_upd x.n (Nat.le_refl _), R.cod.en j z]
      by_cases c1 : uR op = true ∧ j = q.toNatClampNeg
      · rw [if_pos ⟨z, by rw [if_pos c1]; omega⟩, if_pos c1]
      · rw [if_neg c1, if_neg c1]
        by_cases c2 : uL op = true ∧ j = p.toNatClampNeg
        · rw [if_pos ⟨z, by rw [if_pos c2]; omega⟩, if_pos c2]
        · rw [if_neg c2, if_neg c2, if_neg (fun w => by omega), if_neg (by omega)]
    · have e : j = x.n := by omega
      subst e
      rw [← enI_0 (x.n + 1) (Nat.le_refl _), if_neg (fun w => by have := hq2 w.1; omega), if_neg (fun w => by have := hp2 w.1; omega), if_pos rfl]
  · intro j hj
    have hj : j < x.n + 1 := hj
    show smI (upd x.ops x.n op) (upd x.lf x.n p) (upd x.rg x.n q) (upd y.dpa x.n d) j (x.n + 1) = apP x.P x.n op p q d.toNatClampNeg j
    rw [apP_at _ _ _ _ _ _ _ (fun z => (hp2 z).1) (fun z => (hq2 z).1), prc_prI s2]
    rcases Nat.lt_or_ge j x.n with z | z
    · show smI (upd x.ops x.n op) (upd x.lf x.n p) (upd x.rg x.n q) (upd y.dpa x.n d) j x.n + (if j < x.n then us (upd x.ops x.n op) (upd x.lf x.n p) (upd x.rg x.n q) x.n j * prI (upd y.dpa x.n d x.n) else 0) = _
      rw [hus j (by omega), smI_upd z x.n (Nat.le_refl _), R.cod.sm j z, upd_self, if_pos z, if_neg (show ¬ j = x.n by omega), Nat.add_assoc, Nat.add_mul]
      by_cases c1 : uR op = true ∧ j = q.toNatClampNeg <;> by_cases c2 : uL op = true ∧ j = p.toNatClampNeg
      · rw [if_pos c1, if_pos c2, if_pos c1, if_pos c2, Nat.one_mul]
      · rw [if_pos c1, if_neg c2, if_pos c1, if_neg c2, Nat.one_mul, Nat.zero_mul]
      · rw [if_neg c1, if_pos c2, if_neg c1, if_pos c2, Nat.one_mul, Nat.zero_mul]
      · rw [if_neg c1, if_neg c2, if_neg c1, if_neg c2, Nat.zero_mul]
    · have e : j = x.n := by omega
      subst e
      rw [← smI_0 (x.n + 1) (Nat.le_refl _), upd_self, if_pos rfl, if_neg (fun w => by have := hp2 w.1; omega), if_neg (fun w => by have := hq2 w.1; omega), Nat.add_zero]
  · intro j hj
    have hj : j < x.n + 1 := hj
    show utI (upd x.ops x.n op) (upd x.lf x.n p) (upd x.rg x.n q) j x.n + us (upd x.ops x.n op) (upd x.lf x.n p) (upd x.rg x.n q) x.n j = apU x.U x.n op p q j
    rw [apU_at]
    rcases Nat.lt_or_ge j x.n with z | z
    · rw [hus j (by omega), utI_upd x.n (Nat.le_refl _), R.cod.ut j z, if_neg (show ¬ j = x.n by omega), Nat.add_assoc]
    · have e : j = x.n := by omega
      subst e
      rw [if_pos rfl, if_neg (fun w => by have := hp2 w.1; omega), if_neg (fun w => by have := hq2 w.1; omega), us_no hins (Nat.le_refl _) hn, utI_no hn x.n (Nat.le_refl _) (fun j hj => hall j (by omega))]
  · show apV x.vc op = cvM (upd x.ops x.n op) x.n + (if upd x.ops x.n op x.n = 6 then 0 else 1)
    rw [upd_self, cvM_upd x.n (Nat.le_refl _), ← R.cod.vcn]
    unfold apV
    split <;> rfl
  · exact Nat.zero_le 5
  · exact fun h => absurd rfl h
  · exact fun _ => ⟨rfl, fun j hj => filF_lt hj⟩
  · exact fun j hj _ => filF_lt hj
