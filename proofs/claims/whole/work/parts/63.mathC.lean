/-! counting homes -/
theorem cnt_ext {f g : Nat → Int32} {x : Int32} : ∀ k, (∀ j, j < k → f j = g j) → cnt f x k = cnt g x k := by
  intro k
  induction k with
  | zero => exact fun _ => rfl
  | succ k ih =>
    intro h
    show cnt f x k + (if f k = x then 1 else 0) = cnt g x k + if g k = x then 1 else 0
    rw [ih (fun j hj => h j (by omega)), h k (by omega)]
theorem nI_m1 {q : Nat} (h : q < 2 ^ 31) : ¬ (-1 : Int32) = nI q := fun e => by
  have := nI_pos h
  rw [← e] at this
  exact this (by decide)
/-- beyond n, and for SAY, the homes are -1 and count for nothing -/
theorem cnt_tail {hm : Nat → Int32} {q n : Nat} (hq : q < 2 ^ 31) (hn : n ≤ 24) (h : ∀ j, j < 24 → n ≤ j → hm j = -1) : cnt hm (nI q) 24 = cnt hm (nI q) n := by
  suffices H : ∀ k, n + k ≤ 24 → cnt hm (nI q) (n + k) = cnt hm (nI q) n by
    have := H (24 - n) (by omega)
    rw [show n + (24 - n) = 24 by omega] at this
    exact this
  intro k
  induction k with
  | zero => exact fun _ => rfl
  | succ k ih =>
    intro hk
    show cnt hm (nI q) (n + k) + (if hm (n + k) = nI q then 1 else 0) = _
    rw [h (n + k) (by omega) (by omega), if_neg (nI_m1 hq), ih (by omega)]
    rfl
/-- how many of the first k lie in the homes from f on, m of them -/
def rgC (hm : Nat → Int32) (f m : Nat) : Nat → Nat
  | 0 => 0
  | k + 1 => rgC hm f m k + if ¬ hm k < nI f ∧ hm k < nI (f + m) then 1 else 0
theorem rg_i {h : Int32} {f m : Nat} (hb : f + m < 2 ^ 31) : (¬ h < nI f ∧ h < nI (f + m)) ↔ ((f : Int) ≤ h.toInt ∧ h.toInt < (f : Int) + m) := by
  rw [Int32.lt_iff_toInt_lt, Int32.lt_iff_toInt_lt, nI_toInt (by omega), nI_toInt hb]
  omega
theorem eq_i {h : Int32} {q : Nat} (hb : q < 2 ^ 31) : h = nI q ↔ h.toInt = (q : Int) := by
  rw [← Int32.toInt_inj, nI_toInt hb]
theorem rgC_0 (hm : Nat → Int32) (f : Nat) (hb : f < 2 ^ 31) : ∀ K, rgC hm f 0 K = 0 := by
  intro K
  induction K with
  | zero => rfl
  | succ K ih =>
    show rgC hm f 0 K + (if ¬ hm K < nI f ∧ hm K < nI (f + 0) then 1 else 0) = 0
    rw [ih, if_neg]
    rw [rg_i (by omega)]
    omega
theorem rgC_s (hm : Nat → Int32) (f m : Nat) (hb : f + (m + 1) < 2 ^ 31) : ∀ K, rgC hm f m K + cnt hm (nI (f + m)) K = rgC hm f (m + 1) K := by
  intro K
  induction K with
  | zero => rfl
  | succ K ih =>
    have e : rgC hm f m (K + 1) + cnt hm (nI (f + m)) (K + 1) = rgC hm f m K + (if ¬ hm K < nI f ∧ hm K < nI (f + m) then 1 else 0) + (cnt hm (nI (f + m)) K + if hm K = nI (f + m) then 1 else 0) := rfl
    have e2 : rgC hm f (m + 1) (K + 1) = rgC hm f (m + 1) K + if ¬ hm K < nI f ∧ hm K < nI (f + (m + 1)) then 1 else 0 := rfl
    rw [e, e2, ← ih]
    have r1 := rg_i (h := hm K) (f := f) (m := m) (by omega)
    have r2 := rg_i (h := hm K) (f := f) (m := m + 1) (by omega)
    have r3 := eq_i (h := hm K) (q := f + m) (by omega)
    by_cases h1 : hm K = nI (f + m)
    · rw [if_pos h1, if_pos (r2.mpr (by have := r3.mp h1; omega)), if_neg (fun w => by have := r1.mp w; have := r3.mp h1; omega)]
      omega
    · have h1' : ¬ (hm K).toInt = ((f + m : Nat) : Int) := fun w => h1 (r3.mpr w)
      rw [if_neg h1]
      by_cases h2 : ¬ hm K < nI f ∧ hm K < nI (f + m)
      · rw [if_pos h2, if_pos (r2.mpr (by have := r1.mp h2; omega))]
        omega
      · rw [if_neg h2, if_neg]
        · omega
        · intro w
          have := r2.mp w
          exact h2 (r1.mpr (by omega))
theorem vF_rg (hm : Nat → Int32) (f : Nat) : ∀ m, f + m < 2 ^ 31 → ∀ K, (∀ i, i < m → cnt hm (nI (f + i)) 24 = cnt hm (nI (f + i)) K) → vF hm f m = rgC hm f m K := by
  intro m
  induction m with
  | zero =>
    intro hb K _
    exact (rgC_0 hm f (by omega) K).symm
  | succ m ih =>
    intro hb K hK
    show vF hm f m + cnt hm (nI (f + m)) 24 = _
    rw [ih (by omega) K (fun i hi => hK i (by omega)), hK m (by omega)]
    exact rgC_s hm f m hb K
theorem cs_rg {ops hm plc : Nat → Int32} {n k0 : Nat} (hk0 : k0 ≤ 5) (hp : ∀ j, j < n → plc j = hm j) (hH : homesOK ops n k0 hm) (ho : ∀ j, j < n → ops j = 6 → hm j = -1) : ∀ k, k ≤ n → rgC hm 10 6 k = csM ops plc true k := by
  intro k
  induction k with
  | zero => exact fun _ => rfl
  | succ k ih =>
    intro hk
    show rgC hm 10 6 k + (if ¬ hm k < nI 10 ∧ hm k < nI (10 + 6) then 1 else 0) = csM ops plc true k + if ¬ ops k = 6 ∧ true = true ∧ ¬ plc k ≤ 9 then 1 else 0
    have r1 := rg_i (h := hm k) (f := 10) (m := 6) (by omega)
    rw [ih (by omega), hp k (by omega)]
    by_cases h6 : ops k = 6
    · rw [ho k (by omega) h6, if_neg (by decide), if_neg (fun w => w.1 h6)]
    · obtain ⟨q, h1, h2⟩ := hH k (by omega) h6
      rw [h1] at r1 ⊢
      rw [nI_toInt (by omega)] at r1
      have r2 : nI q ≤ 9 ↔ q ≤ 9 := nI_leI (a := q) (b := 9) (by omega) (by omega)
      rcases h2 with h2 | h2
      · rw [if_neg (fun w => by have := r1.mp w; omega), if_neg (fun w => w.2.2 (r2.mpr (by omega)))]
      · rw [if_pos (r1.mpr (by omega)), if_pos ⟨h6, rfl, fun w => by have := r2.mp w; omega⟩]
theorem is_cnt {ops hm plc : Nat → Int32} {n q : Nat} (hq : q < 2 ^ 31) (hp : ∀ j, j < n → plc j = hm j) (ho : ∀ j, j < n → ops j = 6 → hm j = -1) : ∀ k, k ≤ n → (isM ops plc (nI q) k = true ↔ 0 < cnt hm (nI q) k) := by
  intro k
  induction k with
  | zero => exact fun _ => ⟨fun h => Bool.noConfusion h, fun h => absurd h (Nat.lt_irrefl 0)⟩
  | succ k ih =>
    intro hk
    show (isM ops plc (nI q) k || decide (¬ ops k = 6 ∧ plc k = nI q)) = true ↔ 0 < cnt hm (nI q) k + if hm k = nI q then 1 else 0
    rw [Bool.or_eq_true, ih (by omega), decide_eq_true_iff, hp k (by omega)]
    by_cases h : hm k = nI q
    · rw [if_pos h]
      refine ⟨fun _ => by omega, fun _ => Or.inr ⟨fun h6 => ?_, h⟩⟩
      rw [ho k (by omega) h6] at h
      exact nI_m1 hq h
    · rw [if_neg h]
      exact ⟨fun w => w.elim (fun z => z) (fun z => absurd z.2 h), fun w => Or.inl w⟩
theorem ud_hU {ops hm plc : Nat → Int32} {n f : Nat} (hn : n ≤ 24) (hp : ∀ j, j < n → plc j = hm j) (ho : ∀ j, j < 24 → (n ≤ j ∨ ops j = 6) → hm j = -1) : ∀ m, f + m < 2 ^ 31 → hU hm f m = udM ops plc n f m := by
  intro m
  induction m with
  | zero => exact fun _ => rfl
  | succ m ih =>
    intro hm31
    show hU hm f m + (if 0 < cnt hm (nI (f + m)) 24 then 1 else 0) = udM ops plc n f m + if isM ops plc (nI (f + m)) n = true then 1 else 0
    have h1 := is_cnt (q := f + m) (n := n) (by omega) hp (fun j hj h6 => ho j (by omega) (Or.inr h6)) n (Nat.le_refl _)
    rw [ih (by omega), cnt_tail (n := n) (by omega) hn (fun j hj hnj => ho j hj (Or.inl hnj))]
    by_cases h2 : 0 < cnt hm (nI (f + m)) n
    · rw [if_pos h2, if_pos (h1.mpr h2)]
    · rw [if_neg h2, if_neg (fun w => h2 (h1.mp w))]
theorem cnt_m1 {hm : Nat → Int32} {q : Nat} (hq : q < 2 ^ 31) (h : ∀ j, j < 24 → hm j = -1) : cnt hm (nI q) 24 = 0 := cnt_tail (n := 0) hq (by omega) (fun j hj _ => h j hj)
theorem hU_0 {hm : Nat → Int32} {f : Nat} (h : ∀ j, j < 24 → hm j = -1) : ∀ m, f + m < 2 ^ 31 → hU hm f m = 0 := by
  intro m
  induction m with
  | zero => exact fun _ => rfl
  | succ m ih =>
    intro hm31
    show hU hm f m + (if 0 < cnt hm (nI (f + m)) 24 then 1 else 0) = 0
    rw [ih (by omega), cnt_m1 (by omega) h]; rfl
theorem vF_0 {hm : Nat → Int32} {f : Nat} (h : ∀ j, j < 24 → hm j = -1) : ∀ m, f + m < 2 ^ 31 → vF hm f m = 0 := by
  intro m
  induction m with
  | zero => exact fun _ => rfl
  | succ m ih =>
    intro hm31
    show vF hm f m + cnt hm (nI (f + m)) 24 = 0
    rw [ih (by omega), cnt_m1 (by omega) h]
theorem cnt_eq {x : CS} {y : MS9} (R : Rel x y) {q : Int32} (hq : inB q 0 7 = true) : ctR x.n x.vc (lsc x) x.k x.ev x.hm q = ctM x.ops y.plc x.n y.sm y.evm y.rgm y.alc q := by
  have hn := R.cod.hn
  have hvc := R.cod.vcn
  have hal := R.alc
  obtain ⟨j, hj, rfl⟩ := in_07 hq
  have hc : j = 0 ∨ j = 1 ∨ j = 2 ∨ j = 3 ∨ j = 4 ∨ j = 5 ∨ j = 6 ∨ j = 7 := by omega
  by_cases hk : x.k = 0
  · obtain ⟨e1, e2⟩ := R.al0 hk
    rw [decide_eq_true hk] at hal
    rcases hc with rfl | rfl | rfl | rfl | rfl | rfl | rfl | rfl
    · rfl
    · show nI x.vc = nI _; rw [hvc]
    · show nI (lsc x) = nI y.sm; rw [R.smn]
    · rw [hal]; show nI x.ev = 0; rw [e1]; rfl
    · rw [hal]; show nI (vF x.hm 10 6) = 0; rw [vF_0 e2 6 (by omega)]; rfl
    · rw [hal]; show nI (hU x.hm 10 6) = 0; rw [hU_0 e2 6 (by omega)]; rfl
    · rw [hal]; show nI (hU x.hm 0 5) = 0; rw [hU_0 e2 5 (by omega)]; rfl
    · rw [hal]; show nI x.k = 0; rw [hk]; rfl
  · obtain ⟨e1, e2, e3, e4⟩ := R.al1 hk
    rw [decide_eq_false hk] at hal
    rcases hc with rfl | rfl | rfl | rfl | rfl | rfl | rfl | rfl
    · rfl
    · show nI x.vc = nI _; rw [hvc]
    · show nI (lsc x) = nI y.sm; rw [R.smn]
    · rw [hal]; show nI x.ev = nI y.evm; rw [e2]
    · rw [hal]
      show nI (vF x.hm 10 6) = nI (csM x.ops y.plc true x.n)
      rw [vF_rg x.hm 10 6 (by omega) x.n (fun i hi => cnt_tail (by omega) hn (fun j hj hnj => R.out j hj (Or.inl hnj))), cs_rg R.k5 e3 e4 (fun j hj h6 => R.out j (by omega) (Or.inr h6)) x.n (Nat.le_refl _)]
    · rw [hal]; show nI (hU x.hm 10 6) = nI (udM x.ops y.plc x.n 10 6); rw [ud_hU hn e3 R.out 6 (by omega)]
    · rw [hal]; show nI (hU x.hm 0 5) = nI (udM x.ops y.plc x.n 0 5); rw [ud_hU hn e3 R.out 5 (by omega)]
    · rw [hal]; show nI x.k = nI y.rgm; rw [e1]
/-! the class runs as the reference runs -/
def SIM (Ag : (Nat → Int32) → (Nat → Int32) → (Nat → Int32) → Nat → Prop) (A : MS) (B : MSM) (i : Nat) : Prop := A.2.2.2.2 = !B.2.2.2.2.2 ∧ A.2.2.1 = B.2.2.2.1 ∧ (∀ j, j < A.2.2.1 → A.2.1 j = B.2.2.1 j) ∧ (A.2.2.2.2 = false → A.2.2.2.1 = B.2.2.2.2.1 ∧ Ag A.1 B.1 B.2.1 i)
theorem sim_step {Ag : (Nat → Int32) → (Nat → Int32) → (Nat → Int32) → Nat → Prop} {pl : Bool} {nu nu' ops lf rg hm plc : Nat → Int32} {k i : Nat} {cl sd val cel sdm : Nat → Int32} {sc : Nat} {rs : Int32}
    (hnu : ∀ a b, a = opL cl hm ops lf i → cmpV nu (ops i) a b = cmpV nu' (ops i) a b)
    (hL : opL cl hm ops lf i = oLM pl plc ops lf val cel i) (hR : opR cl hm ops rg i = oRM pl plc ops rg val cel i)
    (h6 : ops i = 6 → Ag cl val cel (i + 1))
    (h7 : ¬ ops i = 6 → ∀ r, Ag (upd (if ops i = 7 then spF cl k else cl) (hm i).toNatClampNeg r) (if pl = true then val else upd val i r) (if pl = true then upd (spC (ops i) cel) (plc i).toNatClampNeg r else spC (ops i) cel) (i + 1))
    (hsd : ∀ j, j < sc → sd j = sdm j) : SIM Ag (stM nu ops lf rg hm k i cl sd sc false) (stP pl nu' ops lf rg plc i val cel sdm sc rs) (i + 1) := by
  unfold stM
  rw [hnu _ _ rfl, hL, hR]
  unfold stP
  clear hnu hL hR
  generalize oLM pl plc ops lf val cel i = a
  generalize oRM pl plc ops rg val cel i = b
  generalize hv : cmpV nu' (ops i) a b = v
  by_cases h5 : ops i = 5
  · have n6 : ¬ ops i = 6 := by rw [h5]; decide
    by_cases hz : b = 0
    · rw [if_pos ⟨h5, hz⟩]
      have ef : cmpF false (ops i) b = true := by unfold cmpF dvF; rw [if_pos h5, if_pos hz]
      rw [ef, cmpS_n n6, cmpN_n n6]
      exact ⟨rfl, rfl, hsd, fun q => Bool.noConfusion q⟩
    · rw [if_neg (fun w => hz w.2), if_neg n6]
      have ef : cmpF false (ops i) b = false := by unfold cmpF dvF; rw [if_pos h5, if_neg hz]
      rw [ef, cmpS_n n6, cmpN_n n6]
      have h8 := h7 n6 v
      unfold stC
      rw [if_pos ⟨n6, rfl⟩]
      cases pl with
      | true => exact ⟨rfl, rfl, hsd, fun _ => ⟨rfl, h8⟩⟩
      | false => exact ⟨rfl, rfl, hsd, fun _ => ⟨rfl, h8⟩⟩
  · rw [if_neg (fun w => h5 w.1), cmpF_n h5]
    by_cases n6 : ops i = 6
    · rw [if_pos n6]
      unfold stC cmpS cmpN
      rw [if_neg (fun w => w.1 n6), if_neg (by rw [n6]; decide), if_pos n6, if_pos n6]
      refine ⟨rfl, rfl, fun j hj => ?_, fun _ => ⟨?_, h6 n6⟩⟩
      · show upd sd sc a j = upd sdm sc a j
        unfold upd
        split
        · rfl
        · rename_i hne
          have hj : j < sc + 1 := hj
          exact hsd j (by omega)
      · exact hv.symm.trans (cmpV_6 n6).symm
    · rw [if_neg n6, cmpS_n n6, cmpN_n n6]
      have h8 := h7 n6 v
      unfold stC
      rw [if_pos ⟨n6, rfl⟩]
      cases pl with
      | true => exact ⟨rfl, rfl, hsd, fun _ => ⟨rfl, h8⟩⟩
      | false => exact ⟨rfl, rfl, hsd, fun _ => ⟨rfl, h8⟩⟩
theorem sim_run {Ag : (Nat → Int32) → (Nat → Int32) → (Nat → Int32) → Nat → Prop} {pl : Bool} {nu nu' ops lf rg hm plc : Nat → Int32} {k n : Nat} {z : MS} {z' : MSM} (hz : SIM Ag z z' 0)
    (hnu : ∀ i, i < n → ∀ cl a b, a = opL cl hm ops lf i → cmpV nu (ops i) a b = cmpV nu' (ops i) a b)
    (hst : ∀ i, i < n → ∀ cl val cel, Ag cl val cel i → opL cl hm ops lf i = oLM pl plc ops lf val cel i ∧ opR cl hm ops rg i = oRM pl plc ops rg val cel i ∧ (ops i = 6 → Ag cl val cel (i + 1)) ∧ (¬ ops i = 6 → ∀ r, Ag (upd (if ops i = 7 then spF cl k else cl) (hm i).toNatClampNeg r) (if pl = true then val else upd val i r) (if pl = true then upd (spC (ops i) cel) (plc i).toNatClampNeg r else spC (ops i) cel) (i + 1))) :
    ∀ i, i ≤ n → SIM Ag (pf nu ops lf rg hm k z i) (pfM pl nu' ops lf rg plc z' i) i := by
  intro i
  induction i with
  | zero => exact fun _ => hz
  | succ i ih =>
    intro hi
    have h := ih (by omega)
    show SIM Ag (if (pf nu ops lf rg hm k z i).2.2.2.2 = true then pf nu ops lf rg hm k z i else stM nu ops lf rg hm k i (pf nu ops lf rg hm k z i).1 (pf nu ops lf rg hm k z i).2.1 (pf nu ops lf rg hm k z i).2.2.1 (pf nu ops lf rg hm k z i).2.2.2.2) (if (pfM pl nu' ops lf rg plc z' i).2.2.2.2.2 = false then pfM pl nu' ops lf rg plc z' i else stP pl nu' ops lf rg plc i (pfM pl nu' ops lf rg plc z' i).1 (pfM pl nu' ops lf rg plc z' i).2.1 (pfM pl nu' ops lf rg plc z' i).2.2.1 (pfM pl nu' ops lf rg plc z' i).2.2.2.1 (pfM pl nu' ops lf rg plc z' i).2.2.2.2.1) (i + 1)
    revert h
    generalize pf nu ops lf rg hm k z i = A
    generalize pfM pl nu' ops lf rg plc z' i = B
    intro h
    obtain ⟨h1, h2, h3, h4⟩ := h
    cases hf : A.2.2.2.2 with
    | true =>
      rw [hf] at h1
      have hg : B.2.2.2.2.2 = false := by
        cases hb : B.2.2.2.2.2 with
        | false => rfl
        | true => rw [hb] at h1; cases h1
      rw [if_pos rfl, if_pos hg]
      exact ⟨by rw [hf, hg]; rfl, h2, h3, fun q => by rw [hf] at q; cases q⟩
    | false =>
      rw [hf] at h1
      have hg : ¬ B.2.2.2.2.2 = false := fun q => by rw [q] at h1; cases h1
      rw [if_neg (by decide), if_neg hg, ← h2]
      obtain ⟨-, h5⟩ := h4 hf
      obtain ⟨s1, s2, s3, s4⟩ := hst i (by omega) _ _ _ h5
      exact sim_step (hnu i (by omega) A.1) s1 s2 s3 s4 h3
theorem nu_eq {ops lf rg cl hm nu : Nat → Int32} {p q r t : Int32} {i : Nat} (h : insOK ops lf rg i) (a b : Int32) (ha : a = opL cl hm ops lf i) : cmpV (upd (upd (upd (upd nu 0 p) 1 q) 2 r) 3 t) (ops i) a b = cmpV (n4 p q r t) (ops i) a b := by
  by_cases h1 : ops i = 1
  · obtain ⟨j, j1, j2⟩ := h.2.1 h1
    rw [← opL_f (show uL (ops i) = false by rw [h1]; decide), j2] at ha
    rw [h1, ha]
    have : j = 0 ∨ j = 1 ∨ j = 2 ∨ j = 3 := by omega
    rcases this with rfl | rfl | rfl | rfl <;> rfl
  · unfold cmpV
    rw [if_neg h1, if_neg h1]
theorem sim_w {x : CS} {y : MS9} (R : Rel x y) (p q r t : Int32) (val cel sdm : Nat → Int32) : ∀ i, i ≤ x.n → SIM (fun cl val _ i => ∀ j, j < i → x.ops j ≠ 6 → cl j = val j) (pf (upd (upd (upd (upd x.nu 0 p) 1 q) 2 r) 3 t) x.ops x.lf x.rg (owF 24) 0 (filF x.cl 0 24, x.sd, 0, 0, false) i) (pfM false (n4 p q r t) x.ops x.lf x.rg y.plc (val, cel, sdm, 0, 0, true) i) i := by
  have hn := R.cod.hn
  refine sim_run ⟨rfl, rfl, fun j hj => absurd hj (Nat.not_lt_zero j), fun _ => ⟨rfl, fun j hj => absurd hj (Nat.not_lt_zero j)⟩⟩ (fun i hi cl a b => nu_eq (R.cod.ok i hi) a b) ?_
  intro i hi cl val cel hag
  obtain ⟨o1, o2, o3, o4⟩ := R.cod.ok i hi
  refine ⟨?_, ?_, ?_, ?_⟩
  · cases hL : uL (x.ops i) with
    | false => rw [← opL_f hL, ← oLM_f hL]
    | true =>
      obtain ⟨j, j1, j2, j3⟩ := o3 hL
      rw [← opL_t hL j2 (by omega) (owF_lt (by omega)) (by omega), ← oLM_t hL j2 (by omega)]
      exact hag j j1 j3
  · cases hR : uR (x.ops i) with
    | false => rw [← opR_f hR, ← oRM_f hR]
    | true =>
      obtain ⟨j, j1, j2, j3⟩ := o4 hR
      rw [← opR_t hR j2 (by omega) (owF_lt (by omega)) (by omega), ← oRM_t hR j2 (by omega)]
      exact hag j j1 j3
  · intro h6 j hj hj6
    rcases Nat.lt_or_ge j i with z | z
    · exact hag j z hj6
    · rw [show j = i by omega] at hj6; exact absurd h6 hj6
  · intro h6 v j hj hj6
    have e : (if x.ops i = 7 then spF cl 0 else cl) = cl := by
      split
      · funext j; exact if_neg (by omega)
      · rfl
    rw [e, owF_lt (by omega), nI_clamp (by omega)]
    show upd cl i v j = upd val i v j
    unfold upd
    split
    · rfl
    · exact hag j (by omega) hj6
theorem sim_g {x : CS} {y : MS9} (R : Rel x y) (hk : ¬ nI x.k = 0) (p q r t : Int32) (val cel sdm : Nat → Int32) : ∀ i, i ≤ x.n → SIM (fun cl _ cel _ => ∀ c, (c < x.k ∨ (10 ≤ c ∧ c < 16)) → cl c = cel c) (pf (upd (upd (upd (upd x.nu2 0 p) 1 q) 2 r) 3 t) x.ops x.lf x.rg x.hm x.k (filF x.cl2 0 24, x.sd2, 0, 0, false) i) (pfM true (n4 p q r t) x.ops x.lf x.rg y.plc (val, filF cel 0 16, sdm, 0, 0, true) i) i := by
  have hn := R.cod.hn
  have hk5 := R.k5
  obtain ⟨-, -, hp, hH⟩ := R.al1 (k_ne hk)
  refine sim_run ⟨rfl, rfl, fun j hj => absurd hj (Nat.not_lt_zero j), fun _ => ⟨rfl, fun c hc => ?_⟩⟩ (fun i hi cl a b => nu_eq (R.cod.ok i hi) a b) ?_
  · show filF x.cl2 0 24 c = filF cel 0 16 c
    rw [filF_lt (by omega), filF_lt (by omega)]
  intro i hi cl val cel hag
  obtain ⟨o1, o2, o3, o4⟩ := R.cod.ok i hi
  refine ⟨?_, ?_, ?_, ?_⟩
  · cases hL : uL (x.ops i) with
    | false => rw [← opL_f hL, ← oLM_f hL]
    | true =>
      obtain ⟨j, j1, j2, j3⟩ := o3 hL
      obtain ⟨c, c1, c2⟩ := hH j (by omega) j3
      rw [← opL_t hL j2 (by omega) c1 (by omega), ← oLM_t hL j2 (by omega), ← tkM_t rfl ((hp j (by omega)).trans c1) (by omega)]
      exact hag c c2
  · cases hR : uR (x.ops i) with
    | false => rw [← opR_f hR, ← oRM_f hR]
    | true =>
      obtain ⟨j, j1, j2, j3⟩ := o4 hR
      obtain ⟨c, c1, c2⟩ := hH j (by omega) j3
      rw [← opR_t hR j2 (by omega) c1 (by omega), ← oRM_t hR j2 (by omega), ← tkM_t rfl ((hp j (by omega)).trans c1) (by omega)]
      exact hag c c2
  · intro h6 c hc
    exact hag c hc
  · intro h6 v c hc
    obtain ⟨d, d1, d2⟩ := hH i hi h6
    rw [hp i hi, d1, nI_clamp (by omega)]
    show upd (if x.ops i = 7 then spF cl x.k else cl) d v c = upd (spC (x.ops i) cel) d v c
    unfold upd spC
    split
    · rfl
    · split
      · unfold spF spM
        by_cases h2 : 2 ≤ c ∧ c < x.k
        · rw [if_pos h2, if_pos (by omega)]
        · rw [if_neg h2, if_neg (by omega)]
          exact hag c hc
      · exact hag c hc
theorem run_eq {x : CS} {y : MS9} (R : Rel x y) (p q r t : Int32) : (ZW x p q r t).2.2.2.2 = !(ZM false x y p q r t).2.2.2.2.2 ∧ ((ZW x p q r t).2.2.2.2 = false → (ZW x p q r t).2.2.2.1 = (ZM false x y p q r t).2.2.2.2.1) := by
  have h := sim_w R p q r t y.val (filF y.cel 0 16) y.sdm x.n (Nat.le_refl _)
  exact ⟨h.1, fun z => (h.2.2.2 z).1⟩
theorem go_eq {x : CS} {y : MS9} (R : Rel x y) (hk : ¬ nI x.k = 0) (p q r t : Int32) : (ZA x p q r t).2.2.2.2 = !(ZM true x y p q r t).2.2.2.2.2 ∧ ((ZA x p q r t).2.2.2.2 = false → (ZA x p q r t).2.2.2.1 = (ZM true x y p q r t).2.2.2.2.1) := by
  have h := sim_g R hk p q r t y.val y.cel y.sdm x.n (Nat.le_refl _)
  exact ⟨h.1, fun z => (h.2.2.2 z).1⟩
theorem zw_24 {x : CS} {y : MS9} (R : Rel x y) (p q r t : Int32) : (ZW x p q r t).2.2.1 ≤ 24 := Nat.le_trans (pf_sc x.n) R.cod.hn
theorem za_24 {x : CS} {y : MS9} (R : Rel x y) (p q r t : Int32) : (ZA x p q r t).2.2.1 ≤ 24 := Nat.le_trans (pf_sc x.n) R.cod.hn
theorem rel_run {x : CS} {y : MS9} (R : Rel x y) (p q r t u : Int32) : Rel (runX x p q r t) (rnY y (ZM false x y p q r t) u) := by
  have h := sim_w R p q r t y.val (filF y.cel 0 16) y.sdm x.n (Nat.le_refl _)
  exact ⟨R.cod, R.k5, R.alc, R.al1, R.al0, R.out, zw_24 R p q r t, h.2.1.symm, fun j hj => (h.2.2.1 j hj).symm⟩
theorem rel_go {x : CS} {y : MS9} (R : Rel x y) (hk : ¬ nI x.k = 0) (p q r t u : Int32) : Rel (goX x p q r t) (rnY y (ZM true x y p q r t) u) := by
  have h := sim_g R hk p q r t y.val y.cel y.sdm x.n (Nat.le_refl _)
  exact ⟨R.cod, R.k5, R.alc, R.al1, R.al0, R.out, za_24 R p q r t, h.2.1.symm, fun j hj => (h.2.2.1 j hj).symm⟩
theorem rel_sam {x : CS} {y : MS9} (R : Rel x y) (hk : ¬ nI x.k = 0) (p q r t : Int32) : Rel (samX x p q r t) (smY y (ZM false x y p q r t) (ZM2 x y p q r t)) := by
  have h := sim_g R hk p q r t (ZM false x y p q r t).1 (ZM false x y p q r t).2.1 (ZM false x y p q r t).2.2.1 x.n (Nat.le_refl _)
  exact ⟨R.cod, R.k5, R.alc, R.al1, R.al0, R.out, za_24 R p q r t, h.2.1.symm, fun j hj => (h.2.2.1 j hj).symm⟩
theorem sdE_iff (a b : Nat → Int32) : ∀ k, sdE a b k = true ↔ ∀ j, j < k → a j = b j := by
  intro k
  induction k with
  | zero => exact ⟨fun _ j hj => absurd hj (Nat.not_lt_zero j), fun _ => rfl⟩
  | succ k ih =>
    show (sdE a b k && decide (a k = b k)) = true ↔ _
    rw [Bool.and_eq_true, ih, decide_eq_true_iff]
    constructor
    · rintro ⟨h1, h2⟩ j hj
      rcases Nat.lt_or_ge j k with z | z
      · exact h1 j z
      · rw [show j = k by omega]; exact h2
    · exact fun h => ⟨fun j hj => h j (by omega), h k (by omega)⟩
theorem sam_eq {x : CS} {y : MS9} (R : Rel x y) (hk : ¬ nI x.k = 0) (p q r t : Int32) : endL (ZA x p q r t).2.1 (ZW x p q r t).2.1 (ZA x p q r t).2.2.1 (ZW x p q r t).2.2.1 (ZA x p q r t).2.2.2.1 (ZW x p q r t).2.2.2.1 (ZA x p q r t).2.2.2.2 (ZW x p q r t).2.2.2.2 = smB (cpF y.bfr (ZM false x y p q r t).2.2.1 (ZM false x y p q r t).2.2.2.1) (ZM2 x y p q r t).2.2.1 (ZM false x y p q r t).2.2.2.1 (ZM2 x y p q r t).2.2.2.1 (ZM false x y p q r t).2.2.2.2.1 (ZM2 x y p q r t).2.2.2.2.1 (ZM false x y p q r t).2.2.2.2.2 (ZM2 x y p q r t).2.2.2.2.2 := by
  have h := sim_w R p q r t y.val (filF y.cel 0 16) y.sdm x.n (Nat.le_refl _)
  have g := sim_g R hk p q r t (ZM false x y p q r t).1 (ZM false x y p q r t).2.1 (ZM false x y p q r t).2.2.1 x.n (Nat.le_refl _)
  change SIM _ (ZW x p q r t) (ZM false x y p q r t) x.n at h
  change SIM _ (ZA x p q r t) (ZM2 x y p q r t) x.n at g
  revert h g
  generalize ZW x p q r t = A
  generalize ZM2 x y p q r t = D
  generalize ZA x p q r t = C
  generalize ZM false x y p q r t = B
  intro h g
  obtain ⟨h1, h2, h3, h4⟩ := h
  obtain ⟨g1, g2, g3, g4⟩ := g
  have hB : B.2.2.2.2.2 = !A.2.2.2.2 := by rw [h1, Bool.not_not]
  have hD : D.2.2.2.2.2 = !C.2.2.2.2 := by rw [g1, Bool.not_not]
  rw [hB, hD, ← h2, ← g2]
  by_cases e1 : C.2.2.2.2 = A.2.2.2.2
  · by_cases e2 : C.2.2.1 = A.2.2.1
    · have es : sdE C.2.1 A.2.1 C.2.2.1 = sdE (cpF y.bfr B.2.2.1 A.2.2.1) D.2.2.1 A.2.2.1 := by
        rw [Bool.eq_iff_iff, sdE_iff, sdE_iff, e2]
        refine forall_congr' (fun j => forall_congr' (fun hj => ?_))
        have : cpF y.bfr B.2.2.1 A.2.2.1 j = B.2.2.1 j := if_pos hj
        rw [this, ← h3 j hj, ← g3 j (by omega)]
        exact eq_comm
      unfold endL smB
      rw [decide_eq_true e1, decide_eq_true e2, es, e1, decide_eq_true rfl, decide_eq_true e2.symm, Bool.true_and, Bool.true_and, Bool.true_and, Bool.true_and, Bool.not_not, Bool.and_comm]
      cases hf : A.2.2.2.2 with
      | true => rfl
      | false =>
        rw [(h4 hf).1, (g4 (e1.trans hf)).1]
        have : decide (D.2.2.2.2.1 = B.2.2.2.2.1) = decide (B.2.2.2.2.1 = D.2.2.2.2.1) := decide_eq_decide.mpr eq_comm
        rw [this]
    · rw [endL_2 e2, smB_2 (fun z => e2 z.symm)]
  · rw [endL_1 e1, smB_1]
    intro z
    apply e1
    have := congrArg not z
    rw [Bool.not_not, Bool.not_not] at this
    exact this.symm
