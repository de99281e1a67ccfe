/-! how often there can be a look: a bound for every order of weights -/
section POT
variable {adj : Nat → Nat → Bool}
def fb : Nat → Nat
  | 0 => 0
  | 1 => 1
  | z + 2 => fb (z + 1) + fb z + 1
theorem fb_s (z : Nat) : fb (z + 1) = fb z + fb (z - 1) + 1 := by cases z <;> rfl
theorem fb_m (z : Nat) : fb z ≤ fb (z + 1) := by rw [fb_s]; omega
theorem fb_p (z : Nat) : fb (z - 1) ≤ fb z := by
  cases z with
  | zero => exact Nat.le_refl _
  | succ z => exact fb_m z
/-- the most that values of A which do not meet can be worth -/
def MW (adj : Nat → Nat → Bool) : List Nat → (Nat → Bool) → Nat
  | [], _ => 0
  | v :: L, A => max (MW adj L A) (if A v = true then 1 + MW adj L (adj v) + MW adj L (fun u => A u && !adj v u) else 0)
theorem MW_b : ∀ L : List Nat, (∀ A, MW adj L A ≤ fb L.length) ∧ (∀ A B : Nat → Bool, (∀ u, A u = true → B u = true → False) → MW adj L A + MW adj L B ≤ fb L.length + fb (L.length - 1)) := by
  intro L
  induction L with
  | nil => exact ⟨fun _ => Nat.le_refl _, fun _ _ _ => Nat.le_refl _⟩
  | cons v L ih =>
    obtain ⟨h1, h2⟩ := ih
    have hs := fb_s L.length
    have hp := fb_p L.length
    have hd : ∀ A : Nat → Bool, MW adj L (adj v) + MW adj L (fun u => A u && !adj v u) ≤ fb L.length + fb (L.length - 1) := fun A => h2 _ _ (fun u a b => by
      have b : (A u && !adj v u) = true := b
      rw [a, Bool.not_true, Bool.and_false] at b
      cases b)
    have key : ∀ A B : Nat → Bool, (∀ u, A u = true → B u = true → False) → B v = false → MW adj (v :: L) A + MW adj (v :: L) B ≤ fb (L.length + 1) + fb L.length := by
      intro A B hAB hB
      have eB : MW adj (v :: L) B = MW adj L B := by
        show max (MW adj L B) (if B v = true then _ else 0) = _
        rw [if_neg (by rw [hB]; decide)]
        exact Nat.max_eq_left (Nat.zero_le _)
      have e1 := h2 A B hAB
      have e2 := hd A
      have e3 := h1 B
      rw [eB]
      show max (MW adj L A) (if A v = true then 1 + MW adj L (adj v) + MW adj L (fun u => A u && !adj v u) else 0) + MW adj L B ≤ _
      split <;> omega
    refine ⟨fun A => ?_, fun A B hAB => ?_⟩
    · have e1 := h1 A
      have e2 := hd A
      show max (MW adj L A) (if A v = true then 1 + MW adj L (adj v) + MW adj L (fun u => A u && !adj v u) else 0) ≤ fb (L.length + 1)
      split <;> omega
    · show _ ≤ fb (L.length + 1) + fb L.length
      cases hB : B v with
      | false => exact key A B hAB hB
      | true =>
        have hA : A v = false := by
          cases hA : A v with
          | false => rfl
          | true => exact (hAB v hA hB).elim
        rw [Nat.add_comm (MW adj (v :: L) A)]
        exact key B A (fun u a b => hAB u b a) hA
/-- what all that wait are worth -/
def PH (adj : Nat → Nat → Bool) : List Nat → (Nat → Bool) → Nat
  | [], _ => 0
  | v :: L, w => (if w v = true then 1 + MW adj L (adj v) else 0) + PH adj L w
def gb : Nat → Nat
  | 0 => 0
  | z + 1 => gb z + 1 + fb z
theorem gb_m : ∀ {a b : Nat}, a ≤ b → gb a ≤ gb b := by
  intro a b h
  induction h with
  | refl => exact Nat.le_refl _
  | step _ ih => exact Nat.le_trans ih (by show _ ≤ gb _ + 1 + fb _; omega)
theorem PH_b (w : Nat → Bool) : ∀ L : List Nat, PH adj L w ≤ gb L.length := by
  intro L
  induction L with
  | nil => exact Nat.le_refl _
  | cons v L ih =>
    have h := (MW_b (adj := adj) L).1 (adj v)
    show (if w v = true then 1 + MW adj L (adj v) else 0) + PH adj L w ≤ gb L.length + 1 + fb L.length
    split <;> omega
theorem PH_X {S : Nat → Bool} : ∀ (L : List Nat) (A : Nat → Bool), L.Nodup → (∀ u, u ∈ L → S u = true → A u = true) → (∀ u u', u ∈ L → u' ∈ L → u ≠ u' → S u = true → S u' = true → adj u u' = false) → PH adj L S ≤ MW adj L A := by
  intro L
  induction L with
  | nil => exact fun _ _ _ _ => Nat.le_refl _
  | cons v L ih =>
    intro A hn hA hi
    obtain ⟨n1, n2⟩ := List.nodup_cons.mp hn
    show (if S v = true then 1 + MW adj L (adj v) else 0) + PH adj L S ≤ max (MW adj L A) (if A v = true then 1 + MW adj L (adj v) + MW adj L (fun u => A u && !adj v u) else 0)
    have hi' : ∀ u u', u ∈ L → u' ∈ L → u ≠ u' → S u = true → S u' = true → adj u u' = false := fun u u' a b => hi u u' (List.mem_cons_of_mem _ a) (List.mem_cons_of_mem _ b)
    cases hS : S v with
    | true =>
      rw [if_pos rfl, if_pos (hA v (List.mem_cons_self ..) hS)]
      have := ih (fun u => A u && !adj v u) n2 (fun u hu hs => by
        have e1 := hA u (List.mem_cons_of_mem _ hu) hs
        have e2 := hi v u (List.mem_cons_self ..) (List.mem_cons_of_mem _ hu) (fun q => n1 (q ▸ hu)) hS hs
        show (A u && !adj v u) = true
        rw [e1, e2]; rfl) hi'
      omega
    | false =>
      rw [if_neg (by decide)]
      have := ih A n2 (fun u hu => hA u (List.mem_cons_of_mem _ hu)) hi'
      omega
theorem PH_add {w w' S : Nat → Bool} : ∀ L : List Nat, (∀ u, u ∈ L → w' u = (w u || S u)) → (∀ u, u ∈ L → S u = true → w u = false) → PH adj L w' = PH adj L w + PH adj L S := by
  intro L
  induction L with
  | nil => exact fun _ _ => rfl
  | cons v L ih =>
    intro h1 h2
    have e := ih (fun u hu => h1 u (List.mem_cons_of_mem _ hu)) (fun u hu => h2 u (List.mem_cons_of_mem _ hu))
    show (if w' v = true then 1 + MW adj L (adj v) else 0) + PH adj L w' = (if w v = true then 1 + MW adj L (adj v) else 0) + PH adj L w + ((if S v = true then 1 + MW adj L (adj v) else 0) + PH adj L S)
    rw [e, h1 v (List.mem_cons_self ..)]
    have h3 := h2 v (List.mem_cons_self ..)
    cases hS : S v with
    | true => rw [h3 hS]; simp; omega
    | false => simp; omega
theorem PH_step {w w' S : Nat → Bool} {key : Nat → Int} {v : Nat} : ∀ L : List Nat, L.Nodup → L.Pairwise (fun a b => key b ≤ key a) → v ∈ L → w v = true → w' v = false → (∀ u, u ∈ L → u ≠ v → w' u = (w u || S u)) → (∀ u, u ∈ L → S u = true → w u = false ∧ adj v u = true ∧ key u < key v) → (∀ u u', u ∈ L → u' ∈ L → u ≠ u' → S u = true → S u' = true → adj u u' = false) → PH adj L w' + 1 ≤ PH adj L w := by
  intro L
  induction L with
  | nil => intro _ _ h; cases h
  | cons h L ih =>
    intro hn hs hv hw hw' h1 h2 hi
    obtain ⟨n1, n2⟩ := List.nodup_cons.mp hn
    obtain ⟨s1, s2⟩ := List.pairwise_cons.mp hs
    have hi' : ∀ u u', u ∈ L → u' ∈ L → u ≠ u' → S u = true → S u' = true → adj u u' = false := fun u u' a b => hi u u' (List.mem_cons_of_mem _ a) (List.mem_cons_of_mem _ b)
    show (if w' h = true then 1 + MW adj L (adj h) else 0) + PH adj L w' + 1 ≤ (if w h = true then 1 + MW adj L (adj h) else 0) + PH adj L w
    by_cases e : h = v
    · subst e
      rw [if_neg (by rw [hw']; decide), if_pos hw]
      have a1 := PH_add (adj := adj) (w := w) (w' := w') (S := S) L (fun u hu => h1 u (List.mem_cons_of_mem _ hu) (fun q => n1 (q ▸ hu))) (fun u hu hS => (h2 u (List.mem_cons_of_mem _ hu) hS).1)
      have a2 := PH_X (S := S) L (adj h) n2 (fun u hu hS => (h2 u (List.mem_cons_of_mem _ hu) hS).2.1) hi'
      omega
    · have hvL : v ∈ L := by
        rcases List.mem_cons.mp hv with q | q
        · exact absurd q.symm e
        · exact q
      have hS : S h = false := by
        cases hS : S h with
        | false => rfl
        | true =>
          have a := (h2 h (List.mem_cons_self ..) hS).2.2
          have b := s1 v hvL
          omega
      have a1 := ih n2 s2 hvL hw hw' (fun u hu => h1 u (List.mem_cons_of_mem _ hu)) (fun u hu => h2 u (List.mem_cons_of_mem _ hu)) hi'
      rw [h1 h (List.mem_cons_self ..) e, hS, Bool.or_false]
      omega
end POT
/-! the looks of both, side by side -/
section FIL
variable {ops : Nat → Int32} {E P : Nat → Nat} {n k v : Nat} {f hm : Nat → Int32}
theorem lw_some : ∀ m, m ≤ 24 → n ≤ 24 → lw ops E n f m = some v → v < n ∧ ops v ≠ 6 ∧ f v = -1 := by
  intro m
  induction m with
  | zero => intro _ _ h; cases h
  | succ m ih =>
    intro hm hn h
    have e : lw ops E n f (m + 1) = if iv ops n (nI m) = true ∧ f m = -1 ∧ lwB E (lw ops E n f m) m = true then some m else lw ops E n f m := rfl
    rw [e] at h
    by_cases hc : iv ops n (nI m) = true ∧ f m = -1 ∧ lwB E (lw ops E n f m) m = true
    · rw [if_pos hc] at h
      cases h
      have h1 := hc.1
      rw [iv_nat (by omega) (by omega), decide_eq_true_iff] at h1
      exact ⟨h1.1, h1.2, hc.2.1⟩
    · rw [if_neg hc] at h
      exact ih (by omega) hn h
theorem lw_none (hn : n ≤ 24) : ∀ m, m ≤ n → lw ops E n f m = none → ∀ j, j < m → ops j ≠ 6 → f j ≠ -1 := by
  intro m
  induction m with
  | zero => intro _ _ j hj; omega
  | succ m ih =>
    intro hm h j hj h6 hf
    have e : lw ops E n f (m + 1) = if iv ops n (nI m) = true ∧ f m = -1 ∧ lwB E (lw ops E n f m) m = true then some m else lw ops E n f m := rfl
    rw [e] at h
    by_cases hc : iv ops n (nI m) = true ∧ f m = -1 ∧ lwB E (lw ops E n f m) m = true
    · rw [if_pos hc] at h; cases h
    · rw [if_neg hc] at h
      rcases Nat.lt_or_ge j m with z | z
      · exact ih (by omega) h j z h6 hf
      · have e2 : j = m := by omega
        subst e2
        exact hc ⟨iv_t hn (by omega) h6, hf, by rw [h]; rfl⟩
theorem mt_c (i j : Nat) : mt E i j = mt E j i := by
  unfold mt
  exact decide_eq_decide.mpr ⟨fun h => ⟨h.2, h.1⟩, fun h => ⟨h.2, h.1⟩⟩
def HIN (ops : Nat → Int32) (E : Nat → Nat) (n k : Nat) (f : Nat → Int32) : Prop := (∀ j, j < n → ops j = 6 → f j = -1) ∧ (∀ j, j < n → f j = -1 ∨ ∃ q : Nat, f j = nI q ∧ (q < k ∨ (10 ≤ q ∧ q < 16))) ∧ (∀ i j, i < n → j < n → i ≠ j → f i = f j → f i ≠ -1 → mt E i j = false)
def wq (ops f : Nat → Int32) (u : Nat) : Bool := decide (ops u ≠ 6 ∧ f u = -1)
/-- once v lies in c, and those in c that meet it are out -/
theorem pl_at {c : Nat} (hc : c < 2 ^ 31) {j : Nat} (hj : j < n) : upd (evH E f v (nI c) n) v (nI c) j = if j = v then nI c else if f j = nI c ∧ mt E v j = true then -1 else f j := by
  unfold upd
  split
  · rfl
  · rw [evH_at (fun q => nI_m1 hc q.symm)]
    by_cases h : f j = nI c ∧ mt E v j = true
    · rw [if_pos h, if_pos ⟨hj, h⟩]
    · rw [if_neg h, if_neg (fun q => h q.2)]
theorem pl_HIN {c : Nat} (hk : k ≤ 5) (hc : c < k ∨ (10 ≤ c ∧ c < 16)) (hv6 : ops v ≠ 6) {g : Nat → Int32} (hg : ∀ j, j < n → g j = if j = v then nI c else if f j = nI c ∧ mt E v j = true then -1 else f j) (h : HIN ops E n k f) : HIN ops E n k g := by
  have m1 : nI c ≠ -1 := fun q => nI_m1 (by omega) q.symm
  obtain ⟨h1, h2, h3⟩ := h
  refine ⟨fun j hj h6 => ?_, fun j hj => ?_, fun i j hi hj hij he hne => ?_⟩
  · rw [hg j hj, if_neg (fun q : j = v => hv6 (q ▸ h6)), h1 j hj h6]
    split <;> rfl
  · rw [hg j hj]
    split
    · exact Or.inr ⟨c, rfl, hc⟩
    · split
      · exact Or.inl rfl
      · exact h2 j hj
  · rw [hg i hi, hg j hj] at he
    rw [hg i hi] at hne
    by_cases ei : i = v
    · rw [if_pos ei] at he
      have ej : ¬ j = v := fun q => hij (ei.trans q.symm)
      rw [if_neg ej] at he
      by_cases hq : f j = nI c ∧ mt E v j = true
      · rw [if_pos hq] at he; exact absurd he m1
      · rw [if_neg hq] at he
        rw [ei]
        cases hz : mt E v j with
        | false => rfl
        | true => exact absurd ⟨he.symm, hz⟩ hq
    · rw [if_neg ei] at he hne
      by_cases hq : f i = nI c ∧ mt E v i = true
      · rw [if_pos hq] at hne; exact absurd rfl hne
      · rw [if_neg hq] at he hne
        by_cases ej : j = v
        · rw [if_pos ej] at he
          rw [ej, mt_c]
          cases hz : mt E v i with
          | false => rfl
          | true => exact absurd ⟨he, hz⟩ hq
        · rw [if_neg ej] at he
          by_cases hq2 : f j = nI c ∧ mt E v j = true
          · rw [if_pos hq2] at he; exact absurd he hne
          · rw [if_neg hq2] at he
            exact h3 i j hi hj hij he hne
theorem pl_PH {c : Nat} (hk : k ≤ 5) (hc : c < k ∨ (10 ≤ c ∧ c < 16)) (hv6 : ops v ≠ 6) (hvn : v < n) (hv1 : f v = -1) (hlt : ∀ u, u < n → f u = nI c → mt E v u = true → zv (wt P E u) < zv (wt P E v)) {g : Nat → Int32} (hg : ∀ j, j < n → g j = if j = v then nI c else if f j = nI c ∧ mt E v j = true then -1 else f j) (h : HIN ops E n k f)
    {L : List Nat} (hL1 : L.Nodup) (hL2 : L.Pairwise (fun a b => zv (wt P E b) ≤ zv (wt P E a))) (hL3 : ∀ u, u ∈ L ↔ u < n) : PH (mt E) L (wq ops g) + 1 ≤ PH (mt E) L (wq ops f) := by
  have m1 : nI c ≠ -1 := fun q => nI_m1 (by omega) q.symm
  obtain ⟨h1, h2, h3⟩ := h
  refine PH_step (S := fun u => decide (f u = nI c ∧ mt E v u = true)) (key := fun u => zv (wt P E u)) (v := v) L hL1 hL2 ((hL3 v).mpr hvn) (decide_eq_true ⟨hv6, hv1⟩) ?_ ?_ ?_ ?_
  · refine decide_eq_false (fun q => ?_)
    have := q.2
    rw [hg v hvn, if_pos rfl] at this
    exact m1 this
  · intro u hu huv
    have hun := (hL3 u).mp hu
    unfold wq
    rw [hg u hun, if_neg huv]
    by_cases hq : f u = nI c ∧ mt E v u = true
    · rw [if_pos hq, decide_eq_true hq, Bool.or_true]
      refine decide_eq_true ⟨fun q => ?_, rfl⟩
      exact m1 (hq.1.symm.trans (h1 u hun q))
    · rw [if_neg hq, decide_eq_false hq, Bool.or_false]
  · intro u hu hS
    have hS := of_decide_eq_true hS
    refine ⟨decide_eq_false (fun q => m1 (hS.1.symm.trans q.2)), hS.2, hlt u ((hL3 u).mp hu) hS.1 hS.2⟩
  · intro u u' hu hu' hne hS hS'
    have hS := of_decide_eq_true hS
    have hS' := of_decide_eq_true hS'
    exact h3 u u' ((hL3 u).mp hu) ((hL3 u').mp hu') hne (hS.1.trans hS'.1.symm) (by rw [hS.1]; exact m1)
theorem fil (hw : ∀ j, j < n → nn (wt P E j) ∧ 0 < zv (wt P E j)) (hn : n ≤ 24) (hk1 : 1 ≤ k) (hk5 : k ≤ 5) {L : List Nat} (hL1 : L.Nodup) (hL2 : L.Pairwise (fun a b => zv (wt P E b) ≤ zv (wt P E a))) (hL3 : ∀ u, u ∈ L ↔ u < n) :
    ∀ (t : Nat) (f hm : Nat → Int32) (ev : Nat), HIN ops E n k f → (∀ j, j < n → hm j = f j) → (∀ j, j < 24 → n ≤ j → hm j = -1) → PH (mt E) L (wq ops f) < t →
    ∃ z : Bool × (Nat → Int32) × Nat, flM ops E P n k t f ev = some z ∧ (flR ops E P n k t hm ev).1 = z.1 ∧ (z.1 = true → (∀ j, j < n → (flR ops E P n k t hm ev).2.1 j = z.2.1 j) ∧ (∀ j, j < 24 → n ≤ j → (flR ops E P n k t hm ev).2.1 j = -1) ∧ (flR ops E P n k t hm ev).2.2 = z.2.2 ∧ HIN ops E n k z.2.1 ∧ (∀ j, j < n → ops j ≠ 6 → z.2.1 j ≠ -1)) := by
  intro t
  induction t with
  | zero => intro f hm ev _ _ _ h; omega
  | succ t ih =>
    intro f hm ev hI hx ho hP
    have hl : lw ops E n hm n = lw ops E n f n := lw_ext hx n (Nat.le_refl _)
    have eM : flM ops E P n k (t + 1) f ev = match lw ops E n f n with
      | none => some (true, f, ev)
      | some v => if (gvR ops E P n k f v).1 = true then flM ops E P n k t (gvR ops E P n k f v).2.1 (ev + (gvR ops E P n k f v).2.2) else some (false, (gvR ops E P n k f v).2.1, ev + (gvR ops E P n k f v).2.2) := rfl
    have eR : flR ops E P n k (t + 1) hm ev = match stp ops E P n k hm ev with
      | .inl b => (b, hm, ev)
      | .inr q => flR ops E P n k t q.1 q.2 := rfl
    cases h0 : lw ops E n f n with
    | none =>
      rw [h0] at eM
      rw [stp_done (hl.trans h0)] at eR
      rw [eM, eR]
      exact ⟨_, rfl, rfl, fun _ => ⟨hx, ho, rfl, hI, lw_none hn n (Nat.le_refl _) h0⟩⟩
    | some v =>
      rw [h0] at eM
      obtain ⟨v1, v2, v3⟩ := lw_some n hn hn h0
      have et := trF_ext (E := E) (P := P) (v := v) hx (mayR ops E n v k)
      have ef := fsl_ext (E := E) (P := P) (v := v) hx 6 10
      rcases giv (ops := ops) (P := P) (k := k) hw v3 hI.1 v1 hk1 hk5 with ⟨c, c1, c2, c3, c4⟩ | ⟨c1, c2, c3⟩
      · have c31 : c < 2 ^ 31 := by omega
        have m1 : nI c ≠ -1 := fun q => nI_m1 c31 q.symm
        have eM : flM ops E P n k (t + 1) f ev = if (gvR ops E P n k f v).1 = true then flM ops E P n k t (gvR ops E P n k f v).2.1 (ev + (gvR ops E P n k f v).2.2) else some (false, (gvR ops E P n k f v).2.1, ev + (gvR ops E P n k f v).2.2) := eM
        rw [c3] at eM
        have eM : flM ops E P n k (t + 1) f ev = flM ops E P n k t (upd (evH E f v (nI c) n) v (nI c)) (ev + evC E f v (nI c) n) := eM
        have hg : ∀ j, j < n → upd (evH E f v (nI c) n) v (nI c) j = if j = v then nI c else if f j = nI c ∧ mt E v j = true then -1 else f j := fun j hj => pl_at c31 hj
        have i1 := pl_HIN hk5 c1 v2 hg hI
        have i2 := pl_PH (P := P) hk5 c1 v2 v1 v3 c2 hg hI hL1 hL2 hL3
        rw [eM]
        rcases c4 with c4 | ⟨c4, c5, c6⟩
        · rw [stp_reg (hl.trans h0) (by rw [et]; exact c4)] at eR
          have eR : flR ops E P n k (t + 1) hm ev = flR ops E P n k t (upd (evH E hm v (nI c) n) v (nI c)) (ev + evC E hm v (nI c) n) := eR
          rw [eR, evC_ext m1 hx n (Nat.le_refl _)]
          refine ih _ _ _ i1 (fun j hj => ?_) (fun j hj hnj => ?_) (by omega)
          · rw [pl_at c31 hj, pl_at c31 hj, hx j hj]
          · rw [upd_ne (by omega), evH_at m1, if_neg (fun q => by omega)]
            exact ho j hj hnj
        · rw [stp_slot (hl.trans h0) (by rw [et]; exact c4) (by rw [ef]; exact c5)] at eR
          have eR : flR ops E P n k (t + 1) hm ev = flR ops E P n k t (upd hm v (nI c)) ev := eR
          rw [eR, evC_free m1 c6 n (Nat.le_refl _), Nat.add_zero]
          refine ih _ _ _ i1 (fun j hj => ?_) (fun j hj hnj => ?_) (by omega)
          · rw [pl_at c31 hj]
            unfold upd
            split
            · rfl
            · rw [if_neg (c6 j hj)]; exact hx j hj
          · rw [upd_ne (by omega)]
            exact ho j hj hnj
      · rw [stp_no (hl.trans h0) (by rw [et]; exact c1) (by rw [ef]; exact c2)] at eR
        have eM : flM ops E P n k (t + 1) f ev = if (gvR ops E P n k f v).1 = true then flM ops E P n k t (gvR ops E P n k f v).2.1 (ev + (gvR ops E P n k f v).2.2) else some (false, (gvR ops E P n k f v).2.1, ev + (gvR ops E P n k f v).2.2) := eM
        rw [if_neg (by rw [c3]; decide)] at eM
        rw [eM, eR]
        exact ⟨_, rfl, rfl, fun q => Bool.noConfusion q⟩
theorem cn_rg {z : Nat → Int32} (hk5 : k ≤ 5) (hI : HIN ops E n k z) (hd : ∀ j, j < n → ops j ≠ 6 → z j ≠ -1) (hx : ∀ j, j < n → hm j = z j) : ∀ m, m ≤ n → rgC hm 0 5 m = cnR ops z m := by
  intro m
  induction m with
  | zero => exact fun _ => rfl
  | succ m ih =>
    intro hm1
    show rgC hm 0 5 m + (if ¬ hm m < nI 0 ∧ hm m < nI (0 + 5) then 1 else 0) = cnR ops z m + if ¬ ops m = 6 ∧ ¬ 10 ≤ z m then 1 else 0
    have r1 := rg_i (h := hm m) (f := 0) (m := 5) (by omega)
    rw [ih (by omega)]
    rw [hx m (by omega)] at r1 ⊢
    by_cases h6 : ops m = 6
    · rw [if_neg (show ¬ (¬ ops m = 6 ∧ ¬ 10 ≤ z m) from fun w => w.1 h6), hI.1 m (by omega) h6, if_neg (by decide)]
    · rcases hI.2.1 m (by omega) with q | ⟨q, q1, q2⟩
      · exact absurd q (hd m (by omega) h6)
      · rw [q1] at r1 ⊢
        rw [nI_toInt (by omega)] at r1
        have r2 : (10 : Int32) ≤ nI q ↔ 10 ≤ q := nI_leI (a := 10) (b := q) (by omega) (by omega)
        rcases q2 with q2 | q2
        · rw [if_pos (r1.mpr (by omega)), if_pos ⟨h6, fun w => by have := r2.mp w; omega⟩]
        · rw [if_neg (fun w => by have := r1.mp w; omega), if_neg (fun w => w.2 (r2.mpr (by omega)))]
end FIL
theorem alloc_fin {x : CS} {y : MS9} (R : Rel x y) (kk : Int32) : ∃ (T : Nat) (z : Bool × (Nat → Int32) × Nat), inB kk 1 5 = true → flM x.ops x.E x.P x.n kk.toNatClampNeg T (filF y.mde (-1) x.n) 0 = some z ∧ (FLx x kk).1 = z.1 ∧ (z.1 = true → Rel (aloX x kk.toNatClampNeg (FLx x kk)) (aloY y x.n kk.toNatClampNeg z) ∧ vF (FLx x kk).2.1 0 5 = cnR x.ops z.2.1 x.n) := by
  cases hin : inB kk 1 5 with
  | false => exact ⟨0, (false, fun _ => 0, 0), fun q => Bool.noConfusion q⟩
  | true =>
    obtain ⟨k, k1, k5, rfl⟩ := in_15 hin
    have hn := R.cod.hn
    unfold FLx
    rw [nI_clamp (by omega)]
    have hper := List.mergeSort_perm (List.range x.n) (fun a b => decide (zv (wt x.P x.E b) ≤ zv (wt x.P x.E a)))
    have hL1 : ((List.range x.n).mergeSort (fun a b => decide (zv (wt x.P x.E b) ≤ zv (wt x.P x.E a)))).Nodup := hper.nodup_iff.mpr List.nodup_range
    have hL2 := List.pairwise_mergeSort (le := fun a b => decide (zv (wt x.P x.E b) ≤ zv (wt x.P x.E a))) (fun a b c h1 h2 => by
      have h1 := of_decide_eq_true h1
      have h2 := of_decide_eq_true h2
      exact decide_eq_true (Int.le_trans h2 h1)) (fun a b => by
      rw [Bool.or_eq_true, decide_eq_true_iff, decide_eq_true_iff]
      omega) (List.range x.n)
    have hL2 : ((List.range x.n).mergeSort (fun a b => decide (zv (wt x.P x.E b) ≤ zv (wt x.P x.E a)))).Pairwise (fun a b => zv (wt x.P x.E b) ≤ zv (wt x.P x.E a)) := hL2.imp (fun h => of_decide_eq_true h)
    have hL3 : ∀ u, u ∈ (List.range x.n).mergeSort (fun a b => decide (zv (wt x.P x.E b) ≤ zv (wt x.P x.E a))) ↔ u < x.n := fun u => hper.mem_iff.trans List.mem_range
    have hlen : ((List.range x.n).mergeSort (fun a b => decide (zv (wt x.P x.E b) ≤ zv (wt x.P x.E a)))).length = x.n := by rw [List.length_mergeSort, List.length_range]
    have hPH := PH_b (adj := mt x.E) (wq x.ops (filF y.mde (-1) x.n)) ((List.range x.n).mergeSort (fun a b => decide (zv (wt x.P x.E b) ≤ zv (wt x.P x.E a))))
    rw [hlen] at hPH
    have hg := gb_m hn
    have h24 : gb 24 = 196416 := by decide +kernel
    have hlim : LIM = 1000000 := rfl
    have f1 : ∀ j, j < x.n → filF y.mde (-1) x.n j = -1 := fun j hj => filF_lt hj
    obtain ⟨z, z1, z2, z3⟩ := fil (ops := x.ops) (k := k) R.wn hn k1 k5 hL1 hL2 hL3 LIM (filF y.mde (-1) x.n) (filF x.hm2 (-1) 24) 0 ⟨fun j hj _ => f1 j hj, fun j hj => Or.inl (f1 j hj), fun i j hi _ _ _ h => absurd (f1 i hi) h⟩ (fun j hj => by rw [f1 j hj, filF_lt (by omega)]) (fun j hj _ => filF_lt hj) (by omega)
    refine ⟨LIM, z, fun _ => ⟨z1, z2, fun zt => ?_⟩⟩
    obtain ⟨a1, a2, a3, a4, a5⟩ := z3 zt
    revert a1 a2 a3
    generalize flR x.ops x.E x.P x.n k LIM (filF x.hm2 (-1) 24) 0 = FL
    intro a1 a2 a3
    refine ⟨⟨R.cod, k5, ?_, fun _ => ⟨rfl, a3.symm, fun j hj => ?_, fun j hj h6 => ?_⟩, fun q => ?_, fun j hj q => ?_, R.sc1, R.smn, R.sdn⟩, ?_⟩
    · show true = !decide (k = 0)
      rw [decide_eq_false (by omega)]; rfl
    · show cpF y.plc z.2.1 x.n j = FL.2.1 j
      have hj : j < x.n := hj
      rw [a1 j hj]
      exact if_pos hj
    · have hj : j < x.n := hj
      have h6 : x.ops j ≠ 6 := h6
      show ∃ q : Nat, FL.2.1 j = nI q ∧ (q < k ∨ (10 ≤ q ∧ q < 16))
      rw [a1 j hj]
      exact (a4.2.1 j hj).resolve_left (a5 j hj h6)
    · have q : k = 0 := q
      omega
    · show FL.2.1 j = -1
      have q : x.n ≤ j ∨ x.ops j = 6 := q
      rcases Nat.lt_or_ge j x.n with w | w
      · rw [a1 j w]
        exact a4.1 j w (q.resolve_left (by omega))
      · exact a2 j hj w
    · rw [vF_rg FL.2.1 0 5 (by omega) x.n (fun i hi => cnt_tail (by omega) hn (fun j hj hnj => a2 j hj hnj)), cn_rg k5 a4 a5 a1 x.n (Nat.le_refl _)]
