/-! giving registers: what was looked at first does not matter, the first lightest is taken -/
section GIV
variable {ops : Nat → Int32} {E P : Nat → Nat} {n k v : Nat} {f g hm : Nat → Int32}
theorem lw_ext (h : ∀ j, j < n → hm j = f j) : ∀ k, k ≤ n → lw ops E n hm k = lw ops E n f k := by
  intro k
  induction k with
  | zero => exact fun _ => rfl
  | succ k ih =>
    intro hk
    show (if iv ops n (nI k) = true ∧ hm k = -1 ∧ lwB E (lw ops E n hm k) k = true then some k else lw ops E n hm k) = if iv ops n (nI k) = true ∧ f k = -1 ∧ lwB E (lw ops E n f k) k = true then some k else lw ops E n f k
    rw [ih (by omega), h k (by omega)]
theorem hv_ext {x : Int32} (h : ∀ j, j < n → hm j = f j) : ∀ k, k ≤ n → hv E P hm v x k = hv E P f v x k := by
  intro k
  induction k with
  | zero => exact fun _ => rfl
  | succ k ih =>
    intro hk
    show (if hm k = x ∧ mt E v k = true ∧ dgt (wt P E k) (hv E P hm v x k) then wt P E k else hv E P hm v x k) = if f k = x ∧ mt E v k = true ∧ dgt (wt P E k) (hv E P f v x k) then wt P E k else hv E P f v x k
    rw [ih (by omega), h k (by omega)]
theorem trF_ext (h : ∀ j, j < n → hm j = f j) : ∀ r, trF E P hm n v r = trF E P f n v r := by
  intro r
  induction r with
  | zero => rfl
  | succ r ih =>
    show (if dlt (hv E P hm v (nI r) n) (trF E P hm n v r).2 then (some r, hv E P hm v (nI r) n) else trF E P hm n v r) = if dlt (hv E P f v (nI r) n) (trF E P f n v r).2 then (some r, hv E P f v (nI r) n) else trF E P f n v r
    rw [ih, hv_ext h n (Nat.le_refl _)]
theorem fsl_ext (h : ∀ j, j < n → hm j = f j) : ∀ k i, fsl E P hm n v i k = fsl E P f n v i k := by
  intro k
  induction k with
  | zero => exact fun _ => rfl
  | succ k ih =>
    intro i
    show (if deq (hv E P hm v (nI i) n) FP.dconst0 then some i else fsl E P hm n v (i + 1) k) = if deq (hv E P f v (nI i) n) FP.dconst0 then some i else fsl E P f n v (i + 1) k
    rw [ih, hv_ext h n (Nat.le_refl _)]
/-- the homes put out, one by one -/
theorem evH_at {x : Int32} (_ : x ≠ -1) : ∀ k j, evH E f v x k j = if j < k ∧ f j = x ∧ mt E v j = true then -1 else f j := by
  intro k
  induction k with
  | zero => intro j; rw [if_neg (fun q => absurd q.1 (Nat.not_lt_zero j))]; rfl
  | succ k ih =>
    intro j
    show (if evH E f v x k k = x ∧ mt E v k = true then upd (evH E f v x k) k (-1) else evH E f v x k) j = _
    have ek : evH E f v x k k = f k := by rw [ih, if_neg (fun q => absurd q.1 (Nat.lt_irrefl k))]
    rw [ek]
    by_cases hc : f k = x ∧ mt E v k = true
    · rw [if_pos hc]
      unfold upd
      by_cases hj : j = k
      · subst hj; rw [if_pos rfl, if_pos ⟨by omega, hc⟩]
      · rw [if_neg hj, ih]
        by_cases h2 : j < k ∧ f j = x ∧ mt E v j = true
        · rw [if_pos h2, if_pos ⟨by omega, h2.2⟩]
        · rw [if_neg h2, if_neg (fun q => h2 ⟨by omega, q.2⟩)]
    · rw [if_neg hc, ih]
      by_cases h2 : j < k ∧ f j = x ∧ mt E v j = true
      · rw [if_pos h2, if_pos ⟨by omega, h2.2⟩]
      · rw [if_neg h2, if_neg]
        rintro ⟨q1, q2⟩
        rcases Nat.lt_or_ge j k with z | z
        · exact h2 ⟨z, q2⟩
        · rw [show j = k by omega] at q2; exact hc q2
theorem evH_kk {x : Int32} (hx : x ≠ -1) (k : Nat) : evH E f v x k k = f k := by
  rw [evH_at hx, if_neg (fun q => absurd q.1 (Nat.lt_irrefl k))]
theorem evC_ext {x : Int32} (hx : x ≠ -1) (h : ∀ j, j < n → hm j = f j) : ∀ k, k ≤ n → evC E hm v x k = evC E f v x k := by
  intro k
  induction k with
  | zero => exact fun _ => rfl
  | succ k ih =>
    intro hk
    show evC E hm v x k + (if evH E hm v x k k = x ∧ mt E v k = true then 1 else 0) = evC E f v x k + if evH E f v x k k = x ∧ mt E v k = true then 1 else 0
    rw [ih (by omega), evH_kk hx, evH_kk hx, h k (by omega)]
theorem evC_free {x : Int32} (hx : x ≠ -1) (h : ∀ j, j < n → ¬ (f j = x ∧ mt E v j = true)) : ∀ k, k ≤ n → evC E f v x k = 0 := by
  intro k
  induction k with
  | zero => exact fun _ => rfl
  | succ k ih =>
    intro hk
    show evC E f v x k + (if evH E f v x k k = x ∧ mt E v k = true then 1 else 0) = 0
    rw [ih (by omega), evH_kk hx, if_neg (h k (by omega))]
theorem evH_free {x : Int32} (hx : x ≠ -1) (h : ∀ j, j < n → ¬ (f j = x ∧ mt E v j = true)) : evH E f v x n = f := by
  funext j
  rw [evH_at hx, if_neg (fun q => h j q.1 q.2)]
/-- the heaviest -/
theorem hv_nn {x : Int32} (hw : ∀ j, j < n → nn (wt P E j) ∧ 0 < zv (wt P E j)) : ∀ k, k ≤ n → nn (hv E P f v x k) ∧ 0 ≤ zv (hv E P f v x k) ∧ (∀ j, j < k → f j = x → mt E v j = true → zv (wt P E j) ≤ zv (hv E P f v x k)) ∧ ((∀ j, j < k → ¬ (f j = x ∧ mt E v j = true)) → zv (hv E P f v x k) = 0) := by
  intro k
  induction k with
  | zero => exact fun _ => ⟨nn_0, by show 0 ≤ zv FP.dconst0; rw [zv_0]; exact Int.le_refl 0, fun j hj => absurd hj (Nat.not_lt_zero j), fun _ => zv_0⟩
  | succ k ih =>
    intro hk
    obtain ⟨h1, h2, h3, h4⟩ := ih (by omega)
    obtain ⟨w1, w2⟩ := hw k (by omega)
    have e : hv E P f v x (k + 1) = if f k = x ∧ mt E v k = true ∧ dgt (wt P E k) (hv E P f v x k) then wt P E k else hv E P f v x k := rfl
    rw [e]
    by_cases hc : f k = x ∧ mt E v k = true
    · by_cases hd : dgt (wt P E k) (hv E P f v x k)
      · rw [if_pos ⟨hc.1, hc.2, hd⟩]
        rw [dgt_iff w1 h1] at hd
        refine ⟨w1, by omega, fun j hj a b => ?_, fun q => absurd hc (q k (by omega))⟩
        rcases Nat.lt_or_ge j k with z | z
        · have := h3 j z a b; omega
        · rw [show j = k by omega]; exact Int.le_refl _
      · rw [if_neg (fun q => hd q.2.2)]
        rw [dgt_iff w1 h1] at hd
        refine ⟨h1, h2, fun j hj a b => ?_, fun q => absurd hc (q k (by omega))⟩
        rcases Nat.lt_or_ge j k with z | z
        · exact h3 j z a b
        · rw [show j = k by omega]; omega
    · rw [if_neg (fun q => hc ⟨q.1, q.2.1⟩)]
      refine ⟨h1, h2, fun j hj a b => ?_, fun q => h4 (fun j hj => q j (by omega))⟩
      rcases Nat.lt_or_ge j k with z | z
      · exact h3 j z a b
      · rw [show j = k by omega] at a b; exact absurd ⟨a, b⟩ hc
theorem hv_free {x : Int32} (hw : ∀ j, j < n → nn (wt P E j) ∧ 0 < zv (wt P E j)) : zv (hv E P f v x n) = 0 ↔ ∀ j, j < n → ¬ (f j = x ∧ mt E v j = true) := by
  obtain ⟨h1, h2, h3, h4⟩ := hv_nn (f := f) (v := v) (x := x) hw n (Nat.le_refl _)
  refine ⟨fun h j hj q => ?_, h4⟩
  have a := h3 j hj q.1 q.2
  have b := (hw j hj).2
  omega
theorem hvM_eq {x : Int32} (hx : x ≠ -1) (hv1 : f v = -1) (hs : ∀ j, j < n → ops j = 6 → f j = -1) : ∀ k, k ≤ n → hvM ops E P f v x k = hv E P f v x k := by
  intro k
  induction k with
  | zero => exact fun _ => rfl
  | succ k ih =>
    intro hk
    show (if (f k = x ∧ k ≠ v ∧ ops k ≠ 6 ∧ mt E v k = true) ∧ dgt (wt P E k) (hvM ops E P f v x k) then wt P E k else hvM ops E P f v x k) = if f k = x ∧ mt E v k = true ∧ dgt (wt P E k) (hv E P f v x k) then wt P E k else hv E P f v x k
    rw [ih (by omega)]
    by_cases hc : f k = x ∧ mt E v k = true ∧ dgt (wt P E k) (hv E P f v x k)
    · rw [if_pos hc, if_pos]
      refine ⟨⟨hc.1, fun q => ?_, fun q => ?_, hc.2.1⟩, hc.2.2⟩
      · subst q; exact hx (hc.1.symm.trans hv1)
      · exact hx (hc.1.symm.trans (hs k (by omega) q))
    · rw [if_neg hc, if_neg (fun q => hc ⟨q.1.1, q.1.2.2.2, q.2⟩)]
theorem frB_iff {x : Int32} (hx : x ≠ -1) (hv1 : f v = -1) (hs : ∀ j, j < n → ops j = 6 → f j = -1) : ∀ k, k ≤ n → (frB ops E f v x k = true ↔ ∀ j, j < k → ¬ (f j = x ∧ mt E v j = true)) := by
  intro k
  induction k with
  | zero => exact fun _ => ⟨fun _ j hj => absurd hj (Nat.not_lt_zero j), fun _ => rfl⟩
  | succ k ih =>
    intro hk
    show (frB ops E f v x k && !(decide (f k = x ∧ k ≠ v ∧ ops k ≠ 6 ∧ mt E v k = true))) = true ↔ _
    rw [Bool.and_eq_true, ih (by omega), Bool.not_eq_true', decide_eq_false_iff_not]
    constructor
    · rintro ⟨h1, h2⟩ j hj q
      rcases Nat.lt_or_ge j k with z | z
      · exact h1 j z q
      · rw [show j = k by omega] at q
        refine h2 ⟨q.1, fun w => ?_, fun w => ?_, q.2⟩
        · subst w; exact hx (q.1.symm.trans hv1)
        · exact hx (q.1.symm.trans (hs k (by omega) w))
    · exact fun h => ⟨fun j hj => h j (by omega), fun q => h k (by omega) ⟨q.1, q.2.2.2⟩⟩
/-- b is the first least of the first r -/
def AM (h : Nat → Int) (b r : Nat) : Prop := b < r ∧ (∀ i, i < r → h b ≤ h i) ∧ (∀ i, i < b → h b < h i)
theorem AM_u {h : Nat → Int} {b c r : Nat} (h1 : AM h b r) (h2 : AM h c r) : b = c := by
  rcases Nat.lt_trichotomy b c with z | z | z
  · have a := h2.2.2 b z; have b := h1.2.1 c h2.1; omega
  · exact z
  · have a := h1.2.2 c z; have b := h2.2.1 b h1.1; omega
theorem trF_am (hw : ∀ j, j < n → nn (wt P E j) ∧ 0 < zv (wt P E j)) (hv2 : v < n) : ∀ r, nn (trF E P f n v r).2 ∧ (((trF E P f n v r).1 = none ∧ zv (trF E P f n v r).2 = zv (wt P E v) ∧ ∀ i, i < r → zv (wt P E v) ≤ zv (hv E P f v (nI i) n)) ∨ ∃ b, (trF E P f n v r).1 = some b ∧ AM (fun i => zv (hv E P f v (nI i) n)) b r ∧ zv (hv E P f v (nI b) n) < zv (wt P E v) ∧ zv (trF E P f n v r).2 = zv (hv E P f v (nI b) n)) := by
  intro r
  induction r with
  | zero => exact ⟨(hw v hv2).1, Or.inl ⟨rfl, rfl, fun i hi => absurd hi (Nat.not_lt_zero i)⟩⟩
  | succ r ih =>
    have hn := (hv_nn (f := f) (v := v) (x := nI r) hw n (Nat.le_refl _)).1
    have e : trF E P f n v (r + 1) = if dlt (hv E P f v (nI r) n) (trF E P f n v r).2 then (some r, hv E P f v (nI r) n) else trF E P f n v r := rfl
    rw [e]
    obtain ⟨h1, h2⟩ := ih
    by_cases hd : dlt (hv E P f v (nI r) n) (trF E P f n v r).2
    · rw [if_pos hd]
      rw [dlt_iff hn h1] at hd
      refine ⟨hn, Or.inr ⟨r, rfl, ?_, ?_, rfl⟩⟩
      · rcases h2 with ⟨a, b, c⟩ | ⟨b, a, c, d, g⟩
        · refine ⟨by omega, fun i hi => ?_, fun i hi => ?_⟩
          · rcases Nat.lt_or_ge i r with z | z
            · have := c i z; show zv (hv E P f v (nI r) n) ≤ zv (hv E P f v (nI i) n); omega
            · rw [show i = r by omega]; exact Int.le_refl _
          · have := c i hi; show zv (hv E P f v (nI r) n) < zv (hv E P f v (nI i) n); omega
        · refine ⟨by omega, fun i hi => ?_, fun i hi => ?_⟩
          · rcases Nat.lt_or_ge i r with z | z
            · have := c.2.1 i z
              show zv (hv E P f v (nI r) n) ≤ zv (hv E P f v (nI i) n)
              have t : zv (hv E P f v (nI b) n) ≤ zv (hv E P f v (nI i) n) := this
              omega
            · rw [show i = r by omega]; exact Int.le_refl _
          · have t : zv (hv E P f v (nI b) n) ≤ zv (hv E P f v (nI i) n) := c.2.1 i hi
            show zv (hv E P f v (nI r) n) < zv (hv E P f v (nI i) n)
            omega
      · rcases h2 with ⟨a, b, c⟩ | ⟨b, a, c, d, g⟩ <;> omega
    · rw [if_neg hd]
      rw [dlt_iff hn h1] at hd
      refine ⟨h1, ?_⟩
      rcases h2 with ⟨a, b, c⟩ | ⟨b, a, c, d, g⟩
      · refine Or.inl ⟨a, b, fun i hi => ?_⟩
        rcases Nat.lt_or_ge i r with z | z
        · exact c i z
        · rw [show i = r by omega]; omega
      · refine Or.inr ⟨b, a, ⟨by have := c.1; omega, fun i hi => ?_, c.2.2⟩, d, g⟩
        rcases Nat.lt_or_ge i r with z | z
        · exact c.2.1 i z
        · rw [show i = r by omega]
          show zv (hv E P f v (nI b) n) ≤ zv (hv E P f v (nI r) n)
          omega
theorem bsM_am (hw : ∀ j, j < n → nn (wt P E j) ∧ 0 < zv (wt P E j)) (hv1 : f v = -1) (hs : ∀ j, j < n → ops j = 6 → f j = -1) : ∀ r, 1 ≤ r → r ≤ 24 → AM (fun i => zv (hv E P f v (nI i) n)) (bsM ops E P f n v r) r := by
  intro r
  induction r with
  | zero => intro h; omega
  | succ r ih =>
    intro _ h24
    have e : bsM ops E P f n v (r + 1) = if r = 0 then 0 else if dlt (hvM ops E P f v (nI r) n) (hvM ops E P f v (nI (bsM ops E P f n v r)) n) then r else bsM ops E P f n v r := rfl
    rw [e]
    by_cases h0 : r = 0
    · subst h0
      rw [if_pos rfl]
      exact ⟨by omega, fun i hi => by rw [show i = 0 by omega]; exact Int.le_refl _, fun i hi => absurd hi (Nat.not_lt_zero i)⟩
    · rw [if_neg h0]
      obtain ⟨a, b, c⟩ := ih (by omega) (by omega)
      revert a b c
      generalize bsM ops E P f n v r = m
      intro a b c
      rw [hvM_eq (fun q => nI_m1 (by omega) q.symm) hv1 hs n (Nat.le_refl _), hvM_eq (fun q => nI_m1 (by omega) q.symm) hv1 hs n (Nat.le_refl _)]
      have hdi := dlt_iff (hv_nn (f := f) (v := v) (x := nI r) hw n (Nat.le_refl _)).1 (hv_nn (f := f) (v := v) (x := nI m) hw n (Nat.le_refl _)).1
      have b' : ∀ i, i < r → zv (hv E P f v (nI m) n) ≤ zv (hv E P f v (nI i) n) := b
      by_cases hd : dlt (hv E P f v (nI r) n) (hv E P f v (nI m) n)
      · rw [if_pos hd]
        rw [hdi] at hd
        refine ⟨by omega, fun i hi => ?_, fun i hi => ?_⟩
        · show zv (hv E P f v (nI r) n) ≤ zv (hv E P f v (nI i) n)
          rcases Nat.lt_or_ge i r with z | z
          · have := b' i z; omega
          · rw [show i = r by omega]; exact Int.le_refl _
        · show zv (hv E P f v (nI r) n) < zv (hv E P f v (nI i) n)
          have := b' i hi; omega
      · rw [if_neg hd]
        rw [hdi] at hd
        refine ⟨by omega, fun i hi => ?_, c⟩
        show zv (hv E P f v (nI m) n) ≤ zv (hv E P f v (nI i) n)
        rcases Nat.lt_or_ge i r with z | z
        · exact b' i z
        · rw [show i = r by omega]; omega
theorem fs_eq (hw : ∀ j, j < n → nn (wt P E j) ∧ 0 < zv (wt P E j)) (hv1 : f v = -1) (hs : ∀ j, j < n → ops j = 6 → f j = -1) : ∀ k i, i + k < 2 ^ 31 → fsl E P f n v i k = fsM ops E f n v i k := by
  intro k
  induction k with
  | zero => exact fun _ _ => rfl
  | succ k ih =>
    intro i hb
    show (if deq (hv E P f v (nI i) n) FP.dconst0 then some i else fsl E P f n v (i + 1) k) = if frB ops E f v (nI i) n = true then some i else fsM ops E f n v (i + 1) k
    rw [ih (i + 1) (by omega)]
    have h1 : deq (hv E P f v (nI i) n) FP.dconst0 ↔ frB ops E f v (nI i) n = true := by
      rw [deq_iff (hv_nn hw n (Nat.le_refl _)).1 nn_0, zv_0, hv_free hw, frB_iff (fun q => nI_m1 (by omega) q.symm) hv1 hs n (Nat.le_refl _)]
    by_cases h2 : frB ops E f v (nI i) n = true
    · rw [if_pos h2, if_pos (h1.mpr h2)]
    · rw [if_neg h2, if_neg (fun q => h2 (h1.mp q))]
theorem fsM_y' : ∀ k i q, fsM ops E f n v i k = some q → frB ops E f v (nI q) n = true ∧ i ≤ q ∧ q < i + k ∧ ∀ j, i ≤ j → j < q → ¬ frB ops E f v (nI j) n = true := by
  intro k
  induction k with
  | zero => intro i q h; cases h
  | succ k ih =>
    intro i q h
    have e : fsM ops E f n v i (k + 1) = if frB ops E f v (nI i) n = true then some i else fsM ops E f n v (i + 1) k := rfl
    rw [e] at h
    by_cases h2 : frB ops E f v (nI i) n = true
    · rw [if_pos h2] at h
      cases h
      exact ⟨h2, by omega, by omega, fun j h3 h4 => by omega⟩
    · rw [if_neg h2] at h
      obtain ⟨a, b, c, d⟩ := ih (i + 1) q h
      refine ⟨a, by omega, by omega, fun j h3 h4 => ?_⟩
      rcases Nat.lt_or_ge i j with z | z
      · exact d j z h4
      · rw [show j = i by omega]; exact h2
theorem fsM_n' : ∀ k i, fsM ops E f n v i k = none → ∀ j, i ≤ j → j < i + k → ¬ frB ops E f v (nI j) n = true := by
  intro k
  induction k with
  | zero => intro i _ j h1 h2; omega
  | succ k ih =>
    intro i h j h1 h2
    have e : fsM ops E f n v i (k + 1) = if frB ops E f v (nI i) n = true then some i else fsM ops E f n v (i + 1) k := rfl
    rw [e] at h
    by_cases h3 : frB ops E f v (nI i) n = true
    · rw [if_pos h3] at h; cases h
    · rw [if_neg h3] at h
      rcases Nat.lt_or_ge i j with z | z
      · exact ih (i + 1) h j z (by omega)
      · rw [show j = i by omega]; exact h3
/-- one look gives the same to both -/
theorem giv (hw : ∀ j, j < n → nn (wt P E j) ∧ 0 < zv (wt P E j)) (hv1 : f v = -1) (hs : ∀ j, j < n → ops j = 6 → f j = -1) (hv2 : v < n) (hk1 : 1 ≤ k) (hk5 : k ≤ 5) :
    (∃ c, (c < k ∨ (10 ≤ c ∧ c < 16)) ∧ (∀ u, u < n → f u = nI c → mt E v u = true → zv (wt P E u) < zv (wt P E v)) ∧ gvR ops E P n k f v = (true, upd (evH E f v (nI c) n) v (nI c), evC E f v (nI c) n) ∧
      ((trF E P f n v (mayR ops E n v k)).1 = some c ∨ ((trF E P f n v (mayR ops E n v k)).1 = none ∧ fsl E P f n v 10 6 = some c ∧ ∀ j, j < n → ¬ (f j = nI c ∧ mt E v j = true))))
    ∨ ((trF E P f n v (mayR ops E n v k)).1 = none ∧ fsl E P f n v 10 6 = none ∧ (gvR ops E P n k f v).1 = false) := by
  have hr1 := mayR_1 (ops := ops) (E := E) (n := n) (v := v) hk1
  have hr2 := mayR_le ops E n v k
  revert hr1 hr2
  generalize hr : mayR ops E n v k = r
  intro hr1 hr2
  have hwv := (hw v hv2).2
  have hb := bsM_am (ops := ops) hw hv1 hs r hr1 (by omega)
  obtain ⟨ht1, ht2⟩ := trF_am (f := f) hw hv2 r
  cases h1 : fsM ops E f n v 0 r with
  | some q =>
    obtain ⟨a, -, b, c⟩ := fsM_y' _ _ _ h1
    have hq : q < r := by omega
    have m1 : nI q ≠ -1 := fun z => nI_m1 (by omega) z.symm
    rw [frB_iff m1 hv1 hs n (Nat.le_refl _)] at a
    have z0 := (hv_free (f := f) (v := v) (x := nI q) hw).mpr a
    have ham : AM (fun i => zv (hv E P f v (nI i) n)) q r := by
      refine ⟨hq, fun i hi => ?_, fun i hi => ?_⟩
      · have := (hv_nn (f := f) (v := v) (x := nI i) hw n (Nat.le_refl _)).2.1
        show zv (hv E P f v (nI q) n) ≤ zv (hv E P f v (nI i) n)
        omega
      · have h2 := (hv_nn (f := f) (v := v) (x := nI i) hw n (Nat.le_refl _)).2.1
        have h3 := c i (by omega) hi
        rw [frB_iff (fun z => nI_m1 (by omega) z.symm) hv1 hs n (Nat.le_refl _), ← hv_free hw] at h3
        show zv (hv E P f v (nI q) n) < zv (hv E P f v (nI i) n)
        omega
    refine Or.inl ⟨q, Or.inl (by omega), fun u hu e1 e2 => absurd ⟨e1, e2⟩ (a u hu), ?_, Or.inl ?_⟩
    · rw [gvR_1 (by rw [hr]; exact h1), evH_free m1 a, evC_free m1 a n (Nat.le_refl _)]
    · rcases ht2 with ⟨-, -, t3⟩ | ⟨b, t1, t2, -, -⟩
      · have := t3 q hq; omega
      · rw [t1, AM_u ham t2]
  | none =>
    have hbq : bsM ops E P f n v r < r := hb.1
    have m1 : nI (bsM ops E P f n v r) ≠ -1 := fun z => nI_m1 (by omega) z.symm
    have hnn := hv_nn (f := f) (v := v) (x := nI (bsM ops E P f n v r)) hw n (Nat.le_refl _)
    have hdl : dlt (hvM ops E P f v (nI (bsM ops E P f n v r)) n) (wt P E v) ↔ zv (hv E P f v (nI (bsM ops E P f n v r)) n) < zv (wt P E v) := by
      rw [hvM_eq m1 hv1 hs n (Nat.le_refl _), dlt_iff hnn.1 (hw v hv2).1]
    rcases ht2 with ⟨t1, -, t3⟩ | ⟨b, t1, t2, t3, -⟩
    · have hnl : ¬ dlt (hvM ops E P f v (nI (bsM ops E P f n v r)) n) (wt P E v) := fun q => by
        have := t3 _ hbq
        have := hdl.mp q
        omega
      have hfe := fs_eq (P := P) hw hv1 hs 6 10 (by omega)
      cases h2 : fsM ops E f n v 10 6 with
      | some q =>
        obtain ⟨a, a1, a2, -⟩ := fsM_y' _ _ _ h2
        have m2 : nI q ≠ -1 := fun z => nI_m1 (by omega) z.symm
        rw [frB_iff m2 hv1 hs n (Nat.le_refl _)] at a
        refine Or.inl ⟨q, Or.inr (by omega), fun u hu e1 e2 => absurd ⟨e1, e2⟩ (a u hu), ?_, Or.inr ⟨t1, hfe.trans h2, a⟩⟩
        rw [gvR_3 (by rw [hr]; exact h1) rfl (by rw [hr]; exact hnl) h2, evH_free m2 a, evC_free m2 a n (Nat.le_refl _)]
      | none =>
        refine Or.inr ⟨t1, hfe.trans h2, ?_⟩
        rw [gvR_4 (by rw [hr]; exact h1) rfl (by rw [hr]; exact hnl) h2]
    · have eb : b = bsM ops E P f n v r := AM_u t2 hb
      refine Or.inl ⟨b, Or.inl (by have := t2.1; omega), fun u hu e1 e2 => ?_, ?_, Or.inl t1⟩
      · have := (hv_nn (f := f) (v := v) (x := nI b) hw n (Nat.le_refl _)).2.2.1 u hu e1 e2
        omega
      · exact gvR_2 (by rw [hr]; exact h1) (by rw [hr]; exact eb) (by rw [eb]; rw [eb] at t3; exact hdl.mpr t3)
end GIV
