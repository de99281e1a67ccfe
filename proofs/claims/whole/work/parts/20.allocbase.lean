/-! static calls that change cells; calls that answer a reference; words for an allocation -/
section WCS
variable {p : Program} {l : Launch} {e : Env} {R : Room} {s : State} {m : MethodId} {args : Array Value} {below : List Frame} {meth : Method} {c : Code} {H : Heap} {locs : List Loc} {cells slots : Nat} {Q : State → Prop}
variable {y : MethodName} {bytes cc : ByteArray} {maxL nL mc ms n index : Nat} {ret : Option FieldType} {ws : List Cond} {rm : Room} {Ts : List Cond} {own C : String} {b : Addr} {As rest st0 : List Value} {pc : Nat} {ls : Array Slot}
variable {D : va_G} {cl : List vw_C} {wc : va_W} {tc : List (ClassId × FieldType)}
theorem rdVr {x : Nat} {ci q0 : Nat} {fs : List Value} {T : u_T} {N : Nat} (S : CallFix p m c cc nL s args Ts own) (hM : Met l y ws rm (va_Pc (.ref b :: As) (PB D cl wc tc)) (k2_QcV (.ref x)) 0 0 (fun _ => False)) (cw : CallW R s args own C index y bytes maxL ret ws rm 0 0 n)
    (hK : va_K D cl tc s) (hP : va_P D cl wc H) (hc : cl[ci]? = some (C, T, N)) (he : wc[q0]? = some (b, .inr (ci, fs))) (hn : As.length = n) (hsize : ls.size = nL) (hst : st0 = As.reverse ++ .ref b :: rest) (hW : 2 * (F0 m pc ls rest).monitorRoom + (rest.map fun v => v.category).sum ≤ 8) (hdg : decode cc pc = .ok (.invokevirtual index, 3)) (hf : cells + 0 ≤ R.cells ∧ slots + 0 ≤ R.slots)
    (kk : W p l e R s m args below meth c H locs cells slots Q (F0 m (pc + 3) ls (.ref x :: rest))) : W p l e R s m args below meth c H locs cells slots Q (F0 m pc ls st0) :=
  W.callV (W.runV (g := F0 m pc ls st0) S hM cw (PB_V hK hP hc he) rfl hn hsize hst hW hdg hf) (W.eq (g2 := F0 m (pc + 3) ls (.ref x :: rest)) rfl kk)
variable {S' : Type} {post : S' → Prop} {wp : S' → va_W} {w0 wr : va_W} {A : Nat → Prop} {H0 : Heap}
theorem chSv (S : CallFix p m c cc nL s args Ts own)
    (hM : Met l y ws rm (va_Pc As (PM D cl wc tc H.size)) (va_Qv post (MB D cl wp tc (va_A wc H.size)) (va_A wc H.size)) mc ms (va_A wc H.size)) (cw : CallB R s args own index y bytes maxL ret ws rm mc ms n ∧ (Cond.static y).before args s = true)
    (hK : va_K D cl tc s) (hP : va_P D cl w0 H) (hD : va_D A w0) (hS : va_S A H0 H locs) (hA : ∀ q, H0.size ≤ q → A q) (isC isR : List Nat) (hC : isC.map (fun i => w0[i]?) = wc.map some) (hR : isR.map (fun i => w0[i]?) = wr.map some) (hnc : va_nd isC = true) (hnr : va_nd isR = true) (hdis : ∀ i ∈ isR, i ∉ isC)
    (hn : As.length = n) (hsize : ls.size = nL) (hst : st0 = As.reverse ++ rest) (hW : 2 * (F0 m pc ls rest).monitorRoom + (rest.map fun v => v.category).sum ≤ 8) (hdg : decode cc pc = .ok (.invokestatic index, 3)) (hf : cells + mc ≤ R.cells ∧ slots + ms ≤ R.slots)
    (kk : ∀ (u : S') (H1 : Heap) (locs1 : List Loc), post u → va_P D cl (wr ++ wp u) H1 → va_D A (wr ++ wp u) → va_S A H0 H1 locs1 → W p l e R s m args below meth c H1 locs1 (cells + mc) (slots + ms) Q (F0 m (pc + 3) ls rest)) :
    W p l e R s m args below meth c H locs cells slots Q (F0 m pc ls st0) := by
  have hPc := hP.sub isC (sub_of isC hC)
  have hDc := hD.sub isC hnc hC
  have hFc := va_free (wc := wc) hD hS hA isC hC
  refine va_callv (va_runS (g := F0 m pc ls st0) S hM cw (PM_S hK hPc hDc) rfl hn hsize hst hW hdg hf) hS (fun q _ h => hFc q h) hFc (fun u t H1 locs1 ht hvm hw hB hz1 hk1 hS1 => ?_)
  obtain ⟨hP1, -, hD1⟩ := hB
  rw [ht] at hP1
  obtain ⟨hP2, hD2⟩ := va_join (wr := wr) (w1 := wp u) hP hD isC isR hC hR hnr hdis hk1 hFc hP1 hD1
  exact kk u H1 locs1 hw hP2 hD2 hS1
end WCS
def filF (f : Nat → Int32) (v : Int32) (n : Nat) : Nat → Int32 := fun j => if j < n then v else f j
theorem filF_0 (f : Nat → Int32) (v : Int32) : filF f v 0 = f := funext fun j => if_neg (Nat.not_lt_zero j)
theorem filF_s (f : Nat → Int32) (v : Int32) (i : Nat) : upd (filF f v i) i v = filF f v (i + 1) := by
  funext j
  unfold upd filF
  by_cases h : j = i
  · rw [if_pos h, if_pos (by omega)]
  · rw [if_neg h]
    by_cases h2 : j < i
    · rw [if_pos h2, if_pos (by omega)]
    · rw [if_neg h2, if_neg (by omega)]
theorem filF_lt {f : Nat → Int32} {v : Int32} {n j : Nat} (h : j < n) : filF f v n j = v := if_pos h
/-- how many of the first k homes are this one -/
def cnt (hm : Nat → Int32) (x : Int32) : Nat → Nat
  | 0 => 0
  | k + 1 => cnt hm x k + if hm k = x then 1 else 0
theorem cnt_y {hm : Nat → Int32} {x : Int32} {k a : Nat} (ha : a = cnt hm x k) (h : hm k = x) : a + 1 = cnt hm x (k + 1) := by
  rw [ha]; show _ = cnt hm x k + _; rw [if_pos h]
theorem cnt_n {hm : Nat → Int32} {x : Int32} {k a : Nat} (ha : a = cnt hm x k) (h : ¬ hm k = x) : a = cnt hm x (k + 1) := by
  rw [ha]; show _ = cnt hm x k + _; rw [if_neg h]; rfl
theorem cnt_le (hm : Nat → Int32) (x : Int32) (k : Nat) : cnt hm x k ≤ k := by
  induction k with
  | zero => exact Nat.le_refl 0
  | succ k ih =>
    show cnt hm x k + _ ≤ k + 1
    split <;> omega
/-- values in the homes from first on, k of them -/
def vF (hm : Nat → Int32) (first : Nat) : Nat → Nat
  | 0 => 0
  | k + 1 => vF hm first k + cnt hm (nI (first + k)) 24
/-- homes in use -/
def hU (hm : Nat → Int32) (first : Nat) : Nat → Nat
  | 0 => 0
  | k + 1 => hU hm first k + if 0 < cnt hm (nI (first + k)) 24 then 1 else 0
theorem hU_y {hm : Nat → Int32} {f k a : Nat} (ha : a = hU hm f k) (h : 0 < cnt hm (nI (f + k)) 24) : a + 1 = hU hm f (k + 1) := by
  rw [ha]; show _ = hU hm f k + _; rw [if_pos h]
theorem hU_n {hm : Nat → Int32} {f k a : Nat} (ha : a = hU hm f k) (h : ¬ 0 < cnt hm (nI (f + k)) 24) : a = hU hm f (k + 1) := by
  rw [ha]; show _ = hU hm f k + _; rw [if_neg h]; rfl
/-! doubles compared -/
abbrev dlt (x y : UInt64) : Prop := FP.dcmp x y = some .lt
abbrev dgt (x y : UInt64) : Prop := FP.dcmp x y = some .gt
abbrev deq (x y : UInt64) : Prop := FP.dcmp x y = some .eq
theorem dlt_of {x y : UInt64} (h : ¬ 0 ≤ Op.cmpValue (FP.dcmp x y) .g) : dlt x y := by
  unfold dlt
  cases hd : FP.dcmp x y with
  | none => rw [hd] at h; exact absurd (by decide) h
  | some o => cases o with
    | lt => rfl
    | eq => rw [hd] at h; exact absurd (by decide) h
    | gt => rw [hd] at h; exact absurd (by decide) h
theorem dlt_n {x y : UInt64} (h : 0 ≤ Op.cmpValue (FP.dcmp x y) .g) : ¬ dlt x y := by
  intro q
  unfold dlt at q
  rw [q] at h
  exact absurd h (by decide)
theorem dgt_of {x y : UInt64} (h : ¬ Op.cmpValue (FP.dcmp x y) .l ≤ 0) : dgt x y := by
  unfold dgt
  cases hd : FP.dcmp x y with
  | none => rw [hd] at h; exact absurd (by decide) h
  | some o => cases o with
    | gt => rfl
    | eq => rw [hd] at h; exact absurd (by decide) h
    | lt => rw [hd] at h; exact absurd (by decide) h
theorem dgt_n {x y : UInt64} (h : Op.cmpValue (FP.dcmp x y) .l ≤ 0) : ¬ dgt x y := by
  intro q
  unfold dgt at q
  rw [q] at h
  exact absurd h (by decide)
theorem deq_of {x y : UInt64} (h : Op.cmpValue (FP.dcmp x y) .l = 0) : deq x y := by
  unfold deq
  cases hd : FP.dcmp x y with
  | none => rw [hd] at h; exact absurd h (by decide)
  | some o => cases o with
    | eq => rfl
    | gt => rw [hd] at h; exact absurd h (by decide)
    | lt => rw [hd] at h; exact absurd h (by decide)
theorem deq_n {x y : UInt64} (h : ¬ Op.cmpValue (FP.dcmp x y) .l = 0) : ¬ deq x y := by
  intro q
  unfold deq at q
  rw [q] at h
  exact h (by decide)
/-- the heaviest of the first k values that live in a home and meet v -/
def hv (E P : Nat → Nat) (hm : Nat → Int32) (v : Nat) (x : Int32) : Nat → UInt64
  | 0 => FP.dconst0
  | k + 1 => if hm k = x ∧ mt E v k = true ∧ dgt (wt P E k) (hv E P hm v x k) then wt P E k else hv E P hm v x k
theorem hv_y {E P : Nat → Nat} {hm : Nat → Int32} {v k : Nat} {x : Int32} {a : UInt64} (ha : a = hv E P hm v x k) (h1 : hm k = x) (h2 : mt E v k = true) (h3 : dgt (wt P E k) a) : wt P E k = hv E P hm v x (k + 1) := by
  subst ha
  exact (if_pos ⟨h1, h2, h3⟩).symm
theorem hv_n {E P : Nat → Nat} {hm : Nat → Int32} {v k : Nat} {x : Int32} {a : UInt64} (ha : a = hv E P hm v x k) (h : ¬ hm k = x ∨ mt E v k = false ∨ ¬ dgt (wt P E k) a) : a = hv E P hm v x (k + 1) := by
  subst ha
  refine (if_neg ?_).symm
  rintro ⟨h1, h2, h3⟩
  rcases h with h | h | h
  · exact h h1
  · rw [h] at h2; cases h2
  · exact h h3
/-- the homes with those put out that live in x and meet v, of the first k; and how many they are -/
def evH (E : Nat → Nat) (hm : Nat → Int32) (v : Nat) (x : Int32) : Nat → Nat → Int32
  | 0 => hm
  | k + 1 => if evH E hm v x k k = x ∧ mt E v k = true then upd (evH E hm v x k) k (-1) else evH E hm v x k
def evC (E : Nat → Nat) (hm : Nat → Int32) (v : Nat) (x : Int32) : Nat → Nat
  | 0 => 0
  | k + 1 => evC E hm v x k + if evH E hm v x k k = x ∧ mt E v k = true then 1 else 0
theorem ev_y {E : Nat → Nat} {hm f : Nat → Int32} {v k a : Nat} {x : Int32} (hf : f = evH E hm v x k) (h1 : f k = x) (h2 : mt E v k = true) : upd f k (-1) = evH E hm v x (k + 1) := by
  subst hf
  exact (if_pos ⟨h1, h2⟩).symm
theorem ev_n {E : Nat → Nat} {hm f : Nat → Int32} {v k : Nat} {x : Int32} (hf : f = evH E hm v x k) (h : ¬ f k = x ∨ mt E v k = false) : f = evH E hm v x (k + 1) := by
  subst hf
  refine (if_neg ?_).symm
  rintro ⟨h1, h2⟩
  rcases h with h | h
  · exact h h1
  · rw [h] at h2; cases h2
theorem evC_y {E : Nat → Nat} {hm f : Nat → Int32} {v k b a : Nat} {x : Int32} (hf : f = evH E hm v x k) (ha : a = b + evC E hm v x k) (h1 : f k = x) (h2 : mt E v k = true) : a + 1 = b + evC E hm v x (k + 1) := by
  subst hf; subst ha
  show _ = b + (evC E hm v x k + _)
  rw [if_pos ⟨h1, h2⟩]
  omega
theorem evC_n {E : Nat → Nat} {hm f : Nat → Int32} {v k b a : Nat} {x : Int32} (hf : f = evH E hm v x k) (ha : a = b + evC E hm v x k) (h : ¬ f k = x ∨ mt E v k = false) : a = b + evC E hm v x (k + 1) := by
  subst hf; subst ha
  show _ = b + (evC E hm v x k + _)
  rw [if_neg]
  · omega
  · rintro ⟨h1, h2⟩
    rcases h with h | h
    · exact h h1
    · rw [h] at h2; cases h2
/-- the one that waits longest, of the first k -/
def oI : Option Nat → Int32
  | none => -1
  | some b => nI b
theorem oI_m1 {o : Option Nat} (h : oI o = -1) (hb : ∀ b, o = some b → b < 2 ^ 31) : o = none := by
  cases o with
  | none => rfl
  | some b =>
    have h0 : ¬ nI b < 0 := nI_pos (hb b rfl)
    have h1 : nI b = -1 := h
    rw [h1] at h0
    exact absurd (by decide) h0
theorem oI_some {o : Option Nat} (h : ¬ oI o = -1) : ∃ b, o = some b := by
  cases o with
  | none => exact absurd rfl h
  | some b => exact ⟨b, rfl⟩
def wts (ops : Nat → Int32) (n : Nat) (hm : Nat → Int32) (w : Nat) : Prop := iv ops n (nI w) = true ∧ hm w = -1
def lwB (E : Nat → Nat) (o : Option Nat) (w : Nat) : Bool := match o with
  | none => true
  | some b => decide (E b - b < E w - w)
def lw (ops : Nat → Int32) (E : Nat → Nat) (n : Nat) (hm : Nat → Int32) : Nat → Option Nat
  | 0 => none
  | k + 1 => if iv ops n (nI k) = true ∧ hm k = -1 ∧ lwB E (lw ops E n hm k) k = true then some k else lw ops E n hm k
theorem lw_lt {ops : Nat → Int32} {E : Nat → Nat} {n : Nat} {hm : Nat → Int32} {k b : Nat} (h : lw ops E n hm k = some b) : b < k := by
  induction k with
  | zero => cases h
  | succ k ih =>
    unfold lw at h
    split at h
    · cases h; omega
    · have := ih h; omega
theorem lw_y {ops : Nat → Int32} {E : Nat → Nat} {n : Nat} {hm : Nat → Int32} {k : Nat} {o : Option Nat} (ho : o = lw ops E n hm k) (h1 : iv ops n (nI k) = true) (h2 : hm k = -1) (h3 : lwB E o k = true) : some k = lw ops E n hm (k + 1) := by
  subst ho
  exact (if_pos ⟨h1, h2, h3⟩).symm
theorem lw_n {ops : Nat → Int32} {E : Nat → Nat} {n : Nat} {hm : Nat → Int32} {k : Nat} {o : Option Nat} (ho : o = lw ops E n hm k) (h : iv ops n (nI k) = false ∨ ¬ hm k = -1 ∨ lwB E o k = false) : o = lw ops E n hm (k + 1) := by
  subst ho
  refine (if_neg ?_).symm
  rintro ⟨h1, h2, h3⟩
  rcases h with h | h | h
  · rw [h] at h1; cases h1
  · exact h h2
  · rw [h] at h3; cases h3
/-- the sum of the prices of those in slots, of the first k -/
def ps (P : Nat → Nat) (hm : Nat → Int32) : Nat → UInt64
  | 0 => FP.dconst0
  | k + 1 => if hm k < 10 then ps P hm k else FP.dadd (ps P hm k) (FP.i2d (nI (P k)))
theorem ps_n {P : Nat → Nat} {hm : Nat → Int32} {k : Nat} {a : UInt64} (ha : a = ps P hm k) (h : hm k < 10) : a = ps P hm (k + 1) := by
  subst ha; exact (if_pos h).symm
theorem ps_y {P : Nat → Nat} {hm : Nat → Int32} {k : Nat} {a : UInt64} (ha : a = ps P hm k) (h : ¬ hm k < 10) : FP.dadd a (FP.i2d (nI (P k))) = ps P hm (k + 1) := by
  subst ha; exact (if_neg h).symm
