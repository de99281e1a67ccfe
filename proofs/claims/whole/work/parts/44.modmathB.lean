/-! the reference's words, second part: giving, allocating, running -/
section WBJ
variable {p : Program} {l : Launch} {e : Env} {R : Room} {s : State} {m : MethodId} {args : Array Value} {below : List Frame} {meth : Method} {c : Code} {H : Heap} {locs : List Loc} {cells slots : Nat} {Q : State → Prop}
theorem wb_join {g : JFrame} (g' : JFrame) (k : W p l e R s m args below meth c H locs cells slots Q g') (f : W p l e R s m args below meth c H locs cells slots Q g' → W p l e R s m args below meth c H locs cells slots Q g) : W p l e R s m args below meth c H locs cells slots Q g := f k
end WBJ
theorem mayR_a {ops : Nat → Int32} {E : Nat → Nat} {n v k : Nat} (h : cr ops E n v = false) : nI k = nI (mayR ops E n v k) := by unfold mayR; rw [if_neg (by rw [h]; decide)]
theorem mayR_b {ops : Nat → Int32} {E : Nat → Nat} {n v k : Nat} (h : cr ops E n v = true) (hk : k ≤ 2) : nI k = nI (mayR ops E n v k) := by unfold mayR; rw [if_pos h, Nat.min_eq_left hk]
theorem mayR_c {ops : Nat → Int32} {E : Nat → Nat} {n v k : Nat} (h : cr ops E n v = true) (hk : 2 < k) : (2 : Int32) = nI (mayR ops E n v k) := by unfold mayR; rw [if_pos h, Nat.min_eq_right (Nat.le_of_lt hk)]; rfl
/-- the register whose heaviest is lightest, of the first r -/
def bsM (ops : Nat → Int32) (E P : Nat → Nat) (hm : Nat → Int32) (n v : Nat) : Nat → Nat
  | 0 => 0
  | r + 1 => if r = 0 then 0 else if dlt (hvM ops E P hm v (nI r) n) (hvM ops E P hm v (nI (bsM ops E P hm n v r)) n) then r else bsM ops E P hm n v r
theorem bsM_y {ops : Nat → Int32} {E P : Nat → Nat} {hm : Nat → Int32} {n v r b : Nat} (hb : b = bsM ops E P hm n v r) (h0 : 0 < r) (h : dlt (hvM ops E P hm v (nI r) n) (hvM ops E P hm v (nI b) n)) : r = bsM ops E P hm n v (r + 1) := by
  subst hb
  show _ = if _ then _ else _
  rw [if_neg (by omega), if_pos h]
theorem bsM_n {ops : Nat → Int32} {E P : Nat → Nat} {hm : Nat → Int32} {n v r b : Nat} (hb : b = bsM ops E P hm n v r) (h0 : 0 < r) (h : ¬ dlt (hvM ops E P hm v (nI r) n) (hvM ops E P hm v (nI b) n)) : b = bsM ops E P hm n v (r + 1) := by
  subst hb
  show _ = if _ then _ else _
  rw [if_neg (by omega), if_neg h]
theorem bsM_lt (ops : Nat → Int32) (E P : Nat → Nat) (hm : Nat → Int32) (n v r : Nat) : bsM ops E P hm n v r ≤ r := by
  induction r with
  | zero => exact Nat.le_refl 0
  | succ r ih =>
    show (if _ then _ else _ : Nat) ≤ _
    split
    · omega
    · split
      · omega
      · omega
/-- give v a home: given, the homes, how many were put out -/
def gvR (ops : Nat → Int32) (E P : Nat → Nat) (n k : Nat) (hm : Nat → Int32) (v : Nat) : Bool × (Nat → Int32) × Nat :=
  match fsM ops E hm n v 0 (mayR ops E n v k) with
  | some p => (true, upd hm v (nI p), 0)
  | none => if dlt (hvM ops E P hm v (nI (bsM ops E P hm n v (mayR ops E n v k))) n) (wt P E v) then (true, upd (evH E hm v (nI (bsM ops E P hm n v (mayR ops E n v k))) n) v (nI (bsM ops E P hm n v (mayR ops E n v k))), evC E hm v (nI (bsM ops E P hm n v (mayR ops E n v k))) n)
    else match fsM ops E hm n v 10 6 with
      | some i => (true, upd hm v (nI i), 0)
      | none => (false, upd hm v (-1), 0)
theorem gvR_1 {ops : Nat → Int32} {E P : Nat → Nat} {n k v q : Nat} {hm : Nat → Int32} (h : fsM ops E hm n v 0 (mayR ops E n v k) = some q) : gvR ops E P n k hm v = (true, upd hm v (nI q), 0) := by unfold gvR; rw [h]
theorem gvR_2 {ops : Nat → Int32} {E P : Nat → Nat} {n k v b : Nat} {hm : Nat → Int32} (h : fsM ops E hm n v 0 (mayR ops E n v k) = none) (hb : b = bsM ops E P hm n v (mayR ops E n v k)) (h2 : dlt (hvM ops E P hm v (nI b) n) (wt P E v)) : gvR ops E P n k hm v = (true, upd (evH E hm v (nI b) n) v (nI b), evC E hm v (nI b) n) := by
  subst hb
  unfold gvR; rw [h]; exact if_pos h2
theorem gvR_3 {ops : Nat → Int32} {E P : Nat → Nat} {n k v b q : Nat} {hm : Nat → Int32} (h : fsM ops E hm n v 0 (mayR ops E n v k) = none) (hb : b = bsM ops E P hm n v (mayR ops E n v k)) (h2 : ¬ dlt (hvM ops E P hm v (nI b) n) (wt P E v)) (h3 : fsM ops E hm n v 10 6 = some q) : gvR ops E P n k hm v = (true, upd hm v (nI q), 0) := by
  subst hb
  unfold gvR; rw [h, h3]; exact if_neg h2
theorem gvR_4 {ops : Nat → Int32} {E P : Nat → Nat} {n k v b : Nat} {hm : Nat → Int32} (h : fsM ops E hm n v 0 (mayR ops E n v k) = none) (hb : b = bsM ops E P hm n v (mayR ops E n v k)) (h2 : ¬ dlt (hvM ops E P hm v (nI b) n) (wt P E v)) (h3 : fsM ops E hm n v 10 6 = none) : gvR ops E P n k hm v = (false, upd hm v (-1), 0) := by
  subst hb
  unfold gvR; rw [h, h3]; exact if_neg h2
theorem upd_self {f : Nat → Int32} {k : Nat} {x : Int32} : upd f k x k = x := if_pos rfl
/-- the looks of the reference, with fuel -/
def flM (ops : Nat → Int32) (E P : Nat → Nat) (n k : Nat) : Nat → (Nat → Int32) → Nat → Option (Bool × (Nat → Int32) × Nat)
  | 0, _, _ => none
  | t + 1, f, a => match lw ops E n f n with
    | none => some (true, f, a)
    | some v => if (gvR ops E P n k f v).1 = true then flM ops E P n k t (gvR ops E P n k f v).2.1 (a + (gvR ops E P n k f v).2.2) else some (false, (gvR ops E P n k f v).2.1, a + (gvR ops E P n k f v).2.2)
theorem flM_d {ops : Nat → Int32} {E P : Nat → Nat} {n k t a : Nat} {f : Nat → Int32} {z : Bool × (Nat → Int32) × Nat} (h : flM ops E P n k t f a = some z) (hl : lw ops E n f n = none) : z = (true, f, a) := by
  cases t with
  | zero => cases h
  | succ t =>
    unfold flM at h
    rw [hl] at h
    exact (Option.some.inj h).symm
theorem flM_f {ops : Nat → Int32} {E P : Nat → Nat} {n k t a v : Nat} {f : Nat → Int32} {z : Bool × (Nat → Int32) × Nat} (h : flM ops E P n k t f a = some z) (hl : lw ops E n f n = some v) (hg : (gvR ops E P n k f v).1 = false) : z = (false, (gvR ops E P n k f v).2.1, a + (gvR ops E P n k f v).2.2) := by
  cases t with
  | zero => cases h
  | succ t =>
    unfold flM at h
    rw [hl] at h
    dsimp only at h
    rw [if_neg (by rw [hg]; decide)] at h
    exact (Option.some.inj h).symm
theorem flM_s {ops : Nat → Int32} {E P : Nat → Nat} {n k t a v : Nat} {f : Nat → Int32} {z : Bool × (Nat → Int32) × Nat} (h : flM ops E P n k t f a = some z) (hl : lw ops E n f n = some v) (hg : (gvR ops E P n k f v).1 = true) : 0 < t ∧ flM ops E P n k (t - 1) (gvR ops E P n k f v).2.1 (a + (gvR ops E P n k f v).2.2) = some z := by
  cases t with
  | zero => cases h
  | succ t =>
    unfold flM at h
    rw [hl] at h
    dsimp only at h
    rw [if_pos hg] at h
    exact ⟨Nat.succ_pos _, h⟩
/-- a copy of the first i -/
def cpF (g f : Nat → Int32) (i : Nat) : Nat → Int32 := fun j => if j < i then f j else g j
theorem cpF_0 (g f : Nat → Int32) : cpF g f 0 = g := funext fun j => if_neg (by omega)
theorem cpF_s (g f : Nat → Int32) (i : Nat) : upd (cpF g f i) i (f i) = cpF g f (i + 1) := by
  funext j
  unfold upd cpF
  by_cases h : j = i
  · subst h; rw [if_pos rfl, if_pos (by omega)]
  · rw [if_neg h]
    by_cases h2 : j < i
    · rw [if_pos h2, if_pos (by omega)]
    · rw [if_neg h2, if_neg (by omega)]
/-- how many of the first i values live in registers -/
def cnR (ops f : Nat → Int32) : Nat → Nat
  | 0 => 0
  | i + 1 => cnR ops f i + if ¬ ops i = 6 ∧ ¬ 10 ≤ f i then 1 else 0
theorem cnR_y {ops f : Nat → Int32} {i a : Nat} (ha : a = cnR ops f i) (h1 : ¬ ops i = 6) (h2 : ¬ 10 ≤ f i) : a + 1 = cnR ops f (i + 1) := by
  rw [ha]; show _ = cnR ops f i + _; rw [if_pos ⟨h1, h2⟩]
theorem cnR_n {ops f : Nat → Int32} {i a : Nat} (ha : a = cnR ops f i) (h : ops i = 6 ∨ 10 ≤ f i) : a = cnR ops f (i + 1) := by
  rw [ha]; show _ = cnR ops f i + _; rw [if_neg]; · rfl
  rintro ⟨h1, h2⟩
  rcases h with h | h
  · exact h1 h
  · exact h2 h
def utI (ops lf rg : Nat → Int32) (v : Nat) : Nat → Nat
  | 0 => 0
  | i + 1 => utI ops lf rg v i + us ops lf rg i v
/-- the sum of prices in slots -/
def psM (ops : Nat → Int32) (P : Nat → Nat) (hm : Nat → Int32) : Nat → UInt64
  | 0 => FP.dconst0
  | k + 1 => if ops k = 6 ∨ hm k ≤ 9 then psM ops P hm k else FP.dadd (psM ops P hm k) (FP.i2d (nI (P k)))
theorem psM_n {ops : Nat → Int32} {P : Nat → Nat} {hm : Nat → Int32} {k : Nat} {a : UInt64} (ha : a = psM ops P hm k) (h : ops k = 6 ∨ hm k ≤ 9) : a = psM ops P hm (k + 1) := by subst ha; exact (if_pos h).symm
theorem psM_y {ops : Nat → Int32} {P : Nat → Nat} {hm : Nat → Int32} {k : Nat} {a : UInt64} (ha : a = psM ops P hm k) (h1 : ¬ ops k = 6) (h2 : ¬ hm k ≤ 9) : FP.dadd a (FP.i2d (nI (P k))) = psM ops P hm (k + 1) := by
  subst ha
  refine (if_neg ?_).symm
  rintro (h | h)
  · exact h1 h
  · exact h2 h
/-- running -/
def tkM (pl : Bool) (plc val cel : Nat → Int32) (j : Nat) : Int32 := if pl = true then cel (plc j).toNatClampNeg else val j
theorem tkM_t {pl : Bool} {plc val cel : Nat → Int32} {j q : Nat} (h : pl = true) (hq : plc j = nI q) (hq2 : q < 16) : cel q = tkM pl plc val cel j := by
  unfold tkM; rw [if_pos h, hq, nI_clamp (by omega)]
theorem tkM_f {pl : Bool} {plc val cel : Nat → Int32} {j : Nat} (h : pl = false) : val j = tkM pl plc val cel j := by
  unfold tkM; rw [if_neg (by rw [h]; decide)]
def n4 (x y z w : Int32) : Nat → Int32 := fun j => if j = 0 then x else if j = 1 then y else if j = 2 then z else w
def oLM (pl : Bool) (plc ops lf val cel : Nat → Int32) (i : Nat) : Int32 := if uL (ops i) = true then tkM pl plc val cel (lf i).toNatClampNeg else lf i
def oRM (pl : Bool) (plc ops rg val cel : Nat → Int32) (i : Nat) : Int32 := if uR (ops i) = true then tkM pl plc val cel (rg i).toNatClampNeg else 0
def CM (pl : Bool) (ops lf rg plc : Nat → Int32) (i : Nat) : Prop :=
  (uL (ops i) = true → ∃ j : Nat, lf i = nI j ∧ j < 24 ∧ (pl = true → ∃ q : Nat, plc j = nI q ∧ q < 16)) ∧ (uR (ops i) = true → ∃ j : Nat, rg i = nI j ∧ j < 24 ∧ (pl = true → ∃ q : Nat, plc j = nI q ∧ q < 16)) ∧ (ops i = 1 → ∃ j : Nat, j < 4 ∧ lf i = nI j) ∧ (¬ ops i = 6 → pl = true → ∃ q : Nat, plc i = nI q ∧ q < 16) ∧ (¬ ops i < 0 ∧ ¬ 7 < ops i)
theorem uL_1 {op : Int32} (h : op ≤ 1) : uL op = false := decide_eq_false (fun q => by
  rw [Int32.le_iff_toInt_le] at h q
  have e1 : (1 : Int32).toInt = 1 := rfl
  have e2 : (2 : Int32).toInt = 2 := rfl
  omega)
theorem uL_2 {op : Int32} (h : ¬ op ≤ 1) : uL op = true := decide_eq_true (by
  rw [Int32.le_iff_toInt_le] at h ⊢
  have e1 : (1 : Int32).toInt = 1 := rfl
  have e2 : (2 : Int32).toInt = 2 := rfl
  omega)
theorem oLM_t {pl : Bool} {plc ops lf val cel : Nat → Int32} {i j : Nat} (h : uL (ops i) = true) (hj : lf i = nI j) (hj2 : j < 24) : tkM pl plc val cel j = oLM pl plc ops lf val cel i := by
  unfold oLM; rw [if_pos h, hj, nI_clamp (by omega)]
theorem oLM_f {pl : Bool} {plc ops lf val cel : Nat → Int32} {i : Nat} (h : uL (ops i) = false) : lf i = oLM pl plc ops lf val cel i := by
  unfold oLM; rw [if_neg (by rw [h]; decide)]
theorem oRM_t {pl : Bool} {plc ops rg val cel : Nat → Int32} {i j : Nat} (h : uR (ops i) = true) (hj : rg i = nI j) (hj2 : j < 24) : tkM pl plc val cel j = oRM pl plc ops rg val cel i := by
  unfold oRM; rw [if_pos h, hj, nI_clamp (by omega)]
theorem oRM_f {pl : Bool} {plc ops rg val cel : Nat → Int32} {i : Nat} (h : uR (ops i) = false) : 0 = oRM pl plc ops rg val cel i := by
  unfold oRM; rw [if_neg (by rw [h]; decide)]
/-- values, cells, said, how many, result, good -/
abbrev MSM : Type := (Nat → Int32) × (Nat → Int32) × (Nat → Int32) × Nat × Int32 × Bool
def spM (cel : Nat → Int32) (r : Nat) : Nat → Int32 := fun j => if 2 ≤ j ∧ j < r then -1 else cel j
theorem spM_0 (cel : Nat → Int32) : spM cel 2 = cel := funext fun j => if_neg (by omega)
theorem spM_s (cel : Nat → Int32) {i : Nat} (hi : 2 ≤ i) : upd (spM cel i) i (-1) = spM cel (i + 1) := by
  funext j
  unfold upd spM
  by_cases h : j = i
  · rw [if_pos h, if_pos (by omega)]
  · rw [if_neg h]
    by_cases h2 : 2 ≤ j ∧ j < i
    · rw [if_pos h2, if_pos (by omega)]
    · rw [if_neg h2, if_neg (by omega)]
def spC (op : Int32) (cel : Nat → Int32) : Nat → Int32 := if op = 7 then spM cel 10 else cel
def stP (pl : Bool) (nu ops lf rg plc : Nat → Int32) (i : Nat) (val cel sd : Nat → Int32) (sc : Nat) (rs : Int32) : MSM :=
  if ops i = 5 ∧ oRM pl plc ops rg val cel i = 0 then (val, cel, sd, sc, rs, false)
  else if ops i = 6 then (val, cel, upd sd sc (oLM pl plc ops lf val cel i), sc + 1, 0, true)
  else if pl = true then (val, upd (spC (ops i) cel) (plc i).toNatClampNeg (cmpV nu (ops i) (oLM pl plc ops lf val cel i) (oRM pl plc ops rg val cel i)), sd, sc, cmpV nu (ops i) (oLM pl plc ops lf val cel i) (oRM pl plc ops rg val cel i), true)
  else (upd val i (cmpV nu (ops i) (oLM pl plc ops lf val cel i) (oRM pl plc ops rg val cel i)), spC (ops i) cel, sd, sc, cmpV nu (ops i) (oLM pl plc ops lf val cel i) (oRM pl plc ops rg val cel i), true)
def pfM (pl : Bool) (nu ops lf rg plc : Nat → Int32) (z : MSM) : Nat → MSM
  | 0 => z
  | i + 1 => if (pfM pl nu ops lf rg plc z i).2.2.2.2.2 = false then pfM pl nu ops lf rg plc z i else stP pl nu ops lf rg plc i (pfM pl nu ops lf rg plc z i).1 (pfM pl nu ops lf rg plc z i).2.1 (pfM pl nu ops lf rg plc z i).2.2.1 (pfM pl nu ops lf rg plc z i).2.2.2.1 (pfM pl nu ops lf rg plc z i).2.2.2.2.1
theorem pfM_s {pl : Bool} {nu ops lf rg plc : Nat → Int32} {i : Nat} {z : MSM} {x1 x2 x3 : Nat → Int32} {x4 : Nat} {x5 : Int32} {q : MSM} (h : (x1, x2, x3, x4, x5, true) = pfM pl nu ops lf rg plc z i) (hq : stP pl nu ops lf rg plc i x1 x2 x3 x4 x5 = q) : q = pfM pl nu ops lf rg plc z (i + 1) := by
  show _ = if (pfM pl nu ops lf rg plc z i).2.2.2.2.2 = false then _ else _
  rw [← h]
  show _ = if true = false then _ else _
  rw [if_neg (by decide)]
  exact hq.symm
theorem pfM_stop {pl : Bool} {nu ops lf rg plc : Nat → Int32} {i m : Nat} {z : MSM} (h : (pfM pl nu ops lf rg plc z i).2.2.2.2.2 = false) (him : i ≤ m) : pfM pl nu ops lf rg plc z m = pfM pl nu ops lf rg plc z i := by
  induction m with
  | zero => rw [Nat.le_zero.mp him]
  | succ m ih =>
    rcases Nat.lt_or_ge m i with q | q
    · rw [show i = m + 1 by omega]
    · have e := ih q
      show (if (pfM pl nu ops lf rg plc z m).2.2.2.2.2 = false then pfM pl nu ops lf rg plc z m else _) = _
      rw [e, if_pos h]
theorem stP_f {pl : Bool} {nu ops lf rg plc : Nat → Int32} {i : Nat} {val cel sd : Nat → Int32} {sc : Nat} {rs : Int32} (h1 : ops i = 5) (h2 : oRM pl plc ops rg val cel i = 0) : stP pl nu ops lf rg plc i val cel sd sc rs = (val, cel, sd, sc, rs, false) := if_pos ⟨h1, h2⟩
theorem stP_6 {pl : Bool} {nu ops lf rg plc : Nat → Int32} {i : Nat} {val cel sd : Nat → Int32} {sc : Nat} {rs : Int32} (h : ops i = 6) : stP pl nu ops lf rg plc i val cel sd sc rs = (val, cel, upd sd sc (oLM pl plc ops lf val cel i), sc + 1, 0, true) := by
  unfold stP
  rw [if_neg (fun q => by rw [h] at q; exact absurd q.1 (by decide)), if_pos h]
theorem stP_p {pl : Bool} {nu ops lf rg plc : Nat → Int32} {i q : Nat} {val cel sd : Nat → Int32} {sc : Nat} {rs : Int32} (h5 : ¬ ops i = 5 ∨ ¬ oRM pl plc ops rg val cel i = 0) (h6 : ¬ ops i = 6) (hp : pl = true) (hq : plc i = nI q) (hq2 : q < 16) {d : Nat → Int32} (hd : d = spC (ops i) cel) : stP pl nu ops lf rg plc i val cel sd sc rs = (val, upd d q (cmpV nu (ops i) (oLM pl plc ops lf val cel i) (oRM pl plc ops rg val cel i)), sd, sc, cmpV nu (ops i) (oLM pl plc ops lf val cel i) (oRM pl plc ops rg val cel i), true) := by
  unfold stP
  rw [if_neg (fun q => h5.elim (fun z => z q.1) (fun z => z q.2)), if_neg h6, if_pos hp, hq, nI_clamp (by omega), hd]
theorem stP_v {pl : Bool} {nu ops lf rg plc : Nat → Int32} {i : Nat} {val cel sd : Nat → Int32} {sc : Nat} {rs : Int32} (h5 : ¬ ops i = 5 ∨ ¬ oRM pl plc ops rg val cel i = 0) (h6 : ¬ ops i = 6) (hp : pl = false) {d : Nat → Int32} (hd : d = spC (ops i) cel) : stP pl nu ops lf rg plc i val cel sd sc rs = (upd val i (cmpV nu (ops i) (oLM pl plc ops lf val cel i) (oRM pl plc ops rg val cel i)), d, sd, sc, cmpV nu (ops i) (oLM pl plc ops lf val cel i) (oRM pl plc ops rg val cel i), true) := by
  unfold stP
  rw [if_neg (fun q => h5.elim (fun z => z q.1) (fun z => z q.2)), if_neg h6, if_neg (by rw [hp]; decide), hd]
theorem cv_0 {nu : Nat → Int32} {op a b : Int32} (h : op = 0) : a = cmpV nu op a b := by subst h; rfl
theorem cv_1 {x y z w op a b : Int32} (h : op = 1) {r : Int32} (ha : r = if a = 0 then x else if a = 1 then y else if a = 2 then z else w) (hj : ∃ j : Nat, j < 4 ∧ a = nI j) : r = cmpV (n4 x y z w) op a b := by
  subst h
  subst ha
  obtain ⟨j, h1, rfl⟩ := hj
  have : j = 0 ∨ j = 1 ∨ j = 2 ∨ j = 3 := by omega
  rcases this with rfl | rfl | rfl | rfl <;> rfl
theorem cv_5 {nu : Nat → Int32} {op a b : Int32} (h : op = 5) (hb : ¬ b = 0) : a / b = cmpV nu op a b := by
  subst h
  show _ = dvV a b
  exact (if_neg hb).symm
theorem cv_7 {nu : Nat → Int32} {op a b : Int32} (hr : ¬ op < 0 ∧ ¬ 7 < op) (h0 : ¬ op = 0) (h1 : ¬ op = 1) (h2 : ¬ op = 2) (h3 : ¬ op = 3) (h4 : ¬ op = 4) (h5 : ¬ op = 5) (h6 : ¬ op = 6) : a * 3 + 1 = cmpV nu op a b := by
  obtain ⟨j, hj, rfl⟩ := ix_le (v := op) (b := 7) (by omega) hr.1 (i32_nlt.mp hr.2)
  have : j = 0 ∨ j = 1 ∨ j = 2 ∨ j = 3 ∨ j = 4 ∨ j = 5 ∨ j = 6 ∨ j = 7 := by omega
  rcases this with rfl | rfl | rfl | rfl | rfl | rfl | rfl | rfl
  · exact absurd rfl h0
  · exact absurd rfl h1
  · exact absurd rfl h2
  · exact absurd rfl h3
  · exact absurd rfl h4
  · exact absurd rfl h5
  · exact absurd rfl h6
  · rfl
theorem CM_1 {pl : Bool} {ops lf rg plc val cel : Nat → Int32} {i : Nat} (h : CM pl ops lf rg plc i) : ops i = 1 → ∃ j : Nat, j < 4 ∧ oLM pl plc ops lf val cel i = nI j := fun q => by
  obtain ⟨j, h1, h2⟩ := h.2.2.1 q
  exact ⟨j, h1, by rw [← oLM_f (show uL (ops i) = false by rw [q]; decide)]; exact h2⟩
/-- did both end alike -/
def smB (a b : Nat → Int32) (na nb : Nat) (ra rb : Int32) (ga gb : Bool) : Bool := decide (ga = gb) && (decide (na = nb) && ((!ga || decide (ra = rb)) && sdE a b na))
def cvM (ops : Nat → Int32) : Nat → Nat
  | 0 => 0
  | i + 1 => cvM ops i + if ops i = 6 then 0 else 1
def csM (ops plc : Nat → Int32) (alc : Bool) : Nat → Nat
  | 0 => 0
  | i + 1 => csM ops plc alc i + if ¬ ops i = 6 ∧ alc = true ∧ ¬ plc i ≤ 9 then 1 else 0
def isM (ops plc : Nat → Int32) (p : Int32) : Nat → Bool
  | 0 => false
  | i + 1 => isM ops plc p i || decide (¬ ops i = 6 ∧ plc i = p)
def udM (ops plc : Nat → Int32) (n f : Nat) : Nat → Nat
  | 0 => 0
  | i + 1 => udM ops plc n f i + if isM ops plc (nI (f + i)) n = true then 1 else 0
def ctM (ops plc : Nat → Int32) (n sm evm rgm : Nat) (alc : Bool) (q : Int32) : Int32 :=
  if q = 0 then nI n else if q = 1 then nI (cvM ops n) else if q = 2 then nI sm else if alc = false then 0 else if q = 3 then nI evm else if q = 4 then nI (csM ops plc alc n) else if q = 5 then nI (udM ops plc n 10 6) else if q = 6 then nI (udM ops plc n 0 5) else nI rgm
theorem cvM_y {ops : Nat → Int32} {i a : Nat} (ha : a = cvM ops i) (h : ¬ ops i = 6) : a + 1 = cvM ops (i + 1) := by rw [ha]; show _ = cvM ops i + _; rw [if_neg h]
theorem cvM_n {ops : Nat → Int32} {i a : Nat} (ha : a = cvM ops i) (h : ops i = 6) : a = cvM ops (i + 1) := by rw [ha]; show _ = cvM ops i + _; rw [if_pos h]; rfl
theorem csM_y {ops plc : Nat → Int32} {alc : Bool} {i a : Nat} (ha : a = csM ops plc alc i) (h1 : ¬ ops i = 6) (h2 : alc = true) (h3 : ¬ plc i ≤ 9) : a + 1 = csM ops plc alc (i + 1) := by rw [ha]; show _ = csM ops plc alc i + _; rw [if_pos ⟨h1, h2, h3⟩]
theorem csM_n {ops plc : Nat → Int32} {alc : Bool} {i a : Nat} (ha : a = csM ops plc alc i) (h : ops i = 6 ∨ alc = false ∨ plc i ≤ 9) : a = csM ops plc alc (i + 1) := by
  rw [ha]; show _ = csM ops plc alc i + _; rw [if_neg]; · rfl
  rintro ⟨h1, h2, h3⟩
  rcases h with h | h | h
  · exact h1 h
  · rw [h] at h2; cases h2
  · exact h3 h
theorem isM_y {ops plc : Nat → Int32} {p : Int32} {i : Nat} (h1 : ¬ ops i = 6) (h2 : plc i = p) : true = isM ops plc p (i + 1) := by show _ = (isM ops plc p i || _); rw [decide_eq_true ⟨h1, h2⟩, Bool.or_true]
theorem isM_n {ops plc : Nat → Int32} {p : Int32} {i : Nat} {b : Bool} (hb : b = isM ops plc p i) (h : ops i = 6 ∨ ¬ plc i = p) : b = isM ops plc p (i + 1) := by
  rw [hb]; show _ = (isM ops plc p i || _)
  rw [decide_eq_false, Bool.or_false]
  rintro ⟨h1, h2⟩
  rcases h with h | h
  · exact h1 h
  · exact h h2
theorem udM_y {ops plc : Nat → Int32} {n f i a : Nat} (ha : a = udM ops plc n f i) (h : isM ops plc (nI (f + i)) n = true) : a + 1 = udM ops plc n f (i + 1) := by rw [ha]; show _ = udM ops plc n f i + _; rw [if_pos h]
theorem udM_n {ops plc : Nat → Int32} {n f i a : Nat} (ha : a = udM ops plc n f i) (h : isM ops plc (nI (f + i)) n = false) : a = udM ops plc n f (i + 1) := by rw [ha]; show _ = udM ops plc n f i + _; rw [if_neg (by rw [h]; decide)]; rfl
