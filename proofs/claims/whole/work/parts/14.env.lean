/-! new int arrays; what stays as it was: the price table, Throwable's statics, words that no list carries, texts -/
section WBA
variable {p : Program} {l : Launch} {e : Env} {R : Room} {s : State} {m : MethodId} {args : Array Value} {below : List Frame} {meth : Method} {c : Code} {H : Heap} {locs : List Loc} {cells slots : Nat} {Q : State → Prop}
variable {cc : ByteArray} {pc : Nat} {ls : Array Slot} {rest : List Value} {D : va_G} {cl : List vw_C} {A : Nat → Prop} {a : Nat} {ws : va_W} {H0 : Heap} {cI : ClassId}
theorem wb_newI (hexec : p.tables.exec = Jvm.exec) (hb : c.code = cc) (harr : (Cond.arrayClass .int).before args s = true) (hK : va_K D cl [(cI, .int)] s) (hP : va_P D cl ws H) (hD : va_D A ws) (hS : va_S A H0 H locs) (hA : ∀ q, H0.size ≤ q → A q)
    {n : Int32} (N' : Nat) (hn : n = nI N') (hN : N' ≤ 1000) (hcells : cells + 1 ≤ R.cells) (hslots : slots + N' ≤ R.slots) (hdg : decode cc pc = .ok (.newarray .int, 2))
    (kk : ∀ (q : Nat) (H1 : Heap), va_P D cl (ws ++ [(q, .inl (cI, N', .inl (fun _ => 0)))]) H1 → va_D A (ws ++ [(q, .inl (cI, N', .inl (fun _ => 0)))]) → va_S A H0 H1 locs →
      W p l e R s m args below meth c H1 locs (cells + 1) (slots + N') Q (F0 m (pc + 2) ls (.ref q :: rest))) : W p l e R s m args below meth c H locs cells slots Q (F0 m pc ls (.int n :: rest)) := by
  subst hn
  refine va_newa (atype := .int) (a0 := (N', .inl (fun _ => 0))) (ty := .int) (N' := N') (n := nI N') hexec hb harr rfl hK hP hD hS hA (fun _ => rfl) (nI_pos (by omega)) (nI_clamp (by omega)) (by show N' * 4 ≤ 536870912; omega) hcells hslots hdg (fun q cA H1 hK1 hP1 hD1 hS1 => ?_)
  have e1 : s.vm.findClass "[I" = some cI := va_nm_int (hK.2 0 _ rfl).2
  have e2 : s.vm.findClass "[I" = some cA := va_nm_int (hK1.2 1 _ rfl).2
  obtain rfl : cI = cA := Option.some.inj (e1.symm.trans e2)
  exact kk q H1 hP1 hD1 hS1
end WBA
def prc : Nat → Nat
  | 0 => 1
  | 1 => 10
  | 2 => 100
  | _ => 1000
/-- words of the tables that only hold while the classes are as they are: which can be cast, which constructors stand -/
def isXW : Cond → Bool
  | .castable .. => true
  | .declares _ => true
  | .methodLinkNest .. => true
  | _ => false
def XW : List Cond := tables_1.filter isXW
theorem XW_warm {w : Cond} (hw : isXW w = true) {s U : State} (hW : s.WarmedH U.vm) (h : va_Nw w s) : va_Nw w U := by
  cases w <;> first | exact va_Nw.warmC hW h | exact va_Nw.warmD hW h | exact va_Nw.warmM hW h | exact (Bool.false_ne_true hw).elim
def isStr : Cond → Bool
  | .stringRef .. => true
  | _ => false
/-- texts: the class, the entry, the characters -/
def STR : List (String × Nat × String) := tables_1.filterMap fun w => match w with
  | .stringRef a i t => some (a, i, t)
  | _ => none
def EnvA (tp : Nat) (A : Nat → Prop) (U : State) (H : Heap) : Prop :=
  va_Z "AllocForge$Code" "PRICES" "[I" (.ref tp) A U H ∧ va_T .int tp 4 (fun j => .int (nI (prc j))) A U H ∧ ex_L Bundle.tN "UNASSIGNED_STACK" Bundle.steD A U H ∧ ex_L Bundle.tN "SUPPRESSED_SENTINEL" Bundle.listD A U H ∧ (∀ w ∈ XW, va_Nw w U) ∧ ∀ q ∈ STR, ∃ sa : Nat, vk_R q.1 q.2.1 q.2.2 sa U
theorem EnvA.go {tp : Nat} {A A' : Nat → Prop} {s U : State} {H : Heap} (h : EnvA tp A s s.heap) (hk : ∀ a : Nat, a < s.heap.size → ¬ A a → H[a]? = s.heap[a]?) (hAA : ∀ q, A' q → A q) (hU : U.heap = H) (hW : s.WarmedH U.vm) : EnvA tp A' U U.heap := by
  obtain ⟨h1, h2, h3, h4, h5, h6⟩ := h
  subst hU
  have hal := hW.alike
  exact ⟨((h1.kept hk).moved hal).narrow hAA, ((h2.kept hk).moved hal).narrow hAA, ((h3.kept hk).moved hal).narrow hAA, ((h4.kept hk).moved hal).narrow hAA, fun w hw => XW_warm (List.mem_filter.mp hw).2 hW (h5 w hw), fun q hq => by
    obtain ⟨sa, hsa⟩ := h6 q hq
    exact ⟨sa, hsa.warm hW⟩⟩
theorem EnvA.blind {tp : Nat} {A : Nat → Prop} {U : State} (g : JFrame) (mk : MethodId) (a : Array Value) (h : EnvA tp A U U.heap) : EnvA tp A (U.calling g mk a) (U.calling g mk a).heap :=
  h.go (H := (U.calling g mk a).heap) (fun _ _ _ => rfl) (fun _ h => h) rfl (State.WarmedH.refl U)
