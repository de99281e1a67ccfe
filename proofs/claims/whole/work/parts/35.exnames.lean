/-! names: constructors, texts -/
theorem cwI9 {R : Room} {s : State} {args : Array Value} {own : String} {index : Nat} {y : MethodName} {bytes : ByteArray} {maxL mc ms : Nat} {ret : Option FieldType} {Ts ws ws' : List Cond} {rm : Room} (n : Nat) (ht : ∀ w ∈ Ts, w.before args s = true) (hT : GoodIn Ts ws) (hw : ws = Cond.code y bytes maxL ret :: ws') (hrc : rm.cells = mc) (hrs : rm.slots = ms)
    (hl : (Cond.methodLink own index y).before args s = true) (hini : (Cond.initialized y.cls).before args s = true) (hd : y.cls ≠ "java/lang/invoke/MethodHandle" ∧ y.cls ≠ "java/lang/invoke/VarHandle" ∧ (parseMethodDescriptor y.desc).map (fun d => d.parameters.length) = some n) (hR : rm.frames + 1 ≤ R.frames ∧ 8 + (maxL + 11) + rm.locals ≤ R.locals)
    (hi : y.name = "<init>") (hinst : (Cond.instanceMethod y).before args s = true) : CallB R s args own index y bytes maxL ret ws rm mc ms n ∧ y.name = "<init>" ∧ (Cond.instanceMethod y).before args s = true :=
  ⟨callB_of n ht hT hw hrc hrs hini hl hd hR, hi, hinst⟩
theorem xn_Co_init : Cond.methodLinkNest "AllocForge" 9 y_Co_init "AllocForge" ∈ XW := List.mem_filter.mpr ⟨List.mem_of_getElem? (i := 25) (by decide +kernel), rfl⟩
theorem xn_Ma_init : Cond.methodLinkNest "AllocForge" 22 y_Ma_init "AllocForge" ∈ XW := List.mem_filter.mpr ⟨List.mem_of_getElem? (i := 57) (by decide +kernel), rfl⟩
theorem st_of {i : Nat} {a : String} {k : Nat} {t : String} (h : tables_1[i]? = some (.stringRef a k t)) : (a, k, t) ∈ STR := List.mem_filterMap.mpr ⟨_, List.mem_of_getElem? h, rfl⟩
theorem st_49 : ("AllocForge", 49, "no such instruction") ∈ STR := st_of (i := 204) (by decide +kernel)
theorem st_60 : ("AllocForge", 60, "the code is full") ∈ STR := st_of (i := 240) (by decide +kernel)
theorem st_73 : ("AllocForge", 73, "no such number of registers") ∈ STR := st_of (i := 262) (by decide +kernel)
theorem st_79 : ("AllocForge", 79, "no room") ∈ STR := st_of (i := 311) (by decide +kernel)
theorem st_166 : ("AllocForge", 166, "no such value") ∈ STR := st_of (i := 346) (by decide +kernel)
theorem st_168 : ("AllocForge", 168, "nothing is allocated") ∈ STR := st_of (i := 361) (by decide +kernel)
theorem st_99 : ("AllocForge", 99, "nothing of this kind is told") ∈ STR := st_of (i := 381) (by decide +kernel)
theorem st_187 : ("AllocForge", 187, "division by zero") ∈ STR := st_of (i := 479) (by decide +kernel)
theorem st_137 : ("AllocForge", 137, "no such number was said") ∈ STR := st_of (i := 527) (by decide +kernel)
theorem st_161 : ("AllocForge", 161, "nothing of this kind is counted") ∈ STR := st_of (i := 563) (by decide +kernel)
/-- the cells that are their own places -/
def owF (k : Nat) : Nat → Int32 := fun j => if j < k then nI j else 0
theorem owF_0 : (fun _ => 0) = owF 0 := funext fun j => (if_neg (by omega)).symm
theorem owF_s {f : Nat → Int32} {i : Nat} (h : f = owF i) : upd f i (nI i) = owF (i + 1) := by
  subst h
  funext j
  unfold upd owF
  by_cases h : j = i
  · subst h; rw [if_pos rfl, if_pos (by omega)]
  · rw [if_neg h]
    by_cases h2 : j < i
    · rw [if_pos h2, if_pos (by omega)]
    · rw [if_neg h2, if_neg (by omega)]
