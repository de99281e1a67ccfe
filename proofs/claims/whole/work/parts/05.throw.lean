/-! A throw of an exception with a written text, from its 'new' to the method's end. -/
section EXT
variable {p : Program} {l : Launch} {e : Env} {R : Room} {s : State} {m : MethodId} {args : Array Value} {below : List Frame} {meth : Method} {c : Code} {T : State} {H : Heap} {locs : List Loc} {cells slots : Nat} {Q : State → Prop}
/-- the same walk, as if it began here -/
theorem ex_rebase (X : Stand p l e R s m args below meth c T locs cells slots) {R' : Room} (hf : R'.frames ≤ R.frames) (hl : R'.locals ≤ R.locals) (hc : cells + R'.cells ≤ R.cells) (hs : slots + R'.slots ≤ R.slots) :
    Stand p l e R' ((T.setVm s.vm).setFrames (.invoking m args :: below)) m args below meth c T [] 0 0 := by
  obtain ⟨g₀, hfr⟩ := X.frames_eq
  have hcur : T.cur < T.threads.size := State.cur_lt_of_frames hfr
  obtain ⟨th, hth, -⟩ := State.frames_cons hfr
  have hF : ((T.setVm s.vm).setFrames (.invoking m args :: below)).frames = .invoking m args :: below := State.frames_setFrames _ hcur
  obtain ⟨t', ht', -⟩ := State.frames_cons hF
  have hlu : ((T.setVm s.vm).setFrames (.invoking m args :: below)).localsInUse = s.localsInUse := by
    rw [State.localsInUse_invoking hF X.method X.code, State.localsInUse_invoking X.frames X.method X.code]
  have hme : e.platform.stackLimits ((T.setVm s.vm).setFrames (.invoking m args :: below)).me = e.platform.stackLimits s.me := by
    rw [State.stackLimits_setFrames]; exact X.limits
  have hby : ((T.setVm s.vm).setFrames (.invoking m args :: below)).me.stackBytes = s.me.stackBytes := by
    rw [State.stackBytes_setFrames]; exact X.bytes
  have c1 : T.heap.size + R'.cells ≤ e.platform.maxCells := X.cellsAbove hc
  have c2 : T.slotsUsed + R'.slots ≤ e.platform.maxSlots := X.slotsAbove hs
  have hroom : ((T.setVm s.vm).setFrames (.invoking m args :: below)).hasRoom e.platform R' = true := by
    have h := X.room
    simp only [State.hasRoom, Bool.and_eq_true, decide_eq_true_eq] at h ⊢
    rw [hlu, hF, hme, hby]
    rw [X.frames] at h
    obtain ⟨⟨⟨⟨h1, h2, h3, h4, h5, h6⟩, h7⟩, h8⟩, h9⟩ := h
    exact ⟨⟨⟨⟨by omega, by omega, by omega, by omega, by omega, h6⟩, c1⟩, c2⟩, X.book⟩
  refine ⟨X.admits, X.cas, X.clock, hF, hroom, X.hears, X.method, X.code, X.here, X.tail, X.warmed, ?_, ?_, ?_⟩
  · rw [hme]; exact X.limits
  · rw [hby]; exact X.bytes
  · have h := (State.sameButNew.refl _ ht').setFrames T.frames (State.cur_lt_of_frames hF)
    rw [State.setFrames_setFrames] at h
    have e1 : (T.setVm s.vm).setFrames T.frames = T.setVm s.vm := State.setFrames_self (s := T.setVm s.vm) hth
    rw [e1] at h
    exact h
variable {cc : ByteArray} {pc : Nat} {ls : Array Slot} {rest : List Value} {Qc : Array Value → State → Outcome → State → Prop} {free : Addr → Prop} {mc ms : Nat}
theorem ex_throwS (hexec : p.tables.exec = Jvm.exec) (hb : c.code = cc) (htr : ∀ e : Env, l.admits e → e.platform.stackTraces = false) {own cls text : String} {names : List String} {ik is ic sa : Nat} {A : Nat → Prop}
    (hown : s.vm.findClass own = some m.cls) (hcls : Bundle.fit cls = true) (hnames : ∀ n ∈ names, Bundle.fit n = true)
    (hk : (Cond.classLink own ik cls).before args s = true) (hini : (Cond.initialized cls).before args s = true) (hins : (Cond.instantiable cls 6).before args s = true) (hstr : vk_R own is text sa s)
    (hat : ∀ w ∈ Bundle.ownAtoms own ic cls names, (w.onTables = true ∧ w.before args s = true) ∨ w = .isRef (.static Bundle.tN "UNASSIGNED_STACK" Bundle.steD) ∨ w = .isRef (.static Bundle.tN "SUPPRESSED_SENTINEL" Bundle.listD) ∨ w = .laysStatic Bundle.tN "UNASSIGNED_STACK" Bundle.steD ∨ w = .laysStatic Bundle.tN "SUPPRESSED_SENTINEL" Bundle.listD)
    (hU : ex_L Bundle.tN "UNASSIGNED_STACK" Bundle.steD A s s.heap) (hN : ex_L Bundle.tN "SUPPRESSED_SENTINEL" Bundle.listD A s s.heap) (hS : va_S A s.heap H locs) (hsize : ls.size = c.maxLocals)
    (d0 : decode cc pc = .ok (.new ik, 3)) (d3 : decode cc (pc + 3) = .ok (.dup, 1)) (d4 : decode cc (pc + 4) = .ok (.ldc is, 2)) (d6 : decode cc (pc + 6) = .ok (.invokespecial ic, 3)) (d9 : decode cc (pc + 9) = .ok (.athrow, 1))
    (hout : ∀ x ∈ c.exceptionTable.toList, False)
    (hRframes : names.length + 3 < R.frames) (hRlocals : (rest.map fun v => v.category).sum + (13 * (names.length + 1) + 43) ≤ R.locals) (hRcells : cells + 1 ≤ R.cells) (hRslots : slots + 6 ≤ R.slots) (hlocks : meth.locks = false)
    (hq : ∀ (t : State) (q : Addr) (ce : Cell), s.vm.Alike t.vm → H.size ≤ t.heap.size → (∀ a : Nat, a < H.size → t.heap[a]? = H[a]?) → t.heap[q]? = some ce → ce.vm = .none → s.vm.findClass cls = some ce.cls → Qc args s (.threw q) t)
    (hf : ∀ z ∈ locs, free z.base) (hc : cells + 1 ≤ mc) (hs : slots + 6 ≤ ms) :
    W p l e R s m args below meth c H locs cells slots (ex_MQ below Qc args s mc ms free) (F0 m pc ls rest) := by
  intro T hT X
  subst hT
  have Y := ex_rebase X (R' := { frames := R.frames, cells := 1, slots := 6, locals := R.locals }) (Nat.le_refl _) (Nat.le_refl _) hRcells hRslots
  generalize hs' : (T.setVm s.vm).setFrames (.invoking m args :: below) = s' at Y
  have hvm : s'.vm = s.vm := by rw [← hs']; rfl
  have hhp : s'.heap = T.heap := by rw [← hs']; rfl
  have hW' : s.WarmedH s'.vm := by rw [hvm]; exact State.WarmedH.refl s
  have hal : s.vm.Alike s'.vm := hW'.alike
  have gw : ∀ w : Cond, w.onTables = true → w.before args s = true → w.before args s' = true := fun w h1 h2 => va_tabs h1 hvm.symm h2
  have hU' : ex_L Bundle.tN "UNASSIGNED_STACK" Bundle.steD A s' s'.heap := by rw [hhp]; exact (hU.kept hS.2.1).moved hal
  have hN' : ex_L Bundle.tN "SUPPRESSED_SENTINEL" Bundle.listD A s' s'.heap := by rw [hhp]; exact (hN.kept hS.2.1).moved hal
  have hat' : ∀ w ∈ Bundle.ownAtoms own ic cls names, w.before args s' = true := by
    intro w hw
    rcases hat w hw with ⟨h1, h2⟩ | rfl | rfl | rfl | rfl
    · exact gw w h1 h2
    · exact hU'.isRef
    · exact hN'.isRef
    · exact hU'.lays
    · exact hN'.lays
  have hown' : s'.vm.findClass own = some m.cls := by rw [hvm]; exact hown
  have hk' : (Cond.classLink own ik cls).before args s' = true := gw _ rfl hk
  have hini' : (Cond.initialized cls).before args s' = true := gw _ rfl hini
  have hins' : (Cond.instantiable cls 6).before args s' = true := gw _ rfl hins
  obtain ⟨cX, kX, hcX, hkX, -⟩ := Cond.instantiable_spec hins'
  have K : W p l e { frames := R.frames, cells := 1, slots := 6, locals := R.locals } s' m args below meth c T.heap [] 0 0 (fun U => U.status = .running ∧ Ended U below (.threw T.heap.size) ∧ s'.WarmedH U.vm ∧ s'.sameButNew ({ U with vm := s'.vm } : State) [] 1 6 ∧ ∃ ce, U.heap[T.heap.size]? = some ce ∧ Bundle.OwnCell args s' cls T.heap.size (.ref sa) ce) (F0 m pc ls rest) := by
    refine W.newcK (n := 6) hexec hb hown' hk' hins' hini' rfl d0 (Nat.le_refl 1) (Nat.le_refl 6) hcX rfl (fun H' kC h1 h2 h3 h4 => ?_)
    cases Option.some.inj (hkX.symm.trans h1)
    refine W.eq (g2 := F0 m (pc + 3) ls (.ref T.heap.size :: rest)) rfl ?_
    refine lv_dup hexec hb d3 rfl ?_
    refine va_ldcS hexec hb hown' (hstr.warm hW') d4 ?_
    intro T2 hT2 X2
    obtain ⟨U, st, hrun, hend, hW, hsame, ce, hce, hoc⟩ := X2.ctorThrowS hexec (htr e X2.admits) hown' hcls hnames hat' (fun x hx => by cases hx) hcX hkX (a := T.heap.size) (by rw [hT2]; exact h2) (by rw [hhp]; exact Nat.le_refl _) (msg := .ref sa) rfl
      (g := F0 m (pc + 6) ls (.ref sa :: .ref T.heap.size :: .ref T.heap.size :: rest)) rfl hsize rfl rfl (rest := rest) rfl (by rw [hb]; exact d6) (by rw [hb]; exact d9) (fun x hx => (hout x hx).elim) hRframes
      (by
        have h0 : (F0 m (pc + 6) ls (.ref sa :: .ref T.heap.size :: .ref T.heap.size :: rest)).monitorRoom = 0 := rfl
        rw [h0]
        simp only [List.map_cons, List.sum_cons, Value.category]
        show 2 * 0 + (1 + (rest.map fun v => v.category).sum) + (13 * (names.length + 1) + 42) ≤ R.locals
        omega) hlocks
    exact ⟨U, st, hrun, hend, hW, hsame, ce, hce, hoc⟩
  obtain ⟨U, st, hrun, hend, hW, hsame, ce, hce, hoc⟩ := K T rfl Y
  have hfr : ∀ a : Nat, a < T.heap.size → U.heap[a]? = T.heap[a]? := by
    intro a ha
    obtain ⟨-, -, -, -, -, h6⟩ := hsame
    obtain ⟨c9, e1, e2, e3, e4⟩ := h6 a _ (by rw [hhp]; exact Array.getElem?_eq_getElem ha)
    have h9 : c9.slots = (T.heap[a]).slots := Array.ext_getElem? fun i => e4 i (by simp)
    rw [h9] at e2
    have e5 : U.heap[a]? = some c9 := e1
    rw [e5, e2, Array.getElem?_eq_getElem ha]
  have hsz : T.heap.size ≤ U.heap.size := by
    have h2 := hsame.2.1
    rw [hhp] at h2
    exact h2
  have hWs : s.WarmedH U.vm := by
    have h9 := hW
    rw [← hs'] at h9
    exact h9
  have hsm : s.sameButNew ({ U with vm := s.vm } : State) locs (cells + 1) (slots + 6) := by
    have h9 : (T.setVm s.vm).sameButNew ({ U with vm := s.vm } : State) [] 1 6 := by
      have h8 := hsame
      rw [hvm, ← hs'] at h8
      obtain ⟨q1, q2⟩ := h8
      exact ⟨by rw [State.setFrames_setFrames] at q1; exact q1, q2⟩
    have h7 := X.same.trans h9
    rw [List.append_nil] at h7
    exact h7
  exact ⟨U, st, .threw T.heap.size, hrun, hend, hq U T.heap.size ce hWs.alike hsz hfr hce hoc.vm (by have h5 := hoc.cls; rw [hvm] at h5; exact h5), hWs, locs, hsm.mono hc hs, hf⟩
end EXT
