/-! throwing in this class: the words of its four exceptions; calls of methods that may throw; the ends -/
def excN : List String := ["java/lang/RuntimeException", "java/lang/Exception"]
def atomOK (w : Cond) : Bool := (w.onTables && (decide (w ∈ TG) || decide (w ∈ XW))) || decide (w = .isRef (.static Bundle.tN "UNASSIGNED_STACK" Bundle.steD)) || decide (w = .isRef (.static Bundle.tN "SUPPRESSED_SENTINEL" Bundle.listD)) || decide (w = .laysStatic Bundle.tN "UNASSIGNED_STACK" Bundle.steD) || decide (w = .laysStatic Bundle.tN "SUPPRESSED_SENTINEL" Bundle.listD)
theorem at_IAE : (Bundle.ownAtoms "AllocForge" 51 "java/lang/IllegalArgumentException" excN).all atomOK = true := by decide +kernel
theorem at_ISE : (Bundle.ownAtoms "AllocForge" 62 "java/lang/IllegalStateException" excN).all atomOK = true := by decide +kernel
theorem at_IOE : (Bundle.ownAtoms "AllocForge" 139 "java/lang/IndexOutOfBoundsException" excN).all atomOK = true := by decide +kernel
theorem at_ARE : (Bundle.ownAtoms "AllocForge" 189 "java/lang/ArithmeticException" excN).all atomOK = true := by decide +kernel
theorem atomOK_spec {w : Cond} (h : atomOK w = true) : (w.onTables = true ∧ (w ∈ TG ∨ w ∈ XW)) ∨ w = .isRef (.static Bundle.tN "UNASSIGNED_STACK" Bundle.steD) ∨ w = .isRef (.static Bundle.tN "SUPPRESSED_SENTINEL" Bundle.listD) ∨ w = .laysStatic Bundle.tN "UNASSIGNED_STACK" Bundle.steD ∨ w = .laysStatic Bundle.tN "SUPPRESSED_SENTINEL" Bundle.listD := by
  simp only [atomOK, Bool.or_eq_true, Bool.and_eq_true, decide_eq_true_eq] at h
  rcases h with (((⟨h1, h2⟩ | h) | h) | h) | h
  · exact Or.inl ⟨h1, h2⟩
  · exact Or.inr (Or.inl h)
  · exact Or.inr (Or.inr (Or.inl h))
  · exact Or.inr (Or.inr (Or.inr (Or.inl h)))
  · exact Or.inr (Or.inr (Or.inr (Or.inr h)))
theorem XW_use {w : Cond} (hw : isXW w = true) {s : State} {args : Array Value} (h : va_Nw w s) : w.before args s = true := by
  cases w <;> first | exact va_Nw.use rfl h | exact (Bool.false_ne_true hw).elim
section EXT2
variable {p : Program} {l : Launch} {e : Env} {R : Room} {s : State} {m : MethodId} {args : Array Value} {below : List Frame} {meth : Method} {c : Code} {H : Heap} {locs : List Loc} {cells slots : Nat} {Q : State → Prop}
variable {y : MethodName} {bytes cc : ByteArray} {maxL nL mc ms n index : Nat} {ret : Option FieldType} {ws : List Cond} {rm : Room} {Ts : List Cond} {own C : String} {b : Addr} {As rest st0 : List Value} {pc : Nat} {ls : Array Slot}
variable {D : va_G} {cl : List vw_C} {wc w0 wr w : va_W} {tc tys : List (ClassId × FieldType)} {tp : Nat} {A : Nat → Prop} {S' : Type} {post : Option Value ⊕ String → S' → Prop} {wp : S' → va_W} {H0 : Heap}
theorem PME_S (hE : EnvA tp A s s.heap) (hS : va_S A s.heap H locs) (hF : ∀ q, va_A wc H.size q → A q) (hK : va_K D cl tc s) (hP : va_P D cl wc H) (hD : va_D A wc) : PreS s H (va_Pc As (PME D cl wc tc H.size tp)) As :=
  ⟨PME_blind, fun U hU hW => ⟨rfl, by rw [hU], by rw [hU]; exact hP, va_K.moved hW.alike hK, hD.weaken (fun _ _ _ _ => trivial), hE.go hS.2.1 hF hU hW⟩⟩
/-- throw new E("text") -/
theorem thrE (hexec : p.tables.exec = Jvm.exec) (hb : c.code = cc) (htr : ∀ e : Env, l.admits e → e.platform.stackTraces = false) {cls text : String} {ik is ic : Nat}
    (hown : s.vm.findClass "AllocForge" = some m.cls) (hg : ∀ w ∈ TG, w.before args s = true) (hE : EnvA tp A s s.heap) (hcls : Bundle.fit cls = true) (hat : (Bundle.ownAtoms "AllocForge" ic cls excN).all atomOK = true)
    (hk : Cond.classLink "AllocForge" ik cls ∈ TG) (hini : Cond.initialized cls ∈ TG) (hins : Cond.instantiable cls 6 ∈ TG) (hstr : ("AllocForge", is, text) ∈ STR) (hS : va_S A s.heap H locs) (hml : c.maxLocals = nL) (hsize : ls.size = nL)
    (d0 : decode cc pc = .ok (.new ik, 3)) (d3 : decode cc (pc + 3) = .ok (.dup, 1)) (d4 : decode cc (pc + 4) = .ok (.ldc is, 2)) (d6 : decode cc (pc + 6) = .ok (.invokespecial ic, 3)) (d9 : decode cc (pc + 9) = .ok (.athrow, 1))
    (hout : ∀ x ∈ c.exceptionTable.toList, False) (hRf : 6 ≤ R.frames) (hRl : (rest.map fun v => v.category).sum + 82 ≤ R.locals) (hRc : cells + 1 ≤ R.cells) (hRs : slots + 6 ≤ R.slots) (hlocks : meth.locks = false)
    (hK : va_K D cl tys s) (hP : va_P D cl w H) (hD : va_D A w) (u : S') (hu : wp u = w) (hpost : post (.inr cls) u) (hc : cells + 1 ≤ mc) (hs : slots + 6 ≤ ms) :
    W p l e R s m args below meth c H locs cells slots (ex_MQ below (ex_Q post (MB D cl wp tys A) A) args s mc ms A) (F0 m pc ls rest) := by
  obtain ⟨sa, hsa⟩ := hE.2.2.2.2.2 _ hstr
  refine ex_throwS (names := excN) hexec hb htr hown hcls (by decide) (hg _ hk) (hg _ hini) (hg _ hins) hsa ?_ hE.2.2.1 hE.2.2.2.1 hS (hsize.trans hml.symm) d0 d3 d4 d6 d9 hout (Nat.lt_of_lt_of_le (by decide) hRf) hRl hRc hRs hlocks ?_ hS.2.2 hc hs
  · intro w hw
    rcases atomOK_spec (List.all_eq_true.mp hat w hw) with ⟨h1, h2⟩ | h
    · refine Or.inl ⟨h1, ?_⟩
      rcases h2 with h2 | h2
      · exact hg w h2
      · exact XW_use (List.mem_filter.mp h2).2 (hE.2.2.2.2.1 w h2)
    · exact Or.inr h
  · intro t q ce hal hsz hkept hce hv hcl9
    have hP9 : va_P D cl w t.heap := hP.kept (fun k q9 hk9 => hkept q9.1 (hP k q9 hk9).lt)
    exact ⟨⟨u, Or.inr ⟨q, cls, ce, rfl, hce, hv, hcl9, hpost⟩, by rw [hu]; exact hP9, va_K.moved hal hK, by rw [hu]; exact hD⟩, Nat.le_trans hS.1 hsz, fun q9 h1 h2 => (hkept q9 (Nat.lt_of_lt_of_le h1 hS.1)).trans (hS.2.1 q9 h1 h2)⟩
/-- an exception that goes on to the caller -/
theorem outE {E : String} {ce : Cell} {q : Addr} (hout : ∀ x ∈ c.exceptionTable.toList, False) (hlocks : meth.locks = false) (hS : va_S A s.heap H locs) (hce : H[q]? = some ce) (hv : ce.vm = .none) (hcl : s.vm.findClass E = some ce.cls)
    (hK : va_K D cl tys s) (hP : va_P D cl w H) (hD : va_D A w) (u : S') (hu : wp u = w) (hpost : post (.inr E) u) (hc : cells ≤ mc) (hs : slots ≤ ms) :
    ex_W p l e R s m args below meth c H locs cells slots (ex_MQ below (ex_Q post (MB D cl wp tys A) A) args s mc ms A) (F0 m pc ls rest) q :=
  ex_out (fun x hx => (hout x hx).elim) hlocks (fun t ht hal => ⟨⟨u, Or.inr ⟨q, E, ce, rfl, by rw [ht]; exact hce, hv, hcl, hpost⟩, by rw [ht, hu]; exact hP, va_K.moved hal hK, by rw [hu]; exact hD⟩, hS.F ht⟩) hS.2.2 hc hs
theorem exV {ci q0 : Nat} {fs : List Value} {T : u_T} {N : Nat} (S : CallFix p m c cc nL s args Ts own)
    (hM : ex_Met l y ws rm (va_Pc (.ref b :: As) (PME D cl wc tc H.size tp)) (ex_Q post (MB D cl wp tc (va_A wc H.size)) (va_A wc H.size)) mc ms (va_A wc H.size)) (cw : CallW R s args own C index y bytes maxL ret ws rm mc ms n) (hE : EnvA tp A s s.heap)
    (hK : va_K D cl tc s) (hP : va_P D cl w0 H) (hD : va_D A w0) (hS : va_S A s.heap H locs) (hA : ∀ q, s.heap.size ≤ q → A q) (isC isR : List Nat) (hC : isC.map (fun i => w0[i]?) = wc.map some) (hR : isR.map (fun i => w0[i]?) = wr.map some) (hnc : va_nd isC = true) (hnr : va_nd isR = true) (hdis : ∀ i ∈ isR, i ∉ isC)
    (hc : cl[ci]? = some (C, T, N)) (he : wc[q0]? = some (b, .inr (ci, fs))) (hn : As.length = n) (hsize : ls.size = nL) (hst : st0 = As.reverse ++ .ref b :: rest) (hW : 2 * (F0 m pc ls rest).monitorRoom + (rest.map fun v => v.category).sum ≤ 8) (hdg : decode cc pc = .ok (.invokevirtual index, 3)) (hf : cells + mc ≤ R.cells ∧ slots + ms ≤ R.slots)
    (kk : ∀ (v : Option Value) (u : S') (H1 : Heap) (locs1 : List Loc), post (.inl v) u → va_P D cl (wr ++ wp u) H1 → va_D A (wr ++ wp u) → va_S A s.heap H1 locs1 → W p l e R s m args below meth c H1 locs1 (cells + mc) (slots + ms) Q (F0 m (pc + 3) ls (v.toList ++ rest)))
    (kx : ∀ (E : String) (ce : Cell) (q9 : Addr) (u : S') (H1 : Heap) (locs1 : List Loc), post (.inr E) u → va_P D cl (wr ++ wp u) H1 → va_D A (wr ++ wp u) → va_S A s.heap H1 locs1 → H1[q9]? = some ce → ce.vm = .none → s.vm.findClass E = some ce.cls → ex_W p l e R s m args below meth c H1 locs1 (cells + mc) (slots + ms) Q (F0 m pc ls rest) q9) :
    W p l e R s m args below meth c H locs cells slots Q (F0 m pc ls st0) := by
  have hPc := hP.sub isC (sub_of isC hC)
  have hDc := hD.sub isC hnc hC
  have hFc := va_free (wc := wc) hD hS hA isC hC
  have J : ∀ (u : S') (t : State) (H1 : Heap), t.heap = H1 → MB D cl wp tc (va_A wc H.size) u t → (∀ q : Nat, q < H.size → ¬ va_A wc H.size q → H1[q]? = H[q]?) → va_P D cl (wr ++ wp u) H1 ∧ va_D A (wr ++ wp u) := by
    intro u t H1 ht hB hk1
    obtain ⟨hP1, -, hD1⟩ := hB
    rw [ht] at hP1
    exact va_join (wr := wr) (w1 := wp u) hP hD isC isR hC hR hnr hdis hk1 hFc hP1 hD1
  refine ex_call (ex_runV (g := F0 m pc ls st0) S hM cw (PME_V hE hS hFc hK hPc hDc hc he) rfl hn hsize hst hW hdg hf) hS (fun q _ h => hFc q h) hFc (fun v u t H1 locs1 ht hvm hw hB hz1 hk1 hS1 => ?_) (fun E ce q9 u t H1 locs1 ht hvm hw hB hz1 hk1 hS1 h1 h2 h3 => ?_)
  · obtain ⟨hP2, hD2⟩ := J u t H1 ht hB hk1
    exact kk v u H1 locs1 hw hP2 hD2 hS1
  · obtain ⟨hP2, hD2⟩ := J u t H1 ht hB hk1
    exact kx E ce q9 u H1 locs1 hw hP2 hD2 hS1 h1 h2 h3
theorem exS (S : CallFix p m c cc nL s args Ts own)
    (hM : ex_Met l y ws rm (va_Pc As (PME D cl wc tc H.size tp)) (ex_Q post (MB D cl wp tc (va_A wc H.size)) (va_A wc H.size)) mc ms (va_A wc H.size)) (cw : CallB R s args own index y bytes maxL ret ws rm mc ms n ∧ (Cond.static y).before args s = true) (hE : EnvA tp A s s.heap)
    (hK : va_K D cl tc s) (hP : va_P D cl w0 H) (hD : va_D A w0) (hS : va_S A s.heap H locs) (hA : ∀ q, s.heap.size ≤ q → A q) (isC isR : List Nat) (hC : isC.map (fun i => w0[i]?) = wc.map some) (hR : isR.map (fun i => w0[i]?) = wr.map some) (hnc : va_nd isC = true) (hnr : va_nd isR = true) (hdis : ∀ i ∈ isR, i ∉ isC)
    (hn : As.length = n) (hsize : ls.size = nL) (hst : st0 = As.reverse ++ rest) (hW : 2 * (F0 m pc ls rest).monitorRoom + (rest.map fun v => v.category).sum ≤ 8) (hdg : decode cc pc = .ok (.invokestatic index, 3)) (hf : cells + mc ≤ R.cells ∧ slots + ms ≤ R.slots)
    (kk : ∀ (v : Option Value) (u : S') (H1 : Heap) (locs1 : List Loc), post (.inl v) u → va_P D cl (wr ++ wp u) H1 → va_D A (wr ++ wp u) → va_S A s.heap H1 locs1 → W p l e R s m args below meth c H1 locs1 (cells + mc) (slots + ms) Q (F0 m (pc + 3) ls (v.toList ++ rest)))
    (kx : ∀ (E : String) (ce : Cell) (q9 : Addr) (u : S') (H1 : Heap) (locs1 : List Loc), post (.inr E) u → va_P D cl (wr ++ wp u) H1 → va_D A (wr ++ wp u) → va_S A s.heap H1 locs1 → H1[q9]? = some ce → ce.vm = .none → s.vm.findClass E = some ce.cls → ex_W p l e R s m args below meth c H1 locs1 (cells + mc) (slots + ms) Q (F0 m pc ls rest) q9) :
    W p l e R s m args below meth c H locs cells slots Q (F0 m pc ls st0) := by
  have hPc := hP.sub isC (sub_of isC hC)
  have hDc := hD.sub isC hnc hC
  have hFc := va_free (wc := wc) hD hS hA isC hC
  have J : ∀ (u : S') (t : State) (H1 : Heap), t.heap = H1 → MB D cl wp tc (va_A wc H.size) u t → (∀ q : Nat, q < H.size → ¬ va_A wc H.size q → H1[q]? = H[q]?) → va_P D cl (wr ++ wp u) H1 ∧ va_D A (wr ++ wp u) := by
    intro u t H1 ht hB hk1
    obtain ⟨hP1, -, hD1⟩ := hB
    rw [ht] at hP1
    exact va_join (wr := wr) (w1 := wp u) hP hD isC isR hC hR hnr hdis hk1 hFc hP1 hD1
  refine ex_call (ex_runS (g := F0 m pc ls st0) S hM cw (PME_S hE hS hFc hK hPc hDc) rfl hn hsize hst hW hdg hf) hS (fun q _ h => hFc q h) hFc (fun v u t H1 locs1 ht hvm hw hB hz1 hk1 hS1 => ?_) (fun E ce q9 u t H1 locs1 ht hvm hw hB hz1 hk1 hS1 h1 h2 h3 => ?_)
  · obtain ⟨hP2, hD2⟩ := J u t H1 ht hB hk1
    exact kk v u H1 locs1 hw hP2 hD2 hS1
  · obtain ⟨hP2, hD2⟩ := J u t H1 ht hB hk1
    exact kx E ce q9 u H1 locs1 hw hP2 hD2 hS1 h1 h2 h3
variable {postv : S' → Prop}
/-- a constructor of a nest mate -/
theorem chIN {host : String} (S : CallFix p m c cc nL s args Ts own)
    (hM : Met l y ws rm (va_Pc (.ref b :: As) (PM D cl wc tc H.size)) (va_Qv postv (MB D cl wp tc (va_A wc H.size)) (va_A wc H.size)) mc ms (va_A wc H.size)) (cw : va_CN R s args own index y host bytes maxL none ws rm mc ms n ∧ y.name = "<init>" ∧ (Cond.instanceMethod y).before args s = true)
    (hK : va_K D cl tc s) (hP : va_P D cl w0 H) (hD : va_D A w0) (hS : va_S A H0 H locs) (hA : ∀ q, H0.size ≤ q → A q) (isC isR : List Nat) (hC : isC.map (fun i => w0[i]?) = wc.map some) (hR : isR.map (fun i => w0[i]?) = wr.map some) (hnc : va_nd isC = true) (hnr : va_nd isR = true) (hdis : ∀ i ∈ isR, i ∉ isC)
    (hn : As.length = n) (hsize : ls.size = nL) (hst : st0 = As.reverse ++ .ref b :: rest) (hW : 2 * (F0 m pc ls rest).monitorRoom + (rest.map fun v => v.category).sum ≤ 8) (hdg : decode cc pc = .ok (.invokespecial index, 3)) (hf : cells + mc ≤ R.cells ∧ slots + ms ≤ R.slots)
    (kk : ∀ (u : S') (H1 : Heap) (locs1 : List Loc), postv u → va_P D cl (wr ++ wp u) H1 → va_D A (wr ++ wp u) → va_S A H0 H1 locs1 → W p l e R s m args below meth c H1 locs1 (cells + mc) (slots + ms) Q (F0 m (pc + 3) ls rest)) :
    W p l e R s m args below meth c H locs cells slots Q (F0 m pc ls st0) := by
  have hPc := hP.sub isC (sub_of isC hC)
  have hDc := hD.sub isC hnc hC
  have hFc := va_free (wc := wc) hD hS hA isC hC
  refine va_callv (va_runIN (g := F0 m pc ls st0) S hM cw (PM_S hK hPc hDc) rfl hn hsize hst hW hdg hf) hS (fun q _ h => hFc q h) hFc (fun u t H1 locs1 ht hvm hw hB hz1 hk1 hS1 => ?_)
  obtain ⟨hP1, -, hD1⟩ := hB
  rw [ht] at hP1
  obtain ⟨hP2, hD2⟩ := va_join (wr := wr) (w1 := wp u) hP hD isC isR hC hR hnr hdis hk1 hFc hP1 hD1
  exact kk u H1 locs1 hw hP2 hD2 hS1
end EXT2
theorem tg_C {y : MethodName} {bytes : ByteArray} {maxL : Nat} {ret : Option FieldType} (h5 : Cond.code y bytes maxL ret ∈ TG) : GoodIn TG (.code y bytes maxL ret :: TG) := fun w hw => by
  rcases List.mem_cons.mp hw with rfl | h
  · exact ⟨h5, tg_good h5⟩
  · exact ⟨h, tg_good h⟩
