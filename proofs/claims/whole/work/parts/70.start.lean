/-! what holds at the law's entry, in the words of the rows above -/
theorem env0 {p : Program} {s : State} {m : MethodId} {meth : Method} {c : Code} {b L : Nat} {xs : Nat → Int32} (C0 : lw_At p s m meth c b L xs) : ∃ tp : Nat, EnvA tp (fun q : Nat => s.heap.size ≤ q) s s.heap ∧ NcA s := by
  obtain ⟨hx, hb, hr, hml, hown, hts, hX, hbl, hlocks, hgv⟩ := C0
  have hA0 : ∀ a : Nat, a < s.heap.size → ¬ (s.heap.size ≤ a) := fun a h => Nat.not_le.mpr h
  have hs := flat_of_before _ hgv
  have tb : ∀ w ∈ tables_1, w.before #[Value.ref b] s = true := fun w h => hts w (List.mem_append_right _ h)
  have e0 : (Cond.eq (.elem (.static "AllocForge$Code" "PRICES" "[I") (.int 0)) (.int 1)).before #[Value.ref b] s = true := hs _ (by decide +kernel)
  have e1 : (Cond.eq (.elem (.static "AllocForge$Code" "PRICES" "[I") (.int 1)) (.int 10)).before #[Value.ref b] s = true := hs _ (by decide +kernel)
  have e2 : (Cond.eq (.elem (.static "AllocForge$Code" "PRICES" "[I") (.int 2)) (.int 100)).before #[Value.ref b] s = true := hs _ (by decide +kernel)
  have e3 : (Cond.eq (.elem (.static "AllocForge$Code" "PRICES" "[I") (.int 3)) (.int 1000)).before #[Value.ref b] s = true := hs _ (by decide +kernel)
  have el : (Cond.eq (.length (.static "AllocForge$Code" "PRICES" "[I")) (.int 4)).before #[Value.ref b] s = true := hs _ (by decide +kernel)
  have ea : (Cond.arrayOf (.static "AllocForge$Code" "PRICES" "[I") .int).before #[Value.ref b] s = true := hs _ (by decide +kernel)
  obtain ⟨tp, htp, hT⟩ := va_Tof (args := #[Value.ref b]) (s := s) (tm := .static "AllocForge$Code" "PRICES" "[I") (ty := .int) (N := 4) (f := fun j => .int (nI (prc j))) (A := fun q : Nat => s.heap.size ≤ q) (by decide) ea (va_eqt el) (fun j hj => by
    have : j = 0 ∨ j = 1 ∨ j = 2 ∨ j = 3 := by omega
    rcases this with rfl | rfl | rfl | rfl
    · exact va_eqt e0
    · exact va_eqt e1
    · exact va_eqt e2
    · exact va_eqt e3) hA0
  refine ⟨tp, ⟨va_Zref (tb _ (List.mem_of_getElem? (i := 151) (by decide +kernel))) (tb _ (List.mem_of_getElem? (i := 2) (by decide +kernel))) htp hA0, hT, ?_, ?_, ?_, ?_⟩, ?_⟩
  · exact ex_L.of (args := #[Value.ref b]) (tb _ (List.mem_of_getElem? (i := 189) (by decide +kernel))) (hs _ (by decide +kernel)) hA0
  · exact ex_L.of (args := #[Value.ref b]) (tb _ (List.mem_of_getElem? (i := 191) (by decide +kernel))) (hs _ (by decide +kernel)) hA0
  · intro w hw
    obtain ⟨h1, h2⟩ := List.mem_filter.mp hw
    have h3 := tb w h1
    cases w <;> first | exact va_Nw.of rfl h3 | exact (Bool.false_ne_true h2).elim
  · have hall : ∀ q ∈ STR, q.1 = "AllocForge" := by decide +kernel
    obtain ⟨cur, kC, hfc, -⟩ := Cond.instantiable_spec (tb _ (List.mem_of_getElem? (i := 16) (by decide +kernel)) : (Cond.instantiable "AllocForge" 7).before #[Value.ref b] s = true)
    intro q hq
    obtain ⟨w, hw, he⟩ := List.mem_filterMap.mp hq
    have hw2 := tb w hw
    cases w <;> try (cases he; done)
    rename_i a k t
    cases he
    have ha : a = "AllocForge" := hall _ hq
    subst ha
    obtain ⟨k9, cf, i, sa, -, -, -, -, -, hev⟩ := Cond.stringRef_spec hfc hw2
    exact ⟨sa, vk_R.of hw2 hev⟩
  · intro q hq
    simp only [NCL, List.mem_cons, List.not_mem_nil, or_false] at hq
    rcases hq with rfl | rfl | rfl | rfl
    · exact va_Nc.of (args := #[Value.ref b]) (hs _ (by decide +kernel))
    · exact va_Nc.of (args := #[Value.ref b]) (hs _ (by decide +kernel))
    · exact va_Nc.of (args := #[Value.ref b]) (hs _ (by decide +kernel))
    · exact va_Nc.of (args := #[Value.ref b]) (hs _ (by decide +kernel))
theorem arr0 {s : State} {args : Array Value} {ty : FieldType} (hty : ty = .int ∨ ty = .long ∨ ty = .double) (h : (Cond.arrayClass ty).before args s = true) : ∃ cA : ClassId, ArrOfT s cA ty ∧ va_RA s cA ty := by
  obtain ⟨cA, kA, comp, h1, h2, h3⟩ := Cond.arrayClass_spec h
  refine ⟨cA, fun n z => ⟨fun k h => (by cases h), kA, h2, comp, h3⟩, ?_⟩
  rcases hty with rfl | rfl | rfl <;> exact h1
theorem K0 {p : Program} {s : State} {m : MethodId} {meth : Method} {c : Code} {b L : Nat} {xs : Nat → Int32} (C0 : lw_At p s m meth c b L xs) : ∃ (dC : Nat → ClassId) (dI : Nat → Nat → Nat) (cI cL cD : ClassId), va_K (dC, dI) vwCl [(cI, .int), (cL, .long), (cD, .double)] s := by
  obtain ⟨hx, hb, hr, hml, hown, hts, hX, hbl, hlocks, hgv⟩ := C0
  have hg : ∀ w ∈ TG, w.before #[Value.ref b] s = true := fun w h => hts w (tg_in h)
  have tb : ∀ w ∈ tables_1, w.before #[Value.ref b] s = true := fun w h => hts w (List.mem_append_right _ h)
  obtain ⟨c0, i0, k0⟩ := u_known (C := R_Al) (T := T_Al) (N := 3) (n := 3) hg in_Al (tb _ (List.mem_of_getElem? (i := 81) (by decide +kernel)))
  obtain ⟨c1, i1, k1⟩ := u_known (C := R_Co) (T := T_Co) (N := 8) (n := 8) hg in_Co (tb _ (List.mem_of_getElem? (i := 24) (by decide +kernel)))
  obtain ⟨c2, i2, k2⟩ := u_known (C := R_Ma) (T := T_Ma) (N := 6) (n := 6) hg in_Ma (tb _ (List.mem_of_getElem? (i := 56) (by decide +kernel)))
  obtain ⟨c3, i3, k3⟩ := u_known (C := R_AF) (T := T_AF) (N := 7) (n := 7) hg in_AF (tb _ (List.mem_of_getElem? (i := 16) (by decide +kernel)))
  obtain ⟨c4, i4, k4⟩ := u_known (C := R_Mo) (T := T_Mo) (N := 18) (n := 18) hg in_Mo (tb _ (List.mem_of_getElem? (i := 565) (by decide +kernel)))
  obtain ⟨cI, aI⟩ := arr0 (Or.inl rfl) (hg _ tw_54)
  obtain ⟨cL, aL⟩ := arr0 (Or.inr (Or.inl rfl)) (hg _ tw_750)
  obtain ⟨cD, aD⟩ := arr0 (Or.inr (Or.inr rfl)) (hg _ tw_751)
  refine ⟨fun k => if k = 0 then c0 else if k = 1 then c1 else if k = 2 then c2 else if k = 3 then c3 else c4, fun k => if k = 0 then i0 else if k = 1 then i1 else if k = 2 then i2 else if k = 3 then i3 else i4, cI, cL, cD, ?_, ?_⟩
  · intro k q hq
    match k, hq with
    | 0, hq => cases hq; exact k0
    | 1, hq => cases hq; exact k1
    | 2, hq => cases hq; exact k2
    | 3, hq => cases hq; exact k3
    | 4, hq => cases hq; exact k4
    | k + 5, hq => simp [vwCl] at hq
  · intro k q hq
    match k, hq with
    | 0, hq => cases hq; exact aI
    | 1, hq => cases hq; exact aL
    | 2, hq => cases hq; exact aD
    | k + 3, hq => simp at hq
section STA
variable {p : Program} {l : Launch} {e : Env} {R : Room} {s : State} {m : MethodId} {args : Array Value} {below : List Frame} {meth : Method} {c : Code} {H : Heap} {locs : List Loc} {cells slots : Nat} {Q : State → Prop}
variable {y : MethodName} {bytes cc : ByteArray} {maxL nL mc ms n index : Nat} {ret : Option FieldType} {ws : List Cond} {rm : Room} {Ts : List Cond} {own C : String} {b : Addr} {As rest st0 : List Value} {pc : Nat} {ls : Array Slot}
variable {D : va_G} {cl : List vw_C} {wc w0 wr w : va_W} {tc tys : List (ClassId × FieldType)} {tp : Nat} {A : Nat → Prop} {S' : Type} {wp : S' → va_W} {postv : S' → Prop} {cI cL cD : ClassId}
theorem chIE (S : CallFix p m c cc nL s args Ts own)
    (hM : Met l y ws rm (va_Pc (.ref b :: As) (PME D cl wc tc H.size tp)) (va_Qv postv (MB D cl wp tc (va_A wc H.size)) (va_A wc H.size)) mc ms (va_A wc H.size)) (cw : CallB R s args own index y bytes maxL none ws rm mc ms n ∧ y.name = "<init>" ∧ (Cond.instanceMethod y).before args s = true) (hE : EnvA tp A s s.heap)
    (hK : va_K D cl tc s) (hP : va_P D cl w0 H) (hD : va_D A w0) (hS : va_S A s.heap H locs) (hA : ∀ q, s.heap.size ≤ q → A q) (isC isR : List Nat) (hC : isC.map (fun i => w0[i]?) = wc.map some) (hR : isR.map (fun i => w0[i]?) = wr.map some) (hnc : va_nd isC = true) (hnr : va_nd isR = true) (hdis : ∀ i ∈ isR, i ∉ isC)
    (hn : As.length = n) (hsize : ls.size = nL) (hst : st0 = As.reverse ++ .ref b :: rest) (hW : 2 * (F0 m pc ls rest).monitorRoom + (rest.map fun v => v.category).sum ≤ 8) (hdg : decode cc pc = .ok (.invokespecial index, 3)) (hf : cells + mc ≤ R.cells ∧ slots + ms ≤ R.slots)
    (kk : ∀ (u : S') (H1 : Heap) (locs1 : List Loc), postv u → va_P D cl (wr ++ wp u) H1 → va_D A (wr ++ wp u) → va_S A s.heap H1 locs1 → W p l e R s m args below meth c H1 locs1 (cells + mc) (slots + ms) Q (F0 m (pc + 3) ls rest)) :
    W p l e R s m args below meth c H locs cells slots Q (F0 m pc ls st0) := by
  have hPc := hP.sub isC (sub_of isC hC)
  have hDc := hD.sub isC hnc hC
  have hFc := va_free (wc := wc) hD hS hA isC hC
  refine va_callv (va_runI (g := F0 m pc ls st0) S hM cw (PME_S hE hS hFc hK hPc hDc) rfl hn hsize hst hW hdg hf) hS (fun q _ h => hFc q h) hFc (fun u t H1 locs1 ht hvm hw hB hz1 hk1 hS1 => ?_)
  obtain ⟨hP1, -, hD1⟩ := hB
  rw [ht] at hP1
  obtain ⟨hP2, hD2⟩ := va_join (wr := wr) (w1 := wp u) hP hD isC isR hC hR hnr hdis hk1 hFc hP1 hD1
  exact kk u H1 locs1 hw hP2 hD2 hS1
theorem wb_newL (hexec : p.tables.exec = Jvm.exec) (hb : c.code = cc) (harr : (Cond.arrayClass .long).before args s = true) (hK : va_K D cl [(cI, .int), (cL, .long), (cD, .double)] s) (hP : va_P D cl w0 H) (hD : va_D A w0) (hS : va_S A s.heap H locs) (hA : ∀ q, s.heap.size ≤ q → A q)
    (hcells : cells + 1 ≤ R.cells) (hslots : slots + 1 ≤ R.slots) (hdg : decode cc pc = .ok (.newarray .long, 2))
    (kk : ∀ (q : Nat) (H1 : Heap), va_P D cl (w0 ++ [(q, .inl (cL, 1, .inr (.inl (fun _ => 0))))]) H1 → va_D A (w0 ++ [(q, .inl (cL, 1, .inr (.inl (fun _ => 0))))]) → va_S A s.heap H1 locs →
      W p l e R s m args below meth c H1 locs (cells + 1) (slots + 1) Q (F0 m (pc + 2) ls (.ref q :: rest))) : W p l e R s m args below meth c H locs cells slots Q (F0 m pc ls (.int 1 :: rest)) := by
  refine va_newa (atype := .long) (a0 := (1, .inr (.inl (fun _ => 0)))) (ty := .long) (N' := 1) (n := 1) hexec hb harr rfl hK hP hD hS hA (fun _ => rfl) (by decide) (by decide) (by decide) hcells hslots hdg (fun q cA H1 hK1 hP1 hD1 hS1 => ?_)
  have e1 := (hK.2 1 _ rfl).2
  have e2 := (hK1.2 3 _ rfl).2
  obtain rfl : cL = cA := Option.some.inj (e1.symm.trans e2)
  exact kk q H1 hP1 hD1 hS1
theorem wb_newD (hexec : p.tables.exec = Jvm.exec) (hb : c.code = cc) (harr : (Cond.arrayClass .double).before args s = true) (hK : va_K D cl [(cI, .int), (cL, .long), (cD, .double)] s) (hP : va_P D cl w0 H) (hD : va_D A w0) (hS : va_S A s.heap H locs) (hA : ∀ q, s.heap.size ≤ q → A q)
    (hcells : cells + 1 ≤ R.cells) (hslots : slots + 1 ≤ R.slots) (hdg : decode cc pc = .ok (.newarray .double, 2))
    (kk : ∀ (q : Nat) (H1 : Heap), va_P D cl (w0 ++ [(q, .inl (cD, 1, .inr (.inr (.inr (.inl (fun _ => FP.dconst0))))))]) H1 → va_D A (w0 ++ [(q, .inl (cD, 1, .inr (.inr (.inr (.inl (fun _ => FP.dconst0))))))]) → va_S A s.heap H1 locs →
      W p l e R s m args below meth c H1 locs (cells + 1) (slots + 1) Q (F0 m (pc + 2) ls (.ref q :: rest))) : W p l e R s m args below meth c H locs cells slots Q (F0 m pc ls (.int 1 :: rest)) := by
  refine va_newa (atype := .double) (a0 := (1, .inr (.inr (.inr (.inl (fun _ => FP.dconst0)))))) (ty := .double) (N' := 1) (n := 1) hexec hb harr rfl hK hP hD hS hA (fun _ => rfl) (by decide) (by decide) (by decide) hcells hslots hdg (fun q cA H1 hK1 hP1 hD1 hS1 => ?_)
  have e1 := (hK.2 2 _ rfl).2
  have e2 := (hK1.2 3 _ rfl).2
  obtain rfl : cD = cA := Option.some.inj (e1.symm.trans e2)
  exact kk q H1 hP1 hD1 hS1
end STA
