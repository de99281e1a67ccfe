/-! AllocForge$Code: what changes: noteUse, empty, the constructor -/
set_option maxHeartbeats 4000000 in
set_option maxRecDepth 100000 in
theorem c_Co_noteUse (l : Launch) (dC : Nat → ClassId) (dI : Nat → Nat → Nat) (cI : ClassId) (h : Nat) (o1 : Nat) (o2 : Nat) (o3 : Nat) (o4 : Nat) (o5 : Nat) (o6 : Nat) (n : Nat) (vc : Nat) (ops : Nat → Int32) (lf : Nat → Int32) (rg : Nat → Int32) (E : Nat → Nat) (U : Nat → Nat) (P : Nat → Nat) (v : Nat) (u : Nat) (sz : Nat) (hv : v < 24) (hu : u < 24) : Met l y_Co_noteUse ws_Co_noteUse (lvR 0 0 0) (va_Pc [.ref h, .int (nI v), .int (nI u)] (PM (dC, dI) vwCl [(h, .inr (1, [.ref o1, .ref o2, .ref o3, .ref o4, .ref o5, .ref o6, .int (nI n), .int (nI vc)])), (o1, .inl (cI, 24, .inl ops)), (o2, .inl (cI, 24, .inl lf)), (o3, .inl (cI, 24, .inl rg)), (o4, .inl (cI, 24, .inl (fun z9 => nI (E z9)))), (o5, .inl (cI, 24, .inl (fun z9 => nI (U z9)))), (o6, .inl (cI, 24, .inl (fun z9 => nI (P z9))))] [(cI, .int)] sz)) (va_Qv (fun _ : Unit => True) (MB (dC, dI) vwCl (fun _ => [(h, .inr (1, [.ref o1, .ref o2, .ref o3, .ref o4, .ref o5, .ref o6, .int (nI n), .int (nI vc)])), (o1, .inl (cI, 24, .inl ops)), (o2, .inl (cI, 24, .inl lf)), (o3, .inl (cI, 24, .inl rg)), (o4, .inl (cI, 24, .inl (fun z9 => nI ((uN E v u) z9)))), (o5, .inl (cI, 24, .inl (fun z9 => nI ((uN U v (U v + 1)) z9)))), (o6, .inl (cI, 24, .inl (fun z9 => nI ((uN P v (P v + P u)) z9))))]) [(cI, .int)] (va_A [(h, .inr (1, [.ref o1, .ref o2, .ref o3, .ref o4, .ref o5, .ref o6, .int (nI n), .int (nI vc)])), (o1, .inl (cI, 24, .inl ops)), (o2, .inl (cI, 24, .inl lf)), (o3, .inl (cI, 24, .inl rg)), (o4, .inl (cI, 24, .inl (fun z9 => nI (E z9)))), (o5, .inl (cI, 24, .inl (fun z9 => nI (U z9)))), (o6, .inl (cI, 24, .inl (fun z9 => nI (P z9))))] sz)) (va_A [(h, .inr (1, [.ref o1, .ref o2, .ref o3, .ref o4, .ref o5, .ref o6, .int (nI n), .int (nI vc)])), (o1, .inl (cI, 24, .inl ops)), (o2, .inl (cI, 24, .inl lf)), (o3, .inl (cI, 24, .inl rg)), (o4, .inl (cI, 24, .inl (fun z9 => nI (E z9)))), (o5, .inl (cI, 24, .inl (fun z9 => nI (U z9)))), (o6, .inl (cI, 24, .inl (fun z9 => nI (P z9))))] sz)) 0 0 (va_A [(h, .inr (1, [.ref o1, .ref o2, .ref o3, .ref o4, .ref o5, .ref o6, .int (nI n), .int (nI vc)])), (o1, .inl (cI, 24, .inl ops)), (o2, .inl (cI, 24, .inl lf)), (o3, .inl (cI, 24, .inl rg)), (o4, .inl (cI, 24, .inl (fun z9 => nI (E z9)))), (o5, .inl (cI, 24, .inl (fun z9 => nI (U z9)))), (o6, .inl (cI, 24, .inl (fun z9 => nI (P z9))))] sz) := by
  refine Met.ofW (cc := b_Co_noteUse) (maxL := 3) (ret := none) (by decide) rfl ?_
  intro p e s m args below meth c s₁ B hml hv
  obtain ⟨rfl, hsz, hP, hK, hD0⟩ := hv
  have hx := B.exec
  have hb := B.bytes
  have hr := B.returns
  have hts := atoms_spec (ws := ws_Co_noteUse) B.pre
  have hg : ∀ w ∈ TG, w.before ([.ref h, .int (nI v), .int (nI u)] : List Value).toArray s = true := fun w h => hts w (List.mem_cons_of_mem _ h)
  have hown : s.vm.findClass R_Co = some m.cls := findClass_of_methodNamed B.named
  have hlocks := B.notSynchronized
  subst hsz
  have hD := hD0.self (sz := s.heap.size)
  generalize hAe : va_A [(h, .inr (1, [.ref o1, .ref o2, .ref o3, .ref o4, .ref o5, .ref o6, .int (nI n), .int (nI vc)])), (o1, .inl (cI, 24, .inl ops)), (o2, .inl (cI, 24, .inl lf)), (o3, .inl (cI, 24, .inl rg)), (o4, .inl (cI, 24, .inl (fun z9 => nI (E z9)))), (o5, .inl (cI, 24, .inl (fun z9 => nI (U z9)))), (o6, .inl (cI, 24, .inl (fun z9 => nI (P z9))))] s.heap.size = A at hD ⊢
  have hA : ∀ q : Nat, s.heap.size ≤ q → A q := fun q h => by rw [← hAe]; exact Or.inr h
  have hS : va_S A s.heap s.heap [] := va_S.rf
  have hl := lv_entry ([.ref h, .int (nI v), .int (nI u)]) (n := 3) (Nat.le_of_ble_eq_true rfl)
  rw [lg_entry_eq]
  generalize (lg_sl ([.ref h, .int (nI v), .int (nI u)]) ++ List.replicate (3 - (lg_sl ([.ref h, .int (nI v), .int (nI u)])).length) Slot.unset).toArray = ls at hl ⊢
  have hl : lv_has ls 3 [(0, .ref h), (1, .int (nI v)), (2, .int (nI u))] := hl
  refine lv_aload_n hx hb d_Co_noteUse_0 rfl (lv_at hl 0 rfl) ?_
  refine va_get (D := (dC, dI)) (ci := 1) (v := .ref o4) (C := R_Co) (T := T_Co) (N := 8) hx hb hg in_Co hown hK hP 0 rfl rfl 3 (by decide) (hg _ tw_32) (fun _ h9 => h9) rfl d_Co_noteUse_1 ?_
  refine lv_iload_n hx hb d_Co_noteUse_4 rfl (lv_at hl 1 rfl) ?_
  refine lv_iload_n hx hb d_Co_noteUse_5 rfl (lv_at hl 2 rfl) ?_
  refine wb_iastN hx hb hK hP hD hS 4 0 rfl rfl v rfl hv (by decide) u rfl d_Co_noteUse_6 (fun H locs hP hD hS => ?_)
  have hP : va_P (dC, dI) vwCl [(h, .inr (1, [.ref o1, .ref o2, .ref o3, .ref o4, .ref o5, .ref o6, .int (nI n), .int (nI vc)])), (o1, .inl (cI, 24, .inl ops)), (o2, .inl (cI, 24, .inl lf)), (o3, .inl (cI, 24, .inl rg)), (o4, .inl (cI, 24, .inl (fun z9 => nI ((uN E v u) z9)))), (o5, .inl (cI, 24, .inl (fun z9 => nI (U z9)))), (o6, .inl (cI, 24, .inl (fun z9 => nI (P z9))))] H := hP
  have hD : va_D A [(h, .inr (1, [.ref o1, .ref o2, .ref o3, .ref o4, .ref o5, .ref o6, .int (nI n), .int (nI vc)])), (o1, .inl (cI, 24, .inl ops)), (o2, .inl (cI, 24, .inl lf)), (o3, .inl (cI, 24, .inl rg)), (o4, .inl (cI, 24, .inl (fun z9 => nI ((uN E v u) z9)))), (o5, .inl (cI, 24, .inl (fun z9 => nI (U z9)))), (o6, .inl (cI, 24, .inl (fun z9 => nI (P z9))))] := hD
  refine lv_aload_n hx hb d_Co_noteUse_7 rfl (lv_at hl 0 rfl) ?_
  refine va_get (D := (dC, dI)) (ci := 1) (v := .ref o5) (C := R_Co) (T := T_Co) (N := 8) hx hb hg in_Co hown hK hP 0 rfl rfl 4 (by decide) (hg _ tw_33) (fun _ h9 => h9) rfl d_Co_noteUse_8 ?_
  refine lv_iload_n hx hb d_Co_noteUse_11 rfl (lv_at hl 1 rfl) ?_
  refine lv_dup2_11 hx hb d_Co_noteUse_12 rfl rfl ?_
  refine wb_iald hx hb hK hP 5 0 rfl rfl v rfl hv (by decide) d_Co_noteUse_13 ?_
  refine lv_iconst (v := 1) hx hb d_Co_noteUse_14 (by decide) ?_
  refine wb_iadd hx hb (U v) 1 rfl rfl d_Co_noteUse_15 ?_
  refine wb_iastN hx hb hK hP hD hS 5 0 rfl rfl v rfl hv (by decide) ((U v) + 1) rfl d_Co_noteUse_16 (fun H locs hP hD hS => ?_)
  have hP : va_P (dC, dI) vwCl [(h, .inr (1, [.ref o1, .ref o2, .ref o3, .ref o4, .ref o5, .ref o6, .int (nI n), .int (nI vc)])), (o1, .inl (cI, 24, .inl ops)), (o2, .inl (cI, 24, .inl lf)), (o3, .inl (cI, 24, .inl rg)), (o4, .inl (cI, 24, .inl (fun z9 => nI ((uN E v u) z9)))), (o5, .inl (cI, 24, .inl (fun z9 => nI ((uN U v ((U v) + 1)) z9)))), (o6, .inl (cI, 24, .inl (fun z9 => nI (P z9))))] H := hP
  have hD : va_D A [(h, .inr (1, [.ref o1, .ref o2, .ref o3, .ref o4, .ref o5, .ref o6, .int (nI n), .int (nI vc)])), (o1, .inl (cI, 24, .inl ops)), (o2, .inl (cI, 24, .inl lf)), (o3, .inl (cI, 24, .inl rg)), (o4, .inl (cI, 24, .inl (fun z9 => nI ((uN E v u) z9)))), (o5, .inl (cI, 24, .inl (fun z9 => nI ((uN U v ((U v) + 1)) z9)))), (o6, .inl (cI, 24, .inl (fun z9 => nI (P z9))))] := hD
  refine lv_aload_n hx hb d_Co_noteUse_17 rfl (lv_at hl 0 rfl) ?_
  refine va_get (D := (dC, dI)) (ci := 1) (v := .ref o6) (C := R_Co) (T := T_Co) (N := 8) hx hb hg in_Co hown hK hP 0 rfl rfl 5 (by decide) (hg _ tw_34) (fun _ h9 => h9) rfl d_Co_noteUse_18 ?_
  refine lv_iload_n hx hb d_Co_noteUse_21 rfl (lv_at hl 1 rfl) ?_
  refine lv_dup2_11 hx hb d_Co_noteUse_22 rfl rfl ?_
  refine wb_iald hx hb hK hP 6 0 rfl rfl v rfl hv (by decide) d_Co_noteUse_23 ?_
  refine lv_aload_n hx hb d_Co_noteUse_24 rfl (lv_at hl 0 rfl) ?_
  refine va_get (D := (dC, dI)) (ci := 1) (v := .ref o6) (C := R_Co) (T := T_Co) (N := 8) hx hb hg in_Co hown hK hP 0 rfl rfl 5 (by decide) (hg _ tw_34) (fun _ h9 => h9) rfl d_Co_noteUse_25 ?_
  refine lv_iload_n hx hb d_Co_noteUse_28 rfl (lv_at hl 2 rfl) ?_
  refine wb_iald hx hb hK hP 6 0 rfl rfl u rfl hu (by decide) d_Co_noteUse_29 ?_
  refine wb_iadd hx hb (P v) (P u) rfl rfl d_Co_noteUse_30 ?_
  refine wb_iastN hx hb hK hP hD hS 6 0 rfl rfl v rfl hv (by decide) ((P v) + (P u)) rfl d_Co_noteUse_31 (fun H locs hP hD hS => ?_)
  have hP : va_P (dC, dI) vwCl [(h, .inr (1, [.ref o1, .ref o2, .ref o3, .ref o4, .ref o5, .ref o6, .int (nI n), .int (nI vc)])), (o1, .inl (cI, 24, .inl ops)), (o2, .inl (cI, 24, .inl lf)), (o3, .inl (cI, 24, .inl rg)), (o4, .inl (cI, 24, .inl (fun z9 => nI ((uN E v u) z9)))), (o5, .inl (cI, 24, .inl (fun z9 => nI ((uN U v ((U v) + 1)) z9)))), (o6, .inl (cI, 24, .inl (fun z9 => nI ((uN P v ((P v) + (P u))) z9))))] H := hP
  have hD : va_D A [(h, .inr (1, [.ref o1, .ref o2, .ref o3, .ref o4, .ref o5, .ref o6, .int (nI n), .int (nI vc)])), (o1, .inl (cI, 24, .inl ops)), (o2, .inl (cI, 24, .inl lf)), (o3, .inl (cI, 24, .inl rg)), (o4, .inl (cI, 24, .inl (fun z9 => nI ((uN E v u) z9)))), (o5, .inl (cI, 24, .inl (fun z9 => nI ((uN U v ((U v) + 1)) z9)))), (o6, .inl (cI, 24, .inl (fun z9 => nI ((uN P v ((P v) + (P u))) z9))))] := hD
  have hP9 : va_P (dC, dI) vwCl [(h, .inr (1, [.ref o1, .ref o2, .ref o3, .ref o4, .ref o5, .ref o6, .int (nI n), .int (nI vc)])), (o1, .inl (cI, 24, .inl ops)), (o2, .inl (cI, 24, .inl lf)), (o3, .inl (cI, 24, .inl rg)), (o4, .inl (cI, 24, .inl (fun z9 => nI ((uN E v u) z9)))), (o5, .inl (cI, 24, .inl (fun z9 => nI ((uN U v (U v + 1)) z9)))), (o6, .inl (cI, 24, .inl (fun z9 => nI ((uN P v (P v + P u)) z9))))] _ := hP.sub [0, 1, 2, 3, 4, 5, 6] rfl
  have hD9 : va_D A [(h, .inr (1, [.ref o1, .ref o2, .ref o3, .ref o4, .ref o5, .ref o6, .int (nI n), .int (nI vc)])), (o1, .inl (cI, 24, .inl ops)), (o2, .inl (cI, 24, .inl lf)), (o3, .inl (cI, 24, .inl rg)), (o4, .inl (cI, 24, .inl (fun z9 => nI ((uN E v u) z9)))), (o5, .inl (cI, 24, .inl (fun z9 => nI ((uN U v (U v + 1)) z9)))), (o6, .inl (cI, 24, .inl (fun z9 => nI ((uN P v (P v + P u)) z9))))] := hD.sub [0, 1, 2, 3, 4, 5, 6] (by decide) rfl
  exact W.vret hx hb hr (fun t ht hW => ⟨⟨(), rfl, trivial, by rw [ht]; exact hP9, va_K.moved hW.alike hK, hD9⟩, hS.F ht⟩) hS.2.2 d_Co_noteUse_32

set_option maxHeartbeats 4000000 in
set_option maxRecDepth 100000 in
theorem c_Co_empty (l : Launch) (dC : Nat → ClassId) (dI : Nat → Nat → Nat) (cI : ClassId) (h : Nat) (o1 : Nat) (o2 : Nat) (o3 : Nat) (o4 : Nat) (o5 : Nat) (o6 : Nat) (n : Nat) (vc : Nat) (ops : Nat → Int32) (lf : Nat → Int32) (rg : Nat → Int32) (E : Nat → Nat) (U : Nat → Nat) (P : Nat → Nat) (sz : Nat) : Met l y_Co_empty ws_Co_empty (lvR 0 0 0) (va_Pc [.ref h] (PM (dC, dI) vwCl [(h, .inr (1, [.ref o1, .ref o2, .ref o3, .ref o4, .ref o5, .ref o6, .int (nI n), .int (nI vc)])), (o1, .inl (cI, 24, .inl ops)), (o2, .inl (cI, 24, .inl lf)), (o3, .inl (cI, 24, .inl rg)), (o4, .inl (cI, 24, .inl (fun z9 => nI (E z9)))), (o5, .inl (cI, 24, .inl (fun z9 => nI (U z9)))), (o6, .inl (cI, 24, .inl (fun z9 => nI (P z9))))] [(cI, .int)] sz)) (va_Qv (fun _ : Unit => True) (MB (dC, dI) vwCl (fun _ => [(h, .inr (1, [.ref o1, .ref o2, .ref o3, .ref o4, .ref o5, .ref o6, .int ((0 : Int32)), .int ((0 : Int32))])), (o1, .inl (cI, 24, .inl ops)), (o2, .inl (cI, 24, .inl lf)), (o3, .inl (cI, 24, .inl rg)), (o4, .inl (cI, 24, .inl (fun z9 => nI (E z9)))), (o5, .inl (cI, 24, .inl (fun z9 => nI (U z9)))), (o6, .inl (cI, 24, .inl (fun z9 => nI (P z9))))]) [(cI, .int)] (va_A [(h, .inr (1, [.ref o1, .ref o2, .ref o3, .ref o4, .ref o5, .ref o6, .int (nI n), .int (nI vc)])), (o1, .inl (cI, 24, .inl ops)), (o2, .inl (cI, 24, .inl lf)), (o3, .inl (cI, 24, .inl rg)), (o4, .inl (cI, 24, .inl (fun z9 => nI (E z9)))), (o5, .inl (cI, 24, .inl (fun z9 => nI (U z9)))), (o6, .inl (cI, 24, .inl (fun z9 => nI (P z9))))] sz)) (va_A [(h, .inr (1, [.ref o1, .ref o2, .ref o3, .ref o4, .ref o5, .ref o6, .int (nI n), .int (nI vc)])), (o1, .inl (cI, 24, .inl ops)), (o2, .inl (cI, 24, .inl lf)), (o3, .inl (cI, 24, .inl rg)), (o4, .inl (cI, 24, .inl (fun z9 => nI (E z9)))), (o5, .inl (cI, 24, .inl (fun z9 => nI (U z9)))), (o6, .inl (cI, 24, .inl (fun z9 => nI (P z9))))] sz)) 0 0 (va_A [(h, .inr (1, [.ref o1, .ref o2, .ref o3, .ref o4, .ref o5, .ref o6, .int (nI n), .int (nI vc)])), (o1, .inl (cI, 24, .inl ops)), (o2, .inl (cI, 24, .inl lf)), (o3, .inl (cI, 24, .inl rg)), (o4, .inl (cI, 24, .inl (fun z9 => nI (E z9)))), (o5, .inl (cI, 24, .inl (fun z9 => nI (U z9)))), (o6, .inl (cI, 24, .inl (fun z9 => nI (P z9))))] sz) := by
  refine Met.ofW (cc := b_Co_empty) (maxL := 1) (ret := none) (by decide) rfl ?_
  intro p e s m args below meth c s₁ B hml hv
  obtain ⟨rfl, hsz, hP, hK, hD0⟩ := hv
  have hx := B.exec
  have hb := B.bytes
  have hr := B.returns
  have hts := atoms_spec (ws := ws_Co_empty) B.pre
  have hg : ∀ w ∈ TG, w.before ([.ref h] : List Value).toArray s = true := fun w h => hts w (List.mem_cons_of_mem _ h)
  have hown : s.vm.findClass R_Co = some m.cls := findClass_of_methodNamed B.named
  have hlocks := B.notSynchronized
  subst hsz
  have hD := hD0.self (sz := s.heap.size)
  generalize hAe : va_A [(h, .inr (1, [.ref o1, .ref o2, .ref o3, .ref o4, .ref o5, .ref o6, .int (nI n), .int (nI vc)])), (o1, .inl (cI, 24, .inl ops)), (o2, .inl (cI, 24, .inl lf)), (o3, .inl (cI, 24, .inl rg)), (o4, .inl (cI, 24, .inl (fun z9 => nI (E z9)))), (o5, .inl (cI, 24, .inl (fun z9 => nI (U z9)))), (o6, .inl (cI, 24, .inl (fun z9 => nI (P z9))))] s.heap.size = A at hD ⊢
  have hA : ∀ q : Nat, s.heap.size ≤ q → A q := fun q h => by rw [← hAe]; exact Or.inr h
  have hS : va_S A s.heap s.heap [] := va_S.rf
  have hl := lv_entry ([.ref h]) (n := 1) (Nat.le_of_ble_eq_true rfl)
  rw [lg_entry_eq]
  generalize (lg_sl ([.ref h]) ++ List.replicate (1 - (lg_sl ([.ref h])).length) Slot.unset).toArray = ls at hl ⊢
  have hl : lv_has ls 1 [(0, .ref h)] := hl
  refine lv_aload_n hx hb d_Co_empty_0 rfl (lv_at hl 0 rfl) ?_
  refine lv_iconst (v := 0) hx hb d_Co_empty_1 (by decide) ?_
  refine va_put (D := (dC, dI)) (ci := 1) (v := .int ((0 : Int32))) (ty := .int) (C := R_Co) (T := T_Co) (N := 8) hx hb hg in_Co ty_Co tyok_Co nm_Co hown hK hP hD hS 0 rfl rfl 6 (by decide) (hg _ tw_35) (fun _ h9 => h9) rfl (by decide +kernel) rfl rfl (Nat.le_of_ble_eq_true rfl) d_Co_empty_2 (fun H locs hP hD hS => ?_)
  have hP : va_P (dC, dI) vwCl [(h, .inr (1, [.ref o1, .ref o2, .ref o3, .ref o4, .ref o5, .ref o6, .int ((0 : Int32)), .int (nI vc)])), (o1, .inl (cI, 24, .inl ops)), (o2, .inl (cI, 24, .inl lf)), (o3, .inl (cI, 24, .inl rg)), (o4, .inl (cI, 24, .inl (fun z9 => nI (E z9)))), (o5, .inl (cI, 24, .inl (fun z9 => nI (U z9)))), (o6, .inl (cI, 24, .inl (fun z9 => nI (P z9))))] H := hP
  have hD : va_D A [(h, .inr (1, [.ref o1, .ref o2, .ref o3, .ref o4, .ref o5, .ref o6, .int ((0 : Int32)), .int (nI vc)])), (o1, .inl (cI, 24, .inl ops)), (o2, .inl (cI, 24, .inl lf)), (o3, .inl (cI, 24, .inl rg)), (o4, .inl (cI, 24, .inl (fun z9 => nI (E z9)))), (o5, .inl (cI, 24, .inl (fun z9 => nI (U z9)))), (o6, .inl (cI, 24, .inl (fun z9 => nI (P z9))))] := hD
  refine lv_aload_n hx hb d_Co_empty_5 rfl (lv_at hl 0 rfl) ?_
  refine lv_iconst (v := 0) hx hb d_Co_empty_6 (by decide) ?_
  refine va_put (D := (dC, dI)) (ci := 1) (v := .int ((0 : Int32))) (ty := .int) (C := R_Co) (T := T_Co) (N := 8) hx hb hg in_Co ty_Co tyok_Co nm_Co hown hK hP hD hS 0 rfl rfl 7 (by decide) (hg _ tw_36) (fun _ h9 => h9) rfl (by decide +kernel) rfl rfl (Nat.le_of_ble_eq_true rfl) d_Co_empty_7 (fun H locs hP hD hS => ?_)
  have hP : va_P (dC, dI) vwCl [(h, .inr (1, [.ref o1, .ref o2, .ref o3, .ref o4, .ref o5, .ref o6, .int ((0 : Int32)), .int ((0 : Int32))])), (o1, .inl (cI, 24, .inl ops)), (o2, .inl (cI, 24, .inl lf)), (o3, .inl (cI, 24, .inl rg)), (o4, .inl (cI, 24, .inl (fun z9 => nI (E z9)))), (o5, .inl (cI, 24, .inl (fun z9 => nI (U z9)))), (o6, .inl (cI, 24, .inl (fun z9 => nI (P z9))))] H := hP
  have hD : va_D A [(h, .inr (1, [.ref o1, .ref o2, .ref o3, .ref o4, .ref o5, .ref o6, .int ((0 : Int32)), .int ((0 : Int32))])), (o1, .inl (cI, 24, .inl ops)), (o2, .inl (cI, 24, .inl lf)), (o3, .inl (cI, 24, .inl rg)), (o4, .inl (cI, 24, .inl (fun z9 => nI (E z9)))), (o5, .inl (cI, 24, .inl (fun z9 => nI (U z9)))), (o6, .inl (cI, 24, .inl (fun z9 => nI (P z9))))] := hD
  have hP9 : va_P (dC, dI) vwCl [(h, .inr (1, [.ref o1, .ref o2, .ref o3, .ref o4, .ref o5, .ref o6, .int ((0 : Int32)), .int ((0 : Int32))])), (o1, .inl (cI, 24, .inl ops)), (o2, .inl (cI, 24, .inl lf)), (o3, .inl (cI, 24, .inl rg)), (o4, .inl (cI, 24, .inl (fun z9 => nI (E z9)))), (o5, .inl (cI, 24, .inl (fun z9 => nI (U z9)))), (o6, .inl (cI, 24, .inl (fun z9 => nI (P z9))))] _ := hP.sub [0, 1, 2, 3, 4, 5, 6] rfl
  have hD9 : va_D A [(h, .inr (1, [.ref o1, .ref o2, .ref o3, .ref o4, .ref o5, .ref o6, .int ((0 : Int32)), .int ((0 : Int32))])), (o1, .inl (cI, 24, .inl ops)), (o2, .inl (cI, 24, .inl lf)), (o3, .inl (cI, 24, .inl rg)), (o4, .inl (cI, 24, .inl (fun z9 => nI (E z9)))), (o5, .inl (cI, 24, .inl (fun z9 => nI (U z9)))), (o6, .inl (cI, 24, .inl (fun z9 => nI (P z9))))] := hD.sub [0, 1, 2, 3, 4, 5, 6] (by decide) rfl
  exact W.vret hx hb hr (fun t ht hW => ⟨⟨(), rfl, trivial, by rw [ht]; exact hP9, va_K.moved hW.alike hK, hD9⟩, hS.F ht⟩) hS.2.2 d_Co_empty_10

set_option maxHeartbeats 4000000 in
set_option maxRecDepth 100000 in
theorem c_Co_init (l : Launch) (dC : Nat → ClassId) (dI : Nat → Nat → Nat) (cI : ClassId) (h : Nat) (sz : Nat) : Met l y_Co_init ws_Co_init (lvR 1 6 144) (va_Pc [.ref h] (PM (dC, dI) vwCl [(h, .inr (1, [.null, .null, .null, .null, .null, .null, .int ((0 : Int32)), .int ((0 : Int32))]))] [(cI, .int)] sz)) (va_Qv (fun _ : Nat × Nat × Nat × Nat × Nat × Nat => True) (MB (dC, dI) vwCl (fun (u9 : Nat × Nat × Nat × Nat × Nat × Nat) => [(h, .inr (1, [.ref u9.1, .ref u9.2.1, .ref u9.2.2.1, .ref u9.2.2.2.1, .ref u9.2.2.2.2.1, .ref u9.2.2.2.2.2, .int ((0 : Int32)), .int ((0 : Int32))])), (u9.1, .inl (cI, 24, .inl (fun _ => 0))), (u9.2.1, .inl (cI, 24, .inl (fun _ => 0))), (u9.2.2.1, .inl (cI, 24, .inl (fun _ => 0))), (u9.2.2.2.1, .inl (cI, 24, .inl (fun _ => 0))), (u9.2.2.2.2.1, .inl (cI, 24, .inl (fun _ => 0))), (u9.2.2.2.2.2, .inl (cI, 24, .inl (fun _ => 0)))]) [(cI, .int)] (va_A [(h, .inr (1, [.null, .null, .null, .null, .null, .null, .int ((0 : Int32)), .int ((0 : Int32))]))] sz)) (va_A [(h, .inr (1, [.null, .null, .null, .null, .null, .null, .int ((0 : Int32)), .int ((0 : Int32))]))] sz)) 6 144 (va_A [(h, .inr (1, [.null, .null, .null, .null, .null, .null, .int ((0 : Int32)), .int ((0 : Int32))]))] sz) := by
  refine Met.ofW (cc := b_Co_init) (maxL := 1) (ret := none) (by decide) rfl ?_
  intro p e s m args below meth c s₁ B hml hv
  obtain ⟨rfl, hsz, hP, hK, hD0⟩ := hv
  have hx := B.exec
  have hb := B.bytes
  have hr := B.returns
  have hts := atoms_spec (ws := ws_Co_init) B.pre
  have hg : ∀ w ∈ TG, w.before ([.ref h] : List Value).toArray s = true := fun w h => hts w (List.mem_cons_of_mem _ h)
  have hown : s.vm.findClass R_Co = some m.cls := findClass_of_methodNamed B.named
  have hlocks := B.notSynchronized
  have hin : meth.name = "<init>" := (name_of_methodNamed B.named B.method).1
  subst hsz
  have hD := hD0.self (sz := s.heap.size)
  generalize hAe : va_A [(h, .inr (1, [.null, .null, .null, .null, .null, .null, .int ((0 : Int32)), .int ((0 : Int32))]))] s.heap.size = A at hD ⊢
  have hA : ∀ q : Nat, s.heap.size ≤ q → A q := fun q h => by rw [← hAe]; exact Or.inr h
  have hS : va_S A s.heap s.heap [] := va_S.rf
  have hl := lv_entry ([.ref h]) (n := 1) (Nat.le_of_ble_eq_true rfl)
  rw [lg_entry_eq]
  generalize (lg_sl ([.ref h]) ++ List.replicate (1 - (lg_sl ([.ref h])).length) Slot.unset).toArray = ls at hl ⊢
  have hl : lv_has ls 1 [(0, .ref h)] := hl
  refine lv_aload_n hx hb d_Co_init_0 rfl (lv_at hl 0 rfl) ?_
  refine W.objInit hx hb hown (hg _ tw_28) (hg _ tw_21) (hg _ tw_22) rfl (by rw [hml]; exact hl.1) rfl d_Co_init_1 (Nat.le_of_ble_eq_true rfl) (Nat.le_of_ble_eq_true rfl) ?_
  refine W.eq (g2 := F0 m 4 ls []) rfl ?_
  refine lv_aload_n hx hb d_Co_init_4 rfl (lv_at hl 0 rfl) ?_
  refine lv_bipush (v := 24) hx hb d_Co_init_5 (by decide) ?_
  refine wb_newI hx hb (hg _ tw_54) hK hP hD hS hA 24 rfl (by decide) (Nat.le_of_ble_eq_true rfl) (Nat.le_of_ble_eq_true rfl) d_Co_init_7 (fun q1 H hP hD hS => ?_)
  have hP : va_P (dC, dI) vwCl [(h, .inr (1, [.null, .null, .null, .null, .null, .null, .int ((0 : Int32)), .int ((0 : Int32))])), (q1, .inl (cI, 24, .inl (fun _ => 0)))] H := hP
  have hD : va_D A [(h, .inr (1, [.null, .null, .null, .null, .null, .null, .int ((0 : Int32)), .int ((0 : Int32))])), (q1, .inl (cI, 24, .inl (fun _ => 0)))] := hD
  refine W.widen (k := 1) (n := 24) (Nat.le_of_ble_eq_true rfl) (Nat.le_of_ble_eq_true rfl) ?_
  refine va_putF (D := (dC, dI)) (ci := 1) (v := .ref q1) (ty := .array .int) (C := R_Co) (T := T_Co) (N := 8) hx hb hg in_Co ty_Co tyok_Co nm_Co hown hK hP hD hS 0 rfl rfl 0 (by decide) (hg _ tw_29) (fun _ h9 => h9) rfl hin rfl (by decide +kernel) rfl rfl (Nat.le_of_ble_eq_true rfl) d_Co_init_9 (fun H locs hP hD hS => ?_)
  have hP : va_P (dC, dI) vwCl [(h, .inr (1, [.ref q1, .null, .null, .null, .null, .null, .int ((0 : Int32)), .int ((0 : Int32))])), (q1, .inl (cI, 24, .inl (fun _ => 0)))] H := hP
  have hD : va_D A [(h, .inr (1, [.ref q1, .null, .null, .null, .null, .null, .int ((0 : Int32)), .int ((0 : Int32))])), (q1, .inl (cI, 24, .inl (fun _ => 0)))] := hD
  refine lv_aload_n hx hb d_Co_init_12 rfl (lv_at hl 0 rfl) ?_
  refine lv_bipush (v := 24) hx hb d_Co_init_13 (by decide) ?_
  refine wb_newI hx hb (hg _ tw_54) hK hP hD hS hA 24 rfl (by decide) (Nat.le_of_ble_eq_true rfl) (Nat.le_of_ble_eq_true rfl) d_Co_init_15 (fun q2 H hP hD hS => ?_)
  have hP : va_P (dC, dI) vwCl [(h, .inr (1, [.ref q1, .null, .null, .null, .null, .null, .int ((0 : Int32)), .int ((0 : Int32))])), (q1, .inl (cI, 24, .inl (fun _ => 0))), (q2, .inl (cI, 24, .inl (fun _ => 0)))] H := hP
  have hD : va_D A [(h, .inr (1, [.ref q1, .null, .null, .null, .null, .null, .int ((0 : Int32)), .int ((0 : Int32))])), (q1, .inl (cI, 24, .inl (fun _ => 0))), (q2, .inl (cI, 24, .inl (fun _ => 0)))] := hD
  refine W.widen (k := 2) (n := 48) (Nat.le_of_ble_eq_true rfl) (Nat.le_of_ble_eq_true rfl) ?_
  refine va_putF (D := (dC, dI)) (ci := 1) (v := .ref q2) (ty := .array .int) (C := R_Co) (T := T_Co) (N := 8) hx hb hg in_Co ty_Co tyok_Co nm_Co hown hK hP hD hS 0 rfl rfl 1 (by decide) (hg _ tw_30) (fun _ h9 => h9) rfl hin rfl (by decide +kernel) rfl rfl (Nat.le_of_ble_eq_true rfl) d_Co_init_17 (fun H locs hP hD hS => ?_)
  have hP : va_P (dC, dI) vwCl [(h, .inr (1, [.ref q1, .ref q2, .null, .null, .null, .null, .int ((0 : Int32)), .int ((0 : Int32))])), (q1, .inl (cI, 24, .inl (fun _ => 0))), (q2, .inl (cI, 24, .inl (fun _ => 0)))] H := hP
  have hD : va_D A [(h, .inr (1, [.ref q1, .ref q2, .null, .null, .null, .null, .int ((0 : Int32)), .int ((0 : Int32))])), (q1, .inl (cI, 24, .inl (fun _ => 0))), (q2, .inl (cI, 24, .inl (fun _ => 0)))] := hD
  refine lv_aload_n hx hb d_Co_init_20 rfl (lv_at hl 0 rfl) ?_
  refine lv_bipush (v := 24) hx hb d_Co_init_21 (by decide) ?_
  refine wb_newI hx hb (hg _ tw_54) hK hP hD hS hA 24 rfl (by decide) (Nat.le_of_ble_eq_true rfl) (Nat.le_of_ble_eq_true rfl) d_Co_init_23 (fun q3 H hP hD hS => ?_)
  have hP : va_P (dC, dI) vwCl [(h, .inr (1, [.ref q1, .ref q2, .null, .null, .null, .null, .int ((0 : Int32)), .int ((0 : Int32))])), (q1, .inl (cI, 24, .inl (fun _ => 0))), (q2, .inl (cI, 24, .inl (fun _ => 0))), (q3, .inl (cI, 24, .inl (fun _ => 0)))] H := hP
  have hD : va_D A [(h, .inr (1, [.ref q1, .ref q2, .null, .null, .null, .null, .int ((0 : Int32)), .int ((0 : Int32))])), (q1, .inl (cI, 24, .inl (fun _ => 0))), (q2, .inl (cI, 24, .inl (fun _ => 0))), (q3, .inl (cI, 24, .inl (fun _ => 0)))] := hD
  refine W.widen (k := 3) (n := 72) (Nat.le_of_ble_eq_true rfl) (Nat.le_of_ble_eq_true rfl) ?_
  refine va_putF (D := (dC, dI)) (ci := 1) (v := .ref q3) (ty := .array .int) (C := R_Co) (T := T_Co) (N := 8) hx hb hg in_Co ty_Co tyok_Co nm_Co hown hK hP hD hS 0 rfl rfl 2 (by decide) (hg _ tw_31) (fun _ h9 => h9) rfl hin rfl (by decide +kernel) rfl rfl (Nat.le_of_ble_eq_true rfl) d_Co_init_25 (fun H locs hP hD hS => ?_)
  have hP : va_P (dC, dI) vwCl [(h, .inr (1, [.ref q1, .ref q2, .ref q3, .null, .null, .null, .int ((0 : Int32)), .int ((0 : Int32))])), (q1, .inl (cI, 24, .inl (fun _ => 0))), (q2, .inl (cI, 24, .inl (fun _ => 0))), (q3, .inl (cI, 24, .inl (fun _ => 0)))] H := hP
  have hD : va_D A [(h, .inr (1, [.ref q1, .ref q2, .ref q3, .null, .null, .null, .int ((0 : Int32)), .int ((0 : Int32))])), (q1, .inl (cI, 24, .inl (fun _ => 0))), (q2, .inl (cI, 24, .inl (fun _ => 0))), (q3, .inl (cI, 24, .inl (fun _ => 0)))] := hD
  refine lv_aload_n hx hb d_Co_init_28 rfl (lv_at hl 0 rfl) ?_
  refine lv_bipush (v := 24) hx hb d_Co_init_29 (by decide) ?_
  refine wb_newI hx hb (hg _ tw_54) hK hP hD hS hA 24 rfl (by decide) (Nat.le_of_ble_eq_true rfl) (Nat.le_of_ble_eq_true rfl) d_Co_init_31 (fun q4 H hP hD hS => ?_)
  have hP : va_P (dC, dI) vwCl [(h, .inr (1, [.ref q1, .ref q2, .ref q3, .null, .null, .null, .int ((0 : Int32)), .int ((0 : Int32))])), (q1, .inl (cI, 24, .inl (fun _ => 0))), (q2, .inl (cI, 24, .inl (fun _ => 0))), (q3, .inl (cI, 24, .inl (fun _ => 0))), (q4, .inl (cI, 24, .inl (fun _ => 0)))] H := hP
  have hD : va_D A [(h, .inr (1, [.ref q1, .ref q2, .ref q3, .null, .null, .null, .int ((0 : Int32)), .int ((0 : Int32))])), (q1, .inl (cI, 24, .inl (fun _ => 0))), (q2, .inl (cI, 24, .inl (fun _ => 0))), (q3, .inl (cI, 24, .inl (fun _ => 0))), (q4, .inl (cI, 24, .inl (fun _ => 0)))] := hD
  refine W.widen (k := 4) (n := 96) (Nat.le_of_ble_eq_true rfl) (Nat.le_of_ble_eq_true rfl) ?_
  refine va_putF (D := (dC, dI)) (ci := 1) (v := .ref q4) (ty := .array .int) (C := R_Co) (T := T_Co) (N := 8) hx hb hg in_Co ty_Co tyok_Co nm_Co hown hK hP hD hS 0 rfl rfl 3 (by decide) (hg _ tw_32) (fun _ h9 => h9) rfl hin rfl (by decide +kernel) rfl rfl (Nat.le_of_ble_eq_true rfl) d_Co_init_33 (fun H locs hP hD hS => ?_)
  have hP : va_P (dC, dI) vwCl [(h, .inr (1, [.ref q1, .ref q2, .ref q3, .ref q4, .null, .null, .int ((0 : Int32)), .int ((0 : Int32))])), (q1, .inl (cI, 24, .inl (fun _ => 0))), (q2, .inl (cI, 24, .inl (fun _ => 0))), (q3, .inl (cI, 24, .inl (fun _ => 0))), (q4, .inl (cI, 24, .inl (fun _ => 0)))] H := hP
  have hD : va_D A [(h, .inr (1, [.ref q1, .ref q2, .ref q3, .ref q4, .null, .null, .int ((0 : Int32)), .int ((0 : Int32))])), (q1, .inl (cI, 24, .inl (fun _ => 0))), (q2, .inl (cI, 24, .inl (fun _ => 0))), (q3, .inl (cI, 24, .inl (fun _ => 0))), (q4, .inl (cI, 24, .inl (fun _ => 0)))] := hD
  refine lv_aload_n hx hb d_Co_init_36 rfl (lv_at hl 0 rfl) ?_
  refine lv_bipush (v := 24) hx hb d_Co_init_37 (by decide) ?_
  refine wb_newI hx hb (hg _ tw_54) hK hP hD hS hA 24 rfl (by decide) (Nat.le_of_ble_eq_true rfl) (Nat.le_of_ble_eq_true rfl) d_Co_init_39 (fun q5 H hP hD hS => ?_)
  have hP : va_P (dC, dI) vwCl [(h, .inr (1, [.ref q1, .ref q2, .ref q3, .ref q4, .null, .null, .int ((0 : Int32)), .int ((0 : Int32))])), (q1, .inl (cI, 24, .inl (fun _ => 0))), (q2, .inl (cI, 24, .inl (fun _ => 0))), (q3, .inl (cI, 24, .inl (fun _ => 0))), (q4, .inl (cI, 24, .inl (fun _ => 0))), (q5, .inl (cI, 24, .inl (fun _ => 0)))] H := hP
  have hD : va_D A [(h, .inr (1, [.ref q1, .ref q2, .ref q3, .ref q4, .null, .null, .int ((0 : Int32)), .int ((0 : Int32))])), (q1, .inl (cI, 24, .inl (fun _ => 0))), (q2, .inl (cI, 24, .inl (fun _ => 0))), (q3, .inl (cI, 24, .inl (fun _ => 0))), (q4, .inl (cI, 24, .inl (fun _ => 0))), (q5, .inl (cI, 24, .inl (fun _ => 0)))] := hD
  refine W.widen (k := 5) (n := 120) (Nat.le_of_ble_eq_true rfl) (Nat.le_of_ble_eq_true rfl) ?_
  refine va_putF (D := (dC, dI)) (ci := 1) (v := .ref q5) (ty := .array .int) (C := R_Co) (T := T_Co) (N := 8) hx hb hg in_Co ty_Co tyok_Co nm_Co hown hK hP hD hS 0 rfl rfl 4 (by decide) (hg _ tw_33) (fun _ h9 => h9) rfl hin rfl (by decide +kernel) rfl rfl (Nat.le_of_ble_eq_true rfl) d_Co_init_41 (fun H locs hP hD hS => ?_)
  have hP : va_P (dC, dI) vwCl [(h, .inr (1, [.ref q1, .ref q2, .ref q3, .ref q4, .ref q5, .null, .int ((0 : Int32)), .int ((0 : Int32))])), (q1, .inl (cI, 24, .inl (fun _ => 0))), (q2, .inl (cI, 24, .inl (fun _ => 0))), (q3, .inl (cI, 24, .inl (fun _ => 0))), (q4, .inl (cI, 24, .inl (fun _ => 0))), (q5, .inl (cI, 24, .inl (fun _ => 0)))] H := hP
  have hD : va_D A [(h, .inr (1, [.ref q1, .ref q2, .ref q3, .ref q4, .ref q5, .null, .int ((0 : Int32)), .int ((0 : Int32))])), (q1, .inl (cI, 24, .inl (fun _ => 0))), (q2, .inl (cI, 24, .inl (fun _ => 0))), (q3, .inl (cI, 24, .inl (fun _ => 0))), (q4, .inl (cI, 24, .inl (fun _ => 0))), (q5, .inl (cI, 24, .inl (fun _ => 0)))] := hD
  refine lv_aload_n hx hb d_Co_init_44 rfl (lv_at hl 0 rfl) ?_
  refine lv_bipush (v := 24) hx hb d_Co_init_45 (by decide) ?_
  refine wb_newI hx hb (hg _ tw_54) hK hP hD hS hA 24 rfl (by decide) (Nat.le_of_ble_eq_true rfl) (Nat.le_of_ble_eq_true rfl) d_Co_init_47 (fun q6 H hP hD hS => ?_)
  have hP : va_P (dC, dI) vwCl [(h, .inr (1, [.ref q1, .ref q2, .ref q3, .ref q4, .ref q5, .null, .int ((0 : Int32)), .int ((0 : Int32))])), (q1, .inl (cI, 24, .inl (fun _ => 0))), (q2, .inl (cI, 24, .inl (fun _ => 0))), (q3, .inl (cI, 24, .inl (fun _ => 0))), (q4, .inl (cI, 24, .inl (fun _ => 0))), (q5, .inl (cI, 24, .inl (fun _ => 0))), (q6, .inl (cI, 24, .inl (fun _ => 0)))] H := hP
  have hD : va_D A [(h, .inr (1, [.ref q1, .ref q2, .ref q3, .ref q4, .ref q5, .null, .int ((0 : Int32)), .int ((0 : Int32))])), (q1, .inl (cI, 24, .inl (fun _ => 0))), (q2, .inl (cI, 24, .inl (fun _ => 0))), (q3, .inl (cI, 24, .inl (fun _ => 0))), (q4, .inl (cI, 24, .inl (fun _ => 0))), (q5, .inl (cI, 24, .inl (fun _ => 0))), (q6, .inl (cI, 24, .inl (fun _ => 0)))] := hD
  refine W.widen (k := 6) (n := 144) (Nat.le_of_ble_eq_true rfl) (Nat.le_of_ble_eq_true rfl) ?_
  refine va_putF (D := (dC, dI)) (ci := 1) (v := .ref q6) (ty := .array .int) (C := R_Co) (T := T_Co) (N := 8) hx hb hg in_Co ty_Co tyok_Co nm_Co hown hK hP hD hS 0 rfl rfl 5 (by decide) (hg _ tw_34) (fun _ h9 => h9) rfl hin rfl (by decide +kernel) rfl rfl (Nat.le_of_ble_eq_true rfl) d_Co_init_49 (fun H locs hP hD hS => ?_)
  have hP : va_P (dC, dI) vwCl [(h, .inr (1, [.ref q1, .ref q2, .ref q3, .ref q4, .ref q5, .ref q6, .int ((0 : Int32)), .int ((0 : Int32))])), (q1, .inl (cI, 24, .inl (fun _ => 0))), (q2, .inl (cI, 24, .inl (fun _ => 0))), (q3, .inl (cI, 24, .inl (fun _ => 0))), (q4, .inl (cI, 24, .inl (fun _ => 0))), (q5, .inl (cI, 24, .inl (fun _ => 0))), (q6, .inl (cI, 24, .inl (fun _ => 0)))] H := hP
  have hD : va_D A [(h, .inr (1, [.ref q1, .ref q2, .ref q3, .ref q4, .ref q5, .ref q6, .int ((0 : Int32)), .int ((0 : Int32))])), (q1, .inl (cI, 24, .inl (fun _ => 0))), (q2, .inl (cI, 24, .inl (fun _ => 0))), (q3, .inl (cI, 24, .inl (fun _ => 0))), (q4, .inl (cI, 24, .inl (fun _ => 0))), (q5, .inl (cI, 24, .inl (fun _ => 0))), (q6, .inl (cI, 24, .inl (fun _ => 0)))] := hD
  have hP9 : va_P (dC, dI) vwCl [(h, .inr (1, [.ref q1, .ref q2, .ref q3, .ref q4, .ref q5, .ref q6, .int ((0 : Int32)), .int ((0 : Int32))])), (q1, .inl (cI, 24, .inl (fun _ => 0))), (q2, .inl (cI, 24, .inl (fun _ => 0))), (q3, .inl (cI, 24, .inl (fun _ => 0))), (q4, .inl (cI, 24, .inl (fun _ => 0))), (q5, .inl (cI, 24, .inl (fun _ => 0))), (q6, .inl (cI, 24, .inl (fun _ => 0)))] _ := hP.sub [0, 1, 2, 3, 4, 5, 6] rfl
  have hD9 : va_D A [(h, .inr (1, [.ref q1, .ref q2, .ref q3, .ref q4, .ref q5, .ref q6, .int ((0 : Int32)), .int ((0 : Int32))])), (q1, .inl (cI, 24, .inl (fun _ => 0))), (q2, .inl (cI, 24, .inl (fun _ => 0))), (q3, .inl (cI, 24, .inl (fun _ => 0))), (q4, .inl (cI, 24, .inl (fun _ => 0))), (q5, .inl (cI, 24, .inl (fun _ => 0))), (q6, .inl (cI, 24, .inl (fun _ => 0)))] := hD.sub [0, 1, 2, 3, 4, 5, 6] (by decide) rfl
  refine W.widen (k := 6) (n := 144) (Nat.le_of_ble_eq_true rfl) (Nat.le_of_ble_eq_true rfl) ?_
  exact W.vret hx hb hr (fun t ht hW => ⟨⟨(q1, q2, q3, q4, q5, q6), rfl, trivial, by rw [ht]; exact hP9, va_K.moved hW.alike hK, hD9⟩, hS.F ht⟩) hS.2.2 d_Co_init_52
