/-! AllocForge$Code: what only reads -/
set_option maxHeartbeats 4000000 in
set_option maxRecDepth 100000 in
theorem c_Co_usesLeft (l : Launch) (dC : Nat → ClassId) (dI : Nat → Nat → Nat) (cI : ClassId) (op : Int32) : Met l y_Co_usesLeft ws_Co_usesLeft (lvR 0 0 0) (va_Pc [.int op] (PB (dC, dI) vwCl [] [(cI, .int)])) (vp_Si (fun r => r = bI (uL op))) 0 0 (fun _ => False) := by
  refine Met.ofW (cc := b_Co_usesLeft) (maxL := 1) (ret := (some .boolean)) (by decide) rfl ?_
  intro p e s m args below meth c s₁ B hml hv
  obtain ⟨rfl, hP, hK⟩ := hv
  have hx := B.exec
  have hb := B.bytes
  have hr := B.returns
  have hts := atoms_spec (ws := ws_Co_usesLeft) B.pre
  have hg : ∀ w ∈ TG, w.before ([.int op] : List Value).toArray s = true := fun w h => hts w (List.mem_cons_of_mem _ h)
  have hown : s.vm.findClass R_Co = some m.cls := findClass_of_methodNamed B.named
  have hlocks := B.notSynchronized
  have hl := lv_entry ([.int op]) (n := 1) (Nat.le_of_ble_eq_true rfl)
  rw [lg_entry_eq]
  generalize (lg_sl ([.int op]) ++ List.replicate (1 - (lg_sl ([.int op])).length) Slot.unset).toArray = ls at hl ⊢
  have hl : lv_has ls 1 [(0, .int op)] := hl
  refine lv_iload_n hx hb d_Co_usesLeft_0 rfl (lv_at hl 0 rfl) ?_
  refine lv_iconst (v := 2) hx hb d_Co_usesLeft_1 (by decide) ?_
  refine lv_icmp_lt (tgt := 9) hx hb d_Co_usesLeft_2 (by decide) (fun c1 => ?_) (fun c1 => ?_)
  · refine lv_iconst (v := 0) hx hb d_Co_usesLeft_9 (by decide) ?_
    exact W.zret (v := (0 : Int32)) (ty := .boolean) hx hb hr rfl (fun t ht hW => ⟨_, rfl, (bI0 (uL_f c1)), ht⟩) (fun q h => by cases h) d_Co_usesLeft_10
  · refine lv_iconst (v := 1) hx hb d_Co_usesLeft_5 (by decide) ?_
    refine lv_goto (tgt := 10) hx hb d_Co_usesLeft_6 (by decide) ?_
    exact W.zret (v := (1 : Int32)) (ty := .boolean) hx hb hr rfl (fun t ht hW => ⟨_, rfl, (bI1 (uL_t c1)), ht⟩) (fun q h => by cases h) d_Co_usesLeft_10

set_option maxHeartbeats 4000000 in
set_option maxRecDepth 100000 in
theorem c_Co_usesRight (l : Launch) (dC : Nat → ClassId) (dI : Nat → Nat → Nat) (cI : ClassId) (op : Int32) : Met l y_Co_usesRight ws_Co_usesRight (lvR 0 0 0) (va_Pc [.int op] (PB (dC, dI) vwCl [] [(cI, .int)])) (vp_Si (fun r => r = bI (uR op))) 0 0 (fun _ => False) := by
  refine Met.ofW (cc := b_Co_usesRight) (maxL := 1) (ret := (some .boolean)) (by decide) rfl ?_
  intro p e s m args below meth c s₁ B hml hv
  obtain ⟨rfl, hP, hK⟩ := hv
  have hx := B.exec
  have hb := B.bytes
  have hr := B.returns
  have hts := atoms_spec (ws := ws_Co_usesRight) B.pre
  have hg : ∀ w ∈ TG, w.before ([.int op] : List Value).toArray s = true := fun w h => hts w (List.mem_cons_of_mem _ h)
  have hown : s.vm.findClass R_Co = some m.cls := findClass_of_methodNamed B.named
  have hlocks := B.notSynchronized
  have hl := lv_entry ([.int op]) (n := 1) (Nat.le_of_ble_eq_true rfl)
  rw [lg_entry_eq]
  generalize (lg_sl ([.int op]) ++ List.replicate (1 - (lg_sl ([.int op])).length) Slot.unset).toArray = ls at hl ⊢
  have hl : lv_has ls 1 [(0, .int op)] := hl
  refine lv_iload_n hx hb d_Co_usesRight_0 rfl (lv_at hl 0 rfl) ?_
  refine lv_iconst (v := 2) hx hb d_Co_usesRight_1 (by decide) ?_
  refine lv_icmp_lt (tgt := 14) hx hb d_Co_usesRight_2 (by decide) (fun c1 => ?_) (fun c1 => ?_)
  · refine lv_iconst (v := 0) hx hb d_Co_usesRight_14 (by decide) ?_
    exact W.zret (v := (0 : Int32)) (ty := .boolean) hx hb hr rfl (fun t ht hW => ⟨_, rfl, (bI0 (uR_f1 c1)), ht⟩) (fun q h => by cases h) d_Co_usesRight_15
  · refine lv_iload_n hx hb d_Co_usesRight_5 rfl (lv_at hl 0 rfl) ?_
    refine lv_iconst (v := 5) hx hb d_Co_usesRight_6 (by decide) ?_
    refine lv_icmp_gt (tgt := 14) hx hb d_Co_usesRight_7 (by decide) (fun c2 => ?_) (fun c2 => ?_)
    · refine lv_iconst (v := 0) hx hb d_Co_usesRight_14 (by decide) ?_
      exact W.zret (v := (0 : Int32)) (ty := .boolean) hx hb hr rfl (fun t ht hW => ⟨_, rfl, (bI0 (uR_f2 c2)), ht⟩) (fun q h => by cases h) d_Co_usesRight_15
    · refine lv_iconst (v := 1) hx hb d_Co_usesRight_10 (by decide) ?_
      refine lv_goto (tgt := 15) hx hb d_Co_usesRight_11 (by decide) ?_
      exact W.zret (v := (1 : Int32)) (ty := .boolean) hx hb hr rfl (fun t ht hW => ⟨_, rfl, (bI1 (uR_t c1 c2)), ht⟩) (fun q h => by cases h) d_Co_usesRight_15

set_option maxHeartbeats 4000000 in
set_option maxRecDepth 100000 in
theorem c_Co_size (l : Launch) (dC : Nat → ClassId) (dI : Nat → Nat → Nat) (cI : ClassId) (h : Nat) (o1 : Nat) (o2 : Nat) (o3 : Nat) (o4 : Nat) (o5 : Nat) (o6 : Nat) (n : Nat) (vc : Nat) (ops : Nat → Int32) (lf : Nat → Int32) (rg : Nat → Int32) (E : Nat → Nat) (U : Nat → Nat) (P : Nat → Nat) : Met l y_Co_size ws_Co_size (lvR 0 0 0) (va_Pc [.ref h] (PB (dC, dI) vwCl [(h, .inr (1, [.ref o1, .ref o2, .ref o3, .ref o4, .ref o5, .ref o6, .int (nI n), .int (nI vc)])), (o1, .inl (cI, 24, .inl ops)), (o2, .inl (cI, 24, .inl lf)), (o3, .inl (cI, 24, .inl rg)), (o4, .inl (cI, 24, .inl (fun z9 => nI (E z9)))), (o5, .inl (cI, 24, .inl (fun z9 => nI (U z9)))), (o6, .inl (cI, 24, .inl (fun z9 => nI (P z9))))] [(cI, .int)])) (vp_Si (fun r => r = nI n)) 0 0 (fun _ => False) := by
  refine Met.ofW (cc := b_Co_size) (maxL := 1) (ret := (some .int)) (by decide) rfl ?_
  intro p e s m args below meth c s₁ B hml hv
  obtain ⟨rfl, hP, hK⟩ := hv
  have hx := B.exec
  have hb := B.bytes
  have hr := B.returns
  have hts := atoms_spec (ws := ws_Co_size) B.pre
  have hg : ∀ w ∈ TG, w.before ([.ref h] : List Value).toArray s = true := fun w h => hts w (List.mem_cons_of_mem _ h)
  have hown : s.vm.findClass R_Co = some m.cls := findClass_of_methodNamed B.named
  have hlocks := B.notSynchronized
  have hl := lv_entry ([.ref h]) (n := 1) (Nat.le_of_ble_eq_true rfl)
  rw [lg_entry_eq]
  generalize (lg_sl ([.ref h]) ++ List.replicate (1 - (lg_sl ([.ref h])).length) Slot.unset).toArray = ls at hl ⊢
  have hl : lv_has ls 1 [(0, .ref h)] := hl
  refine lv_aload_n hx hb d_Co_size_0 rfl (lv_at hl 0 rfl) ?_
  refine va_get (D := (dC, dI)) (ci := 1) (v := .int (nI n)) (C := R_Co) (T := T_Co) (N := 8) hx hb hg in_Co hown hK hP 0 rfl rfl 6 (by decide) (hg _ tw_35) (fun _ h9 => h9) rfl d_Co_size_1 ?_
  exact W.iret (v := nI n) hx hb hr (fun t ht hW => ⟨_, rfl, rfl, ht⟩) (fun q h => by cases h) d_Co_size_4

set_option maxHeartbeats 4000000 in
set_option maxRecDepth 100000 in
theorem c_Co_values (l : Launch) (dC : Nat → ClassId) (dI : Nat → Nat → Nat) (cI : ClassId) (h : Nat) (o1 : Nat) (o2 : Nat) (o3 : Nat) (o4 : Nat) (o5 : Nat) (o6 : Nat) (n : Nat) (vc : Nat) (ops : Nat → Int32) (lf : Nat → Int32) (rg : Nat → Int32) (E : Nat → Nat) (U : Nat → Nat) (P : Nat → Nat) : Met l y_Co_values ws_Co_values (lvR 0 0 0) (va_Pc [.ref h] (PB (dC, dI) vwCl [(h, .inr (1, [.ref o1, .ref o2, .ref o3, .ref o4, .ref o5, .ref o6, .int (nI n), .int (nI vc)])), (o1, .inl (cI, 24, .inl ops)), (o2, .inl (cI, 24, .inl lf)), (o3, .inl (cI, 24, .inl rg)), (o4, .inl (cI, 24, .inl (fun z9 => nI (E z9)))), (o5, .inl (cI, 24, .inl (fun z9 => nI (U z9)))), (o6, .inl (cI, 24, .inl (fun z9 => nI (P z9))))] [(cI, .int)])) (vp_Si (fun r => r = nI vc)) 0 0 (fun _ => False) := by
  refine Met.ofW (cc := b_Co_values) (maxL := 1) (ret := (some .int)) (by decide) rfl ?_
  intro p e s m args below meth c s₁ B hml hv
  obtain ⟨rfl, hP, hK⟩ := hv
  have hx := B.exec
  have hb := B.bytes
  have hr := B.returns
  have hts := atoms_spec (ws := ws_Co_values) B.pre
  have hg : ∀ w ∈ TG, w.before ([.ref h] : List Value).toArray s = true := fun w h => hts w (List.mem_cons_of_mem _ h)
  have hown : s.vm.findClass R_Co = some m.cls := findClass_of_methodNamed B.named
  have hlocks := B.notSynchronized
  have hl := lv_entry ([.ref h]) (n := 1) (Nat.le_of_ble_eq_true rfl)
  rw [lg_entry_eq]
  generalize (lg_sl ([.ref h]) ++ List.replicate (1 - (lg_sl ([.ref h])).length) Slot.unset).toArray = ls at hl ⊢
  have hl : lv_has ls 1 [(0, .ref h)] := hl
  refine lv_aload_n hx hb d_Co_values_0 rfl (lv_at hl 0 rfl) ?_
  refine va_get (D := (dC, dI)) (ci := 1) (v := .int (nI vc)) (C := R_Co) (T := T_Co) (N := 8) hx hb hg in_Co hown hK hP 0 rfl rfl 7 (by decide) (hg _ tw_36) (fun _ h9 => h9) rfl d_Co_values_1 ?_
  exact W.iret (v := nI vc) hx hb hr (fun t ht hW => ⟨_, rfl, rfl, ht⟩) (fun q h => by cases h) d_Co_values_4

set_option maxHeartbeats 4000000 in
set_option maxRecDepth 100000 in
theorem c_Co_opAt (l : Launch) (dC : Nat → ClassId) (dI : Nat → Nat → Nat) (cI : ClassId) (h : Nat) (o1 : Nat) (o2 : Nat) (o3 : Nat) (o4 : Nat) (o5 : Nat) (o6 : Nat) (n : Nat) (vc : Nat) (ops : Nat → Int32) (lf : Nat → Int32) (rg : Nat → Int32) (E : Nat → Nat) (U : Nat → Nat) (P : Nat → Nat) (i : Nat) (hi : i < 24) : Met l y_Co_opAt ws_Co_opAt (lvR 0 0 0) (va_Pc [.ref h, .int (nI i)] (PB (dC, dI) vwCl [(h, .inr (1, [.ref o1, .ref o2, .ref o3, .ref o4, .ref o5, .ref o6, .int (nI n), .int (nI vc)])), (o1, .inl (cI, 24, .inl ops)), (o2, .inl (cI, 24, .inl lf)), (o3, .inl (cI, 24, .inl rg)), (o4, .inl (cI, 24, .inl (fun z9 => nI (E z9)))), (o5, .inl (cI, 24, .inl (fun z9 => nI (U z9)))), (o6, .inl (cI, 24, .inl (fun z9 => nI (P z9))))] [(cI, .int)])) (vp_Si (fun r => r = ops i)) 0 0 (fun _ => False) := by
  refine Met.ofW (cc := b_Co_opAt) (maxL := 2) (ret := (some .int)) (by decide) rfl ?_
  intro p e s m args below meth c s₁ B hml hv
  obtain ⟨rfl, hP, hK⟩ := hv
  have hx := B.exec
  have hb := B.bytes
  have hr := B.returns
  have hts := atoms_spec (ws := ws_Co_opAt) B.pre
  have hg : ∀ w ∈ TG, w.before ([.ref h, .int (nI i)] : List Value).toArray s = true := fun w h => hts w (List.mem_cons_of_mem _ h)
  have hown : s.vm.findClass R_Co = some m.cls := findClass_of_methodNamed B.named
  have hlocks := B.notSynchronized
  have hl := lv_entry ([.ref h, .int (nI i)]) (n := 2) (Nat.le_of_ble_eq_true rfl)
  rw [lg_entry_eq]
  generalize (lg_sl ([.ref h, .int (nI i)]) ++ List.replicate (2 - (lg_sl ([.ref h, .int (nI i)])).length) Slot.unset).toArray = ls at hl ⊢
  have hl : lv_has ls 2 [(0, .ref h), (1, .int (nI i))] := hl
  refine lv_aload_n hx hb d_Co_opAt_0 rfl (lv_at hl 0 rfl) ?_
  refine va_get (D := (dC, dI)) (ci := 1) (v := .ref o1) (C := R_Co) (T := T_Co) (N := 8) hx hb hg in_Co hown hK hP 0 rfl rfl 0 (by decide) (hg _ tw_29) (fun _ h9 => h9) rfl d_Co_opAt_1 ?_
  refine lv_iload_n hx hb d_Co_opAt_4 rfl (lv_at hl 1 rfl) ?_
  refine wb_iald hx hb hK hP 1 0 rfl rfl i rfl hi (by decide) d_Co_opAt_5 ?_
  exact W.iret (v := ops i) hx hb hr (fun t ht hW => ⟨_, rfl, rfl, ht⟩) (fun q h => by cases h) d_Co_opAt_6

set_option maxHeartbeats 4000000 in
set_option maxRecDepth 100000 in
theorem c_Co_leftAt (l : Launch) (dC : Nat → ClassId) (dI : Nat → Nat → Nat) (cI : ClassId) (h : Nat) (o1 : Nat) (o2 : Nat) (o3 : Nat) (o4 : Nat) (o5 : Nat) (o6 : Nat) (n : Nat) (vc : Nat) (ops : Nat → Int32) (lf : Nat → Int32) (rg : Nat → Int32) (E : Nat → Nat) (U : Nat → Nat) (P : Nat → Nat) (i : Nat) (hi : i < 24) : Met l y_Co_leftAt ws_Co_leftAt (lvR 0 0 0) (va_Pc [.ref h, .int (nI i)] (PB (dC, dI) vwCl [(h, .inr (1, [.ref o1, .ref o2, .ref o3, .ref o4, .ref o5, .ref o6, .int (nI n), .int (nI vc)])), (o1, .inl (cI, 24, .inl ops)), (o2, .inl (cI, 24, .inl lf)), (o3, .inl (cI, 24, .inl rg)), (o4, .inl (cI, 24, .inl (fun z9 => nI (E z9)))), (o5, .inl (cI, 24, .inl (fun z9 => nI (U z9)))), (o6, .inl (cI, 24, .inl (fun z9 => nI (P z9))))] [(cI, .int)])) (vp_Si (fun r => r = lf i)) 0 0 (fun _ => False) := by
  refine Met.ofW (cc := b_Co_leftAt) (maxL := 2) (ret := (some .int)) (by decide) rfl ?_
  intro p e s m args below meth c s₁ B hml hv
  obtain ⟨rfl, hP, hK⟩ := hv
  have hx := B.exec
  have hb := B.bytes
  have hr := B.returns
  have hts := atoms_spec (ws := ws_Co_leftAt) B.pre
  have hg : ∀ w ∈ TG, w.before ([.ref h, .int (nI i)] : List Value).toArray s = true := fun w h => hts w (List.mem_cons_of_mem _ h)
  have hown : s.vm.findClass R_Co = some m.cls := findClass_of_methodNamed B.named
  have hlocks := B.notSynchronized
  have hl := lv_entry ([.ref h, .int (nI i)]) (n := 2) (Nat.le_of_ble_eq_true rfl)
  rw [lg_entry_eq]
  generalize (lg_sl ([.ref h, .int (nI i)]) ++ List.replicate (2 - (lg_sl ([.ref h, .int (nI i)])).length) Slot.unset).toArray = ls at hl ⊢
  have hl : lv_has ls 2 [(0, .ref h), (1, .int (nI i))] := hl
  refine lv_aload_n hx hb d_Co_leftAt_0 rfl (lv_at hl 0 rfl) ?_
  refine va_get (D := (dC, dI)) (ci := 1) (v := .ref o2) (C := R_Co) (T := T_Co) (N := 8) hx hb hg in_Co hown hK hP 0 rfl rfl 1 (by decide) (hg _ tw_30) (fun _ h9 => h9) rfl d_Co_leftAt_1 ?_
  refine lv_iload_n hx hb d_Co_leftAt_4 rfl (lv_at hl 1 rfl) ?_
  refine wb_iald hx hb hK hP 2 0 rfl rfl i rfl hi (by decide) d_Co_leftAt_5 ?_
  exact W.iret (v := lf i) hx hb hr (fun t ht hW => ⟨_, rfl, rfl, ht⟩) (fun q h => by cases h) d_Co_leftAt_6

set_option maxHeartbeats 4000000 in
set_option maxRecDepth 100000 in
theorem c_Co_rightAt (l : Launch) (dC : Nat → ClassId) (dI : Nat → Nat → Nat) (cI : ClassId) (h : Nat) (o1 : Nat) (o2 : Nat) (o3 : Nat) (o4 : Nat) (o5 : Nat) (o6 : Nat) (n : Nat) (vc : Nat) (ops : Nat → Int32) (lf : Nat → Int32) (rg : Nat → Int32) (E : Nat → Nat) (U : Nat → Nat) (P : Nat → Nat) (i : Nat) (hi : i < 24) : Met l y_Co_rightAt ws_Co_rightAt (lvR 0 0 0) (va_Pc [.ref h, .int (nI i)] (PB (dC, dI) vwCl [(h, .inr (1, [.ref o1, .ref o2, .ref o3, .ref o4, .ref o5, .ref o6, .int (nI n), .int (nI vc)])), (o1, .inl (cI, 24, .inl ops)), (o2, .inl (cI, 24, .inl lf)), (o3, .inl (cI, 24, .inl rg)), (o4, .inl (cI, 24, .inl (fun z9 => nI (E z9)))), (o5, .inl (cI, 24, .inl (fun z9 => nI (U z9)))), (o6, .inl (cI, 24, .inl (fun z9 => nI (P z9))))] [(cI, .int)])) (vp_Si (fun r => r = rg i)) 0 0 (fun _ => False) := by
  refine Met.ofW (cc := b_Co_rightAt) (maxL := 2) (ret := (some .int)) (by decide) rfl ?_
  intro p e s m args below meth c s₁ B hml hv
  obtain ⟨rfl, hP, hK⟩ := hv
  have hx := B.exec
  have hb := B.bytes
  have hr := B.returns
  have hts := atoms_spec (ws := ws_Co_rightAt) B.pre
  have hg : ∀ w ∈ TG, w.before ([.ref h, .int (nI i)] : List Value).toArray s = true := fun w h => hts w (List.mem_cons_of_mem _ h)
  have hown : s.vm.findClass R_Co = some m.cls := findClass_of_methodNamed B.named
  have hlocks := B.notSynchronized
  have hl := lv_entry ([.ref h, .int (nI i)]) (n := 2) (Nat.le_of_ble_eq_true rfl)
  rw [lg_entry_eq]
  generalize (lg_sl ([.ref h, .int (nI i)]) ++ List.replicate (2 - (lg_sl ([.ref h, .int (nI i)])).length) Slot.unset).toArray = ls at hl ⊢
  have hl : lv_has ls 2 [(0, .ref h), (1, .int (nI i))] := hl
  refine lv_aload_n hx hb d_Co_rightAt_0 rfl (lv_at hl 0 rfl) ?_
  refine va_get (D := (dC, dI)) (ci := 1) (v := .ref o3) (C := R_Co) (T := T_Co) (N := 8) hx hb hg in_Co hown hK hP 0 rfl rfl 2 (by decide) (hg _ tw_31) (fun _ h9 => h9) rfl d_Co_rightAt_1 ?_
  refine lv_iload_n hx hb d_Co_rightAt_4 rfl (lv_at hl 1 rfl) ?_
  refine wb_iald hx hb hK hP 3 0 rfl rfl i rfl hi (by decide) d_Co_rightAt_5 ?_
  exact W.iret (v := rg i) hx hb hr (fun t ht hW => ⟨_, rfl, rfl, ht⟩) (fun q h => by cases h) d_Co_rightAt_6

set_option maxHeartbeats 4000000 in
set_option maxRecDepth 100000 in
theorem c_Co_endOf (l : Launch) (dC : Nat → ClassId) (dI : Nat → Nat → Nat) (cI : ClassId) (h : Nat) (o1 : Nat) (o2 : Nat) (o3 : Nat) (o4 : Nat) (o5 : Nat) (o6 : Nat) (n : Nat) (vc : Nat) (ops : Nat → Int32) (lf : Nat → Int32) (rg : Nat → Int32) (E : Nat → Nat) (U : Nat → Nat) (P : Nat → Nat) (i : Nat) (hi : i < 24) : Met l y_Co_endOf ws_Co_endOf (lvR 0 0 0) (va_Pc [.ref h, .int (nI i)] (PB (dC, dI) vwCl [(h, .inr (1, [.ref o1, .ref o2, .ref o3, .ref o4, .ref o5, .ref o6, .int (nI n), .int (nI vc)])), (o1, .inl (cI, 24, .inl ops)), (o2, .inl (cI, 24, .inl lf)), (o3, .inl (cI, 24, .inl rg)), (o4, .inl (cI, 24, .inl (fun z9 => nI (E z9)))), (o5, .inl (cI, 24, .inl (fun z9 => nI (U z9)))), (o6, .inl (cI, 24, .inl (fun z9 => nI (P z9))))] [(cI, .int)])) (vp_Si (fun r => r = nI (E i))) 0 0 (fun _ => False) := by
  refine Met.ofW (cc := b_Co_endOf) (maxL := 2) (ret := (some .int)) (by decide) rfl ?_
  intro p e s m args below meth c s₁ B hml hv
  obtain ⟨rfl, hP, hK⟩ := hv
  have hx := B.exec
  have hb := B.bytes
  have hr := B.returns
  have hts := atoms_spec (ws := ws_Co_endOf) B.pre
  have hg : ∀ w ∈ TG, w.before ([.ref h, .int (nI i)] : List Value).toArray s = true := fun w h => hts w (List.mem_cons_of_mem _ h)
  have hown : s.vm.findClass R_Co = some m.cls := findClass_of_methodNamed B.named
  have hlocks := B.notSynchronized
  have hl := lv_entry ([.ref h, .int (nI i)]) (n := 2) (Nat.le_of_ble_eq_true rfl)
  rw [lg_entry_eq]
  generalize (lg_sl ([.ref h, .int (nI i)]) ++ List.replicate (2 - (lg_sl ([.ref h, .int (nI i)])).length) Slot.unset).toArray = ls at hl ⊢
  have hl : lv_has ls 2 [(0, .ref h), (1, .int (nI i))] := hl
  refine lv_aload_n hx hb d_Co_endOf_0 rfl (lv_at hl 0 rfl) ?_
  refine va_get (D := (dC, dI)) (ci := 1) (v := .ref o4) (C := R_Co) (T := T_Co) (N := 8) hx hb hg in_Co hown hK hP 0 rfl rfl 3 (by decide) (hg _ tw_32) (fun _ h9 => h9) rfl d_Co_endOf_1 ?_
  refine lv_iload_n hx hb d_Co_endOf_4 rfl (lv_at hl 1 rfl) ?_
  refine wb_iald hx hb hK hP 4 0 rfl rfl i rfl hi (by decide) d_Co_endOf_5 ?_
  exact W.iret (v := nI (E i)) hx hb hr (fun t ht hW => ⟨_, rfl, rfl, ht⟩) (fun q h => by cases h) d_Co_endOf_6

set_option maxHeartbeats 4000000 in
set_option maxRecDepth 100000 in
theorem c_Co_usesOf (l : Launch) (dC : Nat → ClassId) (dI : Nat → Nat → Nat) (cI : ClassId) (h : Nat) (o1 : Nat) (o2 : Nat) (o3 : Nat) (o4 : Nat) (o5 : Nat) (o6 : Nat) (n : Nat) (vc : Nat) (ops : Nat → Int32) (lf : Nat → Int32) (rg : Nat → Int32) (E : Nat → Nat) (U : Nat → Nat) (P : Nat → Nat) (i : Nat) (hi : i < 24) : Met l y_Co_usesOf ws_Co_usesOf (lvR 0 0 0) (va_Pc [.ref h, .int (nI i)] (PB (dC, dI) vwCl [(h, .inr (1, [.ref o1, .ref o2, .ref o3, .ref o4, .ref o5, .ref o6, .int (nI n), .int (nI vc)])), (o1, .inl (cI, 24, .inl ops)), (o2, .inl (cI, 24, .inl lf)), (o3, .inl (cI, 24, .inl rg)), (o4, .inl (cI, 24, .inl (fun z9 => nI (E z9)))), (o5, .inl (cI, 24, .inl (fun z9 => nI (U z9)))), (o6, .inl (cI, 24, .inl (fun z9 => nI (P z9))))] [(cI, .int)])) (vp_Si (fun r => r = nI (U i))) 0 0 (fun _ => False) := by
  refine Met.ofW (cc := b_Co_usesOf) (maxL := 2) (ret := (some .int)) (by decide) rfl ?_
  intro p e s m args below meth c s₁ B hml hv
  obtain ⟨rfl, hP, hK⟩ := hv
  have hx := B.exec
  have hb := B.bytes
  have hr := B.returns
  have hts := atoms_spec (ws := ws_Co_usesOf) B.pre
  have hg : ∀ w ∈ TG, w.before ([.ref h, .int (nI i)] : List Value).toArray s = true := fun w h => hts w (List.mem_cons_of_mem _ h)
  have hown : s.vm.findClass R_Co = some m.cls := findClass_of_methodNamed B.named
  have hlocks := B.notSynchronized
  have hl := lv_entry ([.ref h, .int (nI i)]) (n := 2) (Nat.le_of_ble_eq_true rfl)
  rw [lg_entry_eq]
  generalize (lg_sl ([.ref h, .int (nI i)]) ++ List.replicate (2 - (lg_sl ([.ref h, .int (nI i)])).length) Slot.unset).toArray = ls at hl ⊢
  have hl : lv_has ls 2 [(0, .ref h), (1, .int (nI i))] := hl
  refine lv_aload_n hx hb d_Co_usesOf_0 rfl (lv_at hl 0 rfl) ?_
  refine va_get (D := (dC, dI)) (ci := 1) (v := .ref o5) (C := R_Co) (T := T_Co) (N := 8) hx hb hg in_Co hown hK hP 0 rfl rfl 4 (by decide) (hg _ tw_33) (fun _ h9 => h9) rfl d_Co_usesOf_1 ?_
  refine lv_iload_n hx hb d_Co_usesOf_4 rfl (lv_at hl 1 rfl) ?_
  refine wb_iald hx hb hK hP 5 0 rfl rfl i rfl hi (by decide) d_Co_usesOf_5 ?_
  exact W.iret (v := nI (U i)) hx hb hr (fun t ht hW => ⟨_, rfl, rfl, ht⟩) (fun q h => by cases h) d_Co_usesOf_6

set_option maxHeartbeats 4000000 in
set_option maxRecDepth 100000 in
theorem c_Co_priceOf (l : Launch) (dC : Nat → ClassId) (dI : Nat → Nat → Nat) (cI : ClassId) (h : Nat) (o1 : Nat) (o2 : Nat) (o3 : Nat) (o4 : Nat) (o5 : Nat) (o6 : Nat) (n : Nat) (vc : Nat) (ops : Nat → Int32) (lf : Nat → Int32) (rg : Nat → Int32) (E : Nat → Nat) (U : Nat → Nat) (P : Nat → Nat) (i : Nat) (hi : i < 24) : Met l y_Co_priceOf ws_Co_priceOf (lvR 0 0 0) (va_Pc [.ref h, .int (nI i)] (PB (dC, dI) vwCl [(h, .inr (1, [.ref o1, .ref o2, .ref o3, .ref o4, .ref o5, .ref o6, .int (nI n), .int (nI vc)])), (o1, .inl (cI, 24, .inl ops)), (o2, .inl (cI, 24, .inl lf)), (o3, .inl (cI, 24, .inl rg)), (o4, .inl (cI, 24, .inl (fun z9 => nI (E z9)))), (o5, .inl (cI, 24, .inl (fun z9 => nI (U z9)))), (o6, .inl (cI, 24, .inl (fun z9 => nI (P z9))))] [(cI, .int)])) (vp_Si (fun r => r = nI (P i))) 0 0 (fun _ => False) := by
  refine Met.ofW (cc := b_Co_priceOf) (maxL := 2) (ret := (some .int)) (by decide) rfl ?_
  intro p e s m args below meth c s₁ B hml hv
  obtain ⟨rfl, hP, hK⟩ := hv
  have hx := B.exec
  have hb := B.bytes
  have hr := B.returns
  have hts := atoms_spec (ws := ws_Co_priceOf) B.pre
  have hg : ∀ w ∈ TG, w.before ([.ref h, .int (nI i)] : List Value).toArray s = true := fun w h => hts w (List.mem_cons_of_mem _ h)
  have hown : s.vm.findClass R_Co = some m.cls := findClass_of_methodNamed B.named
  have hlocks := B.notSynchronized
  have hl := lv_entry ([.ref h, .int (nI i)]) (n := 2) (Nat.le_of_ble_eq_true rfl)
  rw [lg_entry_eq]
  generalize (lg_sl ([.ref h, .int (nI i)]) ++ List.replicate (2 - (lg_sl ([.ref h, .int (nI i)])).length) Slot.unset).toArray = ls at hl ⊢
  have hl : lv_has ls 2 [(0, .ref h), (1, .int (nI i))] := hl
  refine lv_aload_n hx hb d_Co_priceOf_0 rfl (lv_at hl 0 rfl) ?_
  refine va_get (D := (dC, dI)) (ci := 1) (v := .ref o6) (C := R_Co) (T := T_Co) (N := 8) hx hb hg in_Co hown hK hP 0 rfl rfl 5 (by decide) (hg _ tw_34) (fun _ h9 => h9) rfl d_Co_priceOf_1 ?_
  refine lv_iload_n hx hb d_Co_priceOf_4 rfl (lv_at hl 1 rfl) ?_
  refine wb_iald hx hb hK hP 6 0 rfl rfl i rfl hi (by decide) d_Co_priceOf_5 ?_
  exact W.iret (v := nI (P i)) hx hb hr (fun t ht hW => ⟨_, rfl, rfl, ht⟩) (fun q h => by cases h) d_Co_priceOf_6

set_option maxHeartbeats 4000000 in
set_option maxRecDepth 100000 in
theorem c_Co_lengthOf (l : Launch) (dC : Nat → ClassId) (dI : Nat → Nat → Nat) (cI : ClassId) (h : Nat) (o1 : Nat) (o2 : Nat) (o3 : Nat) (o4 : Nat) (o5 : Nat) (o6 : Nat) (n : Nat) (vc : Nat) (ops : Nat → Int32) (lf : Nat → Int32) (rg : Nat → Int32) (E : Nat → Nat) (U : Nat → Nat) (P : Nat → Nat) (i : Nat) (hi : i < 24) (hE : i ≤ E i) : Met l y_Co_lengthOf ws_Co_lengthOf (lvR 0 0 0) (va_Pc [.ref h, .int (nI i)] (PB (dC, dI) vwCl [(h, .inr (1, [.ref o1, .ref o2, .ref o3, .ref o4, .ref o5, .ref o6, .int (nI n), .int (nI vc)])), (o1, .inl (cI, 24, .inl ops)), (o2, .inl (cI, 24, .inl lf)), (o3, .inl (cI, 24, .inl rg)), (o4, .inl (cI, 24, .inl (fun z9 => nI (E z9)))), (o5, .inl (cI, 24, .inl (fun z9 => nI (U z9)))), (o6, .inl (cI, 24, .inl (fun z9 => nI (P z9))))] [(cI, .int)])) (vp_Si (fun r => r = nI (E i - i))) 0 0 (fun _ => False) := by
  refine Met.ofW (cc := b_Co_lengthOf) (maxL := 2) (ret := (some .int)) (by decide) rfl ?_
  intro p e s m args below meth c s₁ B hml hv
  obtain ⟨rfl, hP, hK⟩ := hv
  have hx := B.exec
  have hb := B.bytes
  have hr := B.returns
  have hts := atoms_spec (ws := ws_Co_lengthOf) B.pre
  have hg : ∀ w ∈ TG, w.before ([.ref h, .int (nI i)] : List Value).toArray s = true := fun w h => hts w (List.mem_cons_of_mem _ h)
  have hown : s.vm.findClass R_Co = some m.cls := findClass_of_methodNamed B.named
  have hlocks := B.notSynchronized
  have hl := lv_entry ([.ref h, .int (nI i)]) (n := 2) (Nat.le_of_ble_eq_true rfl)
  rw [lg_entry_eq]
  generalize (lg_sl ([.ref h, .int (nI i)]) ++ List.replicate (2 - (lg_sl ([.ref h, .int (nI i)])).length) Slot.unset).toArray = ls at hl ⊢
  have hl : lv_has ls 2 [(0, .ref h), (1, .int (nI i))] := hl
  refine lv_aload_n hx hb d_Co_lengthOf_0 rfl (lv_at hl 0 rfl) ?_
  refine va_get (D := (dC, dI)) (ci := 1) (v := .ref o4) (C := R_Co) (T := T_Co) (N := 8) hx hb hg in_Co hown hK hP 0 rfl rfl 3 (by decide) (hg _ tw_32) (fun _ h9 => h9) rfl d_Co_lengthOf_1 ?_
  refine lv_iload_n hx hb d_Co_lengthOf_4 rfl (lv_at hl 1 rfl) ?_
  refine wb_iald hx hb hK hP 4 0 rfl rfl i rfl hi (by decide) d_Co_lengthOf_5 ?_
  refine lv_iload_n hx hb d_Co_lengthOf_6 rfl (lv_at hl 1 rfl) ?_
  refine wb_isub hx hb (E i) i rfl rfl hE d_Co_lengthOf_7 ?_
  exact W.iret (v := nI ((E i) - i)) hx hb hr (fun t ht hW => ⟨_, rfl, rfl, ht⟩) (fun q h => by cases h) d_Co_lengthOf_8

set_option maxHeartbeats 4000000 in
set_option maxRecDepth 100000 in
theorem c_Co_meet (l : Launch) (dC : Nat → ClassId) (dI : Nat → Nat → Nat) (cI : ClassId) (h : Nat) (o1 : Nat) (o2 : Nat) (o3 : Nat) (o4 : Nat) (o5 : Nat) (o6 : Nat) (n : Nat) (vc : Nat) (ops : Nat → Int32) (lf : Nat → Int32) (rg : Nat → Int32) (E : Nat → Nat) (U : Nat → Nat) (P : Nat → Nat) (i : Nat) (j : Nat) (hi : i < 24) (hj : j < 24) (hEi : E i ≤ 24) (hEj : E j ≤ 24) : Met l y_Co_meet ws_Co_meet (lvR 0 0 0) (va_Pc [.ref h, .int (nI i), .int (nI j)] (PB (dC, dI) vwCl [(h, .inr (1, [.ref o1, .ref o2, .ref o3, .ref o4, .ref o5, .ref o6, .int (nI n), .int (nI vc)])), (o1, .inl (cI, 24, .inl ops)), (o2, .inl (cI, 24, .inl lf)), (o3, .inl (cI, 24, .inl rg)), (o4, .inl (cI, 24, .inl (fun z9 => nI (E z9)))), (o5, .inl (cI, 24, .inl (fun z9 => nI (U z9)))), (o6, .inl (cI, 24, .inl (fun z9 => nI (P z9))))] [(cI, .int)])) (vp_Si (fun r => r = bI (mt E i j))) 0 0 (fun _ => False) := by
  refine Met.ofW (cc := b_Co_meet) (maxL := 3) (ret := (some .boolean)) (by decide) rfl ?_
  intro p e s m args below meth c s₁ B hml hv
  obtain ⟨rfl, hP, hK⟩ := hv
  have hx := B.exec
  have hb := B.bytes
  have hr := B.returns
  have hts := atoms_spec (ws := ws_Co_meet) B.pre
  have hg : ∀ w ∈ TG, w.before ([.ref h, .int (nI i), .int (nI j)] : List Value).toArray s = true := fun w h => hts w (List.mem_cons_of_mem _ h)
  have hown : s.vm.findClass R_Co = some m.cls := findClass_of_methodNamed B.named
  have hlocks := B.notSynchronized
  have hl := lv_entry ([.ref h, .int (nI i), .int (nI j)]) (n := 3) (Nat.le_of_ble_eq_true rfl)
  rw [lg_entry_eq]
  generalize (lg_sl ([.ref h, .int (nI i), .int (nI j)]) ++ List.replicate (3 - (lg_sl ([.ref h, .int (nI i), .int (nI j)])).length) Slot.unset).toArray = ls at hl ⊢
  have hl : lv_has ls 3 [(0, .ref h), (1, .int (nI i)), (2, .int (nI j))] := hl
  refine lv_iload_n hx hb d_Co_meet_0 rfl (lv_at hl 1 rfl) ?_
  refine lv_aload_n hx hb d_Co_meet_1 rfl (lv_at hl 0 rfl) ?_
  refine va_get (D := (dC, dI)) (ci := 1) (v := .ref o4) (C := R_Co) (T := T_Co) (N := 8) hx hb hg in_Co hown hK hP 0 rfl rfl 3 (by decide) (hg _ tw_32) (fun _ h9 => h9) rfl d_Co_meet_2 ?_
  refine lv_iload_n hx hb d_Co_meet_5 rfl (lv_at hl 2 rfl) ?_
  refine wb_iald hx hb hK hP 4 0 rfl rfl j rfl (by omega) (by decide) d_Co_meet_6 ?_
  refine wb_icmp_ge (tgt := 24) hx hb i (E j) rfl rfl (by first | exact Nat.lt_of_le_of_lt hEi (by decide) | exact Nat.lt_of_le_of_lt hEj (by decide) | exact Nat.lt_trans hi (by decide) | exact Nat.lt_trans hj (by decide)) (by first | exact Nat.lt_of_le_of_lt hEi (by decide) | exact Nat.lt_of_le_of_lt hEj (by decide) | exact Nat.lt_trans hi (by decide) | exact Nat.lt_trans hj (by decide)) d_Co_meet_7 (by decide) (fun c1 => ?_) (fun c1 => ?_)
  · refine lv_iconst (v := 0) hx hb d_Co_meet_24 (by decide) ?_
    exact W.zret (v := (0 : Int32)) (ty := .boolean) hx hb hr rfl (fun t ht hW => ⟨_, rfl, (bI0 (mt_f1 c1)), ht⟩) (fun q h => by cases h) d_Co_meet_25
  · refine lv_iload_n hx hb d_Co_meet_10 rfl (lv_at hl 2 rfl) ?_
    refine lv_aload_n hx hb d_Co_meet_11 rfl (lv_at hl 0 rfl) ?_
    refine va_get (D := (dC, dI)) (ci := 1) (v := .ref o4) (C := R_Co) (T := T_Co) (N := 8) hx hb hg in_Co hown hK hP 0 rfl rfl 3 (by decide) (hg _ tw_32) (fun _ h9 => h9) rfl d_Co_meet_12 ?_
    refine lv_iload_n hx hb d_Co_meet_15 rfl (lv_at hl 1 rfl) ?_
    refine wb_iald hx hb hK hP 4 0 rfl rfl i rfl (by omega) (by decide) d_Co_meet_16 ?_
    refine wb_icmp_ge (tgt := 24) hx hb j (E i) rfl rfl (by first | exact Nat.lt_of_le_of_lt hEi (by decide) | exact Nat.lt_of_le_of_lt hEj (by decide) | exact Nat.lt_trans hi (by decide) | exact Nat.lt_trans hj (by decide)) (by first | exact Nat.lt_of_le_of_lt hEi (by decide) | exact Nat.lt_of_le_of_lt hEj (by decide) | exact Nat.lt_trans hi (by decide) | exact Nat.lt_trans hj (by decide)) d_Co_meet_17 (by decide) (fun c2 => ?_) (fun c2 => ?_)
    · refine lv_iconst (v := 0) hx hb d_Co_meet_24 (by decide) ?_
      exact W.zret (v := (0 : Int32)) (ty := .boolean) hx hb hr rfl (fun t ht hW => ⟨_, rfl, (bI0 (mt_f2 c2)), ht⟩) (fun q h => by cases h) d_Co_meet_25
    · refine lv_iconst (v := 1) hx hb d_Co_meet_20 (by decide) ?_
      refine lv_goto (tgt := 25) hx hb d_Co_meet_21 (by decide) ?_
      exact W.zret (v := (1 : Int32)) (ty := .boolean) hx hb hr rfl (fun t ht hW => ⟨_, rfl, (bI1 (mt_t c1 c2)), ht⟩) (fun q h => by cases h) d_Co_meet_25

set_option maxHeartbeats 4000000 in
set_option maxRecDepth 100000 in
theorem c_Co_isValue (l : Launch) (dC : Nat → ClassId) (dI : Nat → Nat → Nat) (cI : ClassId) (h : Nat) (o1 : Nat) (o2 : Nat) (o3 : Nat) (o4 : Nat) (o5 : Nat) (o6 : Nat) (n : Nat) (vc : Nat) (ops : Nat → Int32) (lf : Nat → Int32) (rg : Nat → Int32) (E : Nat → Nat) (U : Nat → Nat) (P : Nat → Nat) (v : Int32) (hn : n ≤ 24) : Met l y_Co_isValue ws_Co_isValue (lvR 0 0 0) (va_Pc [.ref h, .int v] (PB (dC, dI) vwCl [(h, .inr (1, [.ref o1, .ref o2, .ref o3, .ref o4, .ref o5, .ref o6, .int (nI n), .int (nI vc)])), (o1, .inl (cI, 24, .inl ops)), (o2, .inl (cI, 24, .inl lf)), (o3, .inl (cI, 24, .inl rg)), (o4, .inl (cI, 24, .inl (fun z9 => nI (E z9)))), (o5, .inl (cI, 24, .inl (fun z9 => nI (U z9)))), (o6, .inl (cI, 24, .inl (fun z9 => nI (P z9))))] [(cI, .int)])) (vp_Si (fun r => r = bI (iv ops n v))) 0 0 (fun _ => False) := by
  refine Met.ofW (cc := b_Co_isValue) (maxL := 2) (ret := (some .boolean)) (by decide) rfl ?_
  intro p e s m args below meth c s₁ B hml hv
  obtain ⟨rfl, hP, hK⟩ := hv
  have hx := B.exec
  have hb := B.bytes
  have hr := B.returns
  have hts := atoms_spec (ws := ws_Co_isValue) B.pre
  have hg : ∀ w ∈ TG, w.before ([.ref h, .int v] : List Value).toArray s = true := fun w h => hts w (List.mem_cons_of_mem _ h)
  have hown : s.vm.findClass R_Co = some m.cls := findClass_of_methodNamed B.named
  have hlocks := B.notSynchronized
  have hl := lv_entry ([.ref h, .int v]) (n := 2) (Nat.le_of_ble_eq_true rfl)
  rw [lg_entry_eq]
  generalize (lg_sl ([.ref h, .int v]) ++ List.replicate (2 - (lg_sl ([.ref h, .int v])).length) Slot.unset).toArray = ls at hl ⊢
  have hl : lv_has ls 2 [(0, .ref h), (1, .int v)] := hl
  refine lv_iload_n hx hb d_Co_isValue_0 rfl (lv_at hl 1 rfl) ?_
  refine lv_if_lt (tgt := 27) hx hb d_Co_isValue_1 (by decide) (fun c1 => ?_) (fun c1 => ?_)
  · refine lv_iconst (v := 0) hx hb d_Co_isValue_27 (by decide) ?_
    exact W.zret (v := (0 : Int32)) (ty := .boolean) hx hb hr rfl (fun t ht hW => ⟨_, rfl, (bI0 (iv_f1 c1)), ht⟩) (fun q h => by cases h) d_Co_isValue_28
  · refine lv_iload_n hx hb d_Co_isValue_4 rfl (lv_at hl 1 rfl) ?_
    refine lv_aload_n hx hb d_Co_isValue_5 rfl (lv_at hl 0 rfl) ?_
    refine va_get (D := (dC, dI)) (ci := 1) (v := .int (nI n)) (C := R_Co) (T := T_Co) (N := 8) hx hb hg in_Co hown hK hP 0 rfl rfl 6 (by decide) (hg _ tw_35) (fun _ h9 => h9) rfl d_Co_isValue_6 ?_
    refine lv_icmp_ge (tgt := 27) hx hb d_Co_isValue_9 (by decide) (fun c2 => ?_) (fun c2 => ?_)
    · refine lv_iconst (v := 0) hx hb d_Co_isValue_27 (by decide) ?_
      exact W.zret (v := (0 : Int32)) (ty := .boolean) hx hb hr rfl (fun t ht hW => ⟨_, rfl, (bI0 (iv_f2 c2)), ht⟩) (fun q h => by cases h) d_Co_isValue_28
    · obtain ⟨j, hj, rfl⟩ := ix_of (n := n) (lt31 hn (by decide)) c1 c2
      refine lv_aload_n hx hb d_Co_isValue_12 rfl (lv_at hl 0 rfl) ?_
      refine va_get (D := (dC, dI)) (ci := 1) (v := .ref o1) (C := R_Co) (T := T_Co) (N := 8) hx hb hg in_Co hown hK hP 0 rfl rfl 0 (by decide) (hg _ tw_29) (fun _ h9 => h9) rfl d_Co_isValue_13 ?_
      refine lv_iload_n hx hb d_Co_isValue_16 rfl (lv_at hl 1 rfl) ?_
      refine wb_iald hx hb hK hP 1 0 rfl rfl j rfl (Nat.lt_of_lt_of_le hj hn) (by decide) d_Co_isValue_17 ?_
      refine lv_bipush (v := 6) hx hb d_Co_isValue_18 (by decide) ?_
      refine lv_icmp_eq (tgt := 27) hx hb d_Co_isValue_20 (by decide) (fun c3 => ?_) (fun c3 => ?_)
      · refine lv_iconst (v := 0) hx hb d_Co_isValue_27 (by decide) ?_
        exact W.zret (v := (0 : Int32)) (ty := .boolean) hx hb hr rfl (fun t ht hW => ⟨_, rfl, (bI0 (iv_f3 hn hj c3)), ht⟩) (fun q h => by cases h) d_Co_isValue_28
      · refine lv_iconst (v := 1) hx hb d_Co_isValue_23 (by decide) ?_
        refine lv_goto (tgt := 28) hx hb d_Co_isValue_24 (by decide) ?_
        exact W.zret (v := (1 : Int32)) (ty := .boolean) hx hb hr rfl (fun t ht hW => ⟨_, rfl, (bI1 (iv_t hn hj c3)), ht⟩) (fun q h => by cases h) d_Co_isValue_28
