/-! AllocForge$Machine: constructor, reads, divide, spoil, takeNumbers, compute -/
set_option maxHeartbeats 4000000 in
set_option maxRecDepth 100000 in
theorem c_Ma_init (l : Launch) (dC : Nat → ClassId) (dI : Nat → Nat → Nat) (cI : ClassId) (mm : Nat) (sz : Nat) : Met l y_Ma_init ws_Ma_init (lvR 1 3 52) (va_Pc [.ref mm] (PM (dC, dI) vwCl [(mm, .inr (2, [.null, .null, .null, .int ((0 : Int32)), .int ((0 : Int32)), .int ((0 : Int32))]))] [(cI, .int)] sz)) (va_Qv (fun _ : Nat × Nat × Nat => True) (MB (dC, dI) vwCl (fun (u9 : Nat × Nat × Nat) => [(mm, .inr (2, [.ref u9.1, .ref u9.2.1, .ref u9.2.2, .int ((0 : Int32)), .int ((0 : Int32)), .int ((0 : Int32))])), (u9.1, .inl (cI, 24, .inl (fun _ => 0))), (u9.2.1, .inl (cI, 4, .inl (fun _ => 0))), (u9.2.2, .inl (cI, 24, .inl (fun _ => 0)))]) [(cI, .int)] (va_A [(mm, .inr (2, [.null, .null, .null, .int ((0 : Int32)), .int ((0 : Int32)), .int ((0 : Int32))]))] sz)) (va_A [(mm, .inr (2, [.null, .null, .null, .int ((0 : Int32)), .int ((0 : Int32)), .int ((0 : Int32))]))] sz)) 3 52 (va_A [(mm, .inr (2, [.null, .null, .null, .int ((0 : Int32)), .int ((0 : Int32)), .int ((0 : Int32))]))] sz) := by
  refine Met.ofW (cc := b_Ma_init) (maxL := 1) (ret := none) (by decide) rfl ?_
  intro p e s m args below meth c s₁ B hml hv
  obtain ⟨rfl, hsz, hP, hK, hD0⟩ := hv
  have hx := B.exec
  have hb := B.bytes
  have hr := B.returns
  have hts := atoms_spec (ws := ws_Ma_init) B.pre
  have hg : ∀ w ∈ TG, w.before ([.ref mm] : List Value).toArray s = true := fun w h => hts w (List.mem_cons_of_mem _ h)
  have hown : s.vm.findClass R_Ma = some m.cls := findClass_of_methodNamed B.named
  have hlocks := B.notSynchronized
  have hin : meth.name = "<init>" := (name_of_methodNamed B.named B.method).1
  subst hsz
  have hD := hD0.self (sz := s.heap.size)
  generalize hAe : va_A [(mm, .inr (2, [.null, .null, .null, .int ((0 : Int32)), .int ((0 : Int32)), .int ((0 : Int32))]))] s.heap.size = A at hD ⊢
  have hA : ∀ q : Nat, s.heap.size ≤ q → A q := fun q h => by rw [← hAe]; exact Or.inr h
  have hS : va_S A s.heap s.heap [] := va_S.rf
  have hl := lv_entry ([.ref mm]) (n := 1) (Nat.le_of_ble_eq_true rfl)
  rw [lg_entry_eq]
  generalize (lg_sl ([.ref mm]) ++ List.replicate (1 - (lg_sl ([.ref mm])).length) Slot.unset).toArray = ls at hl ⊢
  have hl : lv_has ls 1 [(0, .ref mm)] := hl
  refine lv_aload_n hx hb d_Ma_init_0 rfl (lv_at hl 0 rfl) ?_
  refine W.objInit hx hb hown (hg _ tw_60) (hg _ tw_21) (hg _ tw_22) rfl (by rw [hml]; exact hl.1) rfl d_Ma_init_1 (Nat.le_of_ble_eq_true rfl) (Nat.le_of_ble_eq_true rfl) ?_
  refine W.eq (g2 := F0 m 4 ls []) rfl ?_
  refine lv_aload_n hx hb d_Ma_init_4 rfl (lv_at hl 0 rfl) ?_
  refine lv_bipush (v := 24) hx hb d_Ma_init_5 (by decide) ?_
  refine wb_newI hx hb (hg _ tw_54) hK hP hD hS hA 24 rfl (by decide) (Nat.le_of_ble_eq_true rfl) (Nat.le_of_ble_eq_true rfl) d_Ma_init_7 (fun q1 H hP hD hS => ?_)
  have hP : va_P (dC, dI) vwCl [(mm, .inr (2, [.null, .null, .null, .int ((0 : Int32)), .int ((0 : Int32)), .int ((0 : Int32))])), (q1, .inl (cI, 24, .inl (fun _ => 0)))] H := hP
  have hD : va_D A [(mm, .inr (2, [.null, .null, .null, .int ((0 : Int32)), .int ((0 : Int32)), .int ((0 : Int32))])), (q1, .inl (cI, 24, .inl (fun _ => 0)))] := hD
  refine W.widen (k := 1) (n := 24) (Nat.le_of_ble_eq_true rfl) (Nat.le_of_ble_eq_true rfl) ?_
  refine va_putF (D := (dC, dI)) (ci := 2) (v := .ref q1) (ty := .array .int) (C := R_Ma) (T := T_Ma) (N := 6) hx hb hg in_Ma ty_Ma tyok_Ma nm_Ma hown hK hP hD hS 0 rfl rfl 0 (by decide) (hg _ tw_61) (fun _ h9 => h9) rfl hin rfl (by decide +kernel) rfl rfl (Nat.le_of_ble_eq_true rfl) d_Ma_init_9 (fun H locs hP hD hS => ?_)
  have hP : va_P (dC, dI) vwCl [(mm, .inr (2, [.ref q1, .null, .null, .int ((0 : Int32)), .int ((0 : Int32)), .int ((0 : Int32))])), (q1, .inl (cI, 24, .inl (fun _ => 0)))] H := hP
  have hD : va_D A [(mm, .inr (2, [.ref q1, .null, .null, .int ((0 : Int32)), .int ((0 : Int32)), .int ((0 : Int32))])), (q1, .inl (cI, 24, .inl (fun _ => 0)))] := hD
  refine lv_aload_n hx hb d_Ma_init_12 rfl (lv_at hl 0 rfl) ?_
  refine lv_iconst (v := 4) hx hb d_Ma_init_13 (by decide) ?_
  refine wb_newI hx hb (hg _ tw_54) hK hP hD hS hA 4 rfl (by decide) (Nat.le_of_ble_eq_true rfl) (Nat.le_of_ble_eq_true rfl) d_Ma_init_14 (fun q2 H hP hD hS => ?_)
  have hP : va_P (dC, dI) vwCl [(mm, .inr (2, [.ref q1, .null, .null, .int ((0 : Int32)), .int ((0 : Int32)), .int ((0 : Int32))])), (q1, .inl (cI, 24, .inl (fun _ => 0))), (q2, .inl (cI, 4, .inl (fun _ => 0)))] H := hP
  have hD : va_D A [(mm, .inr (2, [.ref q1, .null, .null, .int ((0 : Int32)), .int ((0 : Int32)), .int ((0 : Int32))])), (q1, .inl (cI, 24, .inl (fun _ => 0))), (q2, .inl (cI, 4, .inl (fun _ => 0)))] := hD
  refine W.widen (k := 2) (n := 28) (Nat.le_of_ble_eq_true rfl) (Nat.le_of_ble_eq_true rfl) ?_
  refine va_putF (D := (dC, dI)) (ci := 2) (v := .ref q2) (ty := .array .int) (C := R_Ma) (T := T_Ma) (N := 6) hx hb hg in_Ma ty_Ma tyok_Ma nm_Ma hown hK hP hD hS 0 rfl rfl 1 (by decide) (hg _ tw_62) (fun _ h9 => h9) rfl hin rfl (by decide +kernel) rfl rfl (Nat.le_of_ble_eq_true rfl) d_Ma_init_16 (fun H locs hP hD hS => ?_)
  have hP : va_P (dC, dI) vwCl [(mm, .inr (2, [.ref q1, .ref q2, .null, .int ((0 : Int32)), .int ((0 : Int32)), .int ((0 : Int32))])), (q1, .inl (cI, 24, .inl (fun _ => 0))), (q2, .inl (cI, 4, .inl (fun _ => 0)))] H := hP
  have hD : va_D A [(mm, .inr (2, [.ref q1, .ref q2, .null, .int ((0 : Int32)), .int ((0 : Int32)), .int ((0 : Int32))])), (q1, .inl (cI, 24, .inl (fun _ => 0))), (q2, .inl (cI, 4, .inl (fun _ => 0)))] := hD
  refine lv_aload_n hx hb d_Ma_init_19 rfl (lv_at hl 0 rfl) ?_
  refine lv_bipush (v := 24) hx hb d_Ma_init_20 (by decide) ?_
  refine wb_newI hx hb (hg _ tw_54) hK hP hD hS hA 24 rfl (by decide) (Nat.le_of_ble_eq_true rfl) (Nat.le_of_ble_eq_true rfl) d_Ma_init_22 (fun q3 H hP hD hS => ?_)
  have hP : va_P (dC, dI) vwCl [(mm, .inr (2, [.ref q1, .ref q2, .null, .int ((0 : Int32)), .int ((0 : Int32)), .int ((0 : Int32))])), (q1, .inl (cI, 24, .inl (fun _ => 0))), (q2, .inl (cI, 4, .inl (fun _ => 0))), (q3, .inl (cI, 24, .inl (fun _ => 0)))] H := hP
  have hD : va_D A [(mm, .inr (2, [.ref q1, .ref q2, .null, .int ((0 : Int32)), .int ((0 : Int32)), .int ((0 : Int32))])), (q1, .inl (cI, 24, .inl (fun _ => 0))), (q2, .inl (cI, 4, .inl (fun _ => 0))), (q3, .inl (cI, 24, .inl (fun _ => 0)))] := hD
  refine W.widen (k := 3) (n := 52) (Nat.le_of_ble_eq_true rfl) (Nat.le_of_ble_eq_true rfl) ?_
  refine va_putF (D := (dC, dI)) (ci := 2) (v := .ref q3) (ty := .array .int) (C := R_Ma) (T := T_Ma) (N := 6) hx hb hg in_Ma ty_Ma tyok_Ma nm_Ma hown hK hP hD hS 0 rfl rfl 2 (by decide) (hg _ tw_63) (fun _ h9 => h9) rfl hin rfl (by decide +kernel) rfl rfl (Nat.le_of_ble_eq_true rfl) d_Ma_init_24 (fun H locs hP hD hS => ?_)
  have hP : va_P (dC, dI) vwCl [(mm, .inr (2, [.ref q1, .ref q2, .ref q3, .int ((0 : Int32)), .int ((0 : Int32)), .int ((0 : Int32))])), (q1, .inl (cI, 24, .inl (fun _ => 0))), (q2, .inl (cI, 4, .inl (fun _ => 0))), (q3, .inl (cI, 24, .inl (fun _ => 0)))] H := hP
  have hD : va_D A [(mm, .inr (2, [.ref q1, .ref q2, .ref q3, .int ((0 : Int32)), .int ((0 : Int32)), .int ((0 : Int32))])), (q1, .inl (cI, 24, .inl (fun _ => 0))), (q2, .inl (cI, 4, .inl (fun _ => 0))), (q3, .inl (cI, 24, .inl (fun _ => 0)))] := hD
  have hP9 : va_P (dC, dI) vwCl [(mm, .inr (2, [.ref q1, .ref q2, .ref q3, .int ((0 : Int32)), .int ((0 : Int32)), .int ((0 : Int32))])), (q1, .inl (cI, 24, .inl (fun _ => 0))), (q2, .inl (cI, 4, .inl (fun _ => 0))), (q3, .inl (cI, 24, .inl (fun _ => 0)))] _ := hP.sub [0, 1, 2, 3] rfl
  have hD9 : va_D A [(mm, .inr (2, [.ref q1, .ref q2, .ref q3, .int ((0 : Int32)), .int ((0 : Int32)), .int ((0 : Int32))])), (q1, .inl (cI, 24, .inl (fun _ => 0))), (q2, .inl (cI, 4, .inl (fun _ => 0))), (q3, .inl (cI, 24, .inl (fun _ => 0)))] := hD.sub [0, 1, 2, 3] (by decide) rfl
  refine W.widen (k := 3) (n := 52) (Nat.le_of_ble_eq_true rfl) (Nat.le_of_ble_eq_true rfl) ?_
  exact W.vret hx hb hr (fun t ht hW => ⟨⟨(q1, q2, q3), rfl, trivial, by rw [ht]; exact hP9, va_K.moved hW.alike hK, hD9⟩, hS.F ht⟩) hS.2.2 d_Ma_init_27

set_option maxHeartbeats 4000000 in
set_option maxRecDepth 100000 in
theorem c_Ma_saidCount (l : Launch) (dC : Nat → ClassId) (dI : Nat → Nat → Nat) (cI : ClassId) (mm : Nat) (m1 : Nat) (m2 : Nat) (m3 : Nat) (cl : Nat → Int32) (nu : Nat → Int32) (sd : Nat → Int32) (sc : Nat) (rs : Int32) (ft : Bool) : Met l y_Ma_saidCount ws_Ma_saidCount (lvR 0 0 0) (va_Pc [.ref mm] (PB (dC, dI) vwCl [(mm, .inr (2, [.ref m1, .ref m2, .ref m3, .int (nI sc), .int rs, .int (bI ft)])), (m1, .inl (cI, 24, .inl cl)), (m2, .inl (cI, 4, .inl nu)), (m3, .inl (cI, 24, .inl sd))] [(cI, .int)])) (vp_Si (fun r => r = nI sc)) 0 0 (fun _ => False) := by
  refine Met.ofW (cc := b_Ma_saidCount) (maxL := 1) (ret := (some .int)) (by decide) rfl ?_
  intro p e s m args below meth c s₁ B hml hv
  obtain ⟨rfl, hP, hK⟩ := hv
  have hx := B.exec
  have hb := B.bytes
  have hr := B.returns
  have hts := atoms_spec (ws := ws_Ma_saidCount) B.pre
  have hg : ∀ w ∈ TG, w.before ([.ref mm] : List Value).toArray s = true := fun w h => hts w (List.mem_cons_of_mem _ h)
  have hown : s.vm.findClass R_Ma = some m.cls := findClass_of_methodNamed B.named
  have hlocks := B.notSynchronized
  have hl := lv_entry ([.ref mm]) (n := 1) (Nat.le_of_ble_eq_true rfl)
  rw [lg_entry_eq]
  generalize (lg_sl ([.ref mm]) ++ List.replicate (1 - (lg_sl ([.ref mm])).length) Slot.unset).toArray = ls at hl ⊢
  have hl : lv_has ls 1 [(0, .ref mm)] := hl
  refine lv_aload_n hx hb d_Ma_saidCount_0 rfl (lv_at hl 0 rfl) ?_
  refine va_get (D := (dC, dI)) (ci := 2) (v := .int (nI sc)) (C := R_Ma) (T := T_Ma) (N := 6) hx hb hg in_Ma hown hK hP 0 rfl rfl 3 (by decide) (hg _ tw_64) (fun _ h9 => h9) rfl d_Ma_saidCount_1 ?_
  exact W.iret (v := nI sc) hx hb hr (fun t ht hW => ⟨_, rfl, rfl, ht⟩) (fun q h => by cases h) d_Ma_saidCount_4

set_option maxHeartbeats 4000000 in
set_option maxRecDepth 100000 in
theorem c_Ma_result (l : Launch) (dC : Nat → ClassId) (dI : Nat → Nat → Nat) (cI : ClassId) (mm : Nat) (m1 : Nat) (m2 : Nat) (m3 : Nat) (cl : Nat → Int32) (nu : Nat → Int32) (sd : Nat → Int32) (sc : Nat) (rs : Int32) (ft : Bool) : Met l y_Ma_result ws_Ma_result (lvR 0 0 0) (va_Pc [.ref mm] (PB (dC, dI) vwCl [(mm, .inr (2, [.ref m1, .ref m2, .ref m3, .int (nI sc), .int rs, .int (bI ft)])), (m1, .inl (cI, 24, .inl cl)), (m2, .inl (cI, 4, .inl nu)), (m3, .inl (cI, 24, .inl sd))] [(cI, .int)])) (vp_Si (fun r => r = rs)) 0 0 (fun _ => False) := by
  refine Met.ofW (cc := b_Ma_result) (maxL := 1) (ret := (some .int)) (by decide) rfl ?_
  intro p e s m args below meth c s₁ B hml hv
  obtain ⟨rfl, hP, hK⟩ := hv
  have hx := B.exec
  have hb := B.bytes
  have hr := B.returns
  have hts := atoms_spec (ws := ws_Ma_result) B.pre
  have hg : ∀ w ∈ TG, w.before ([.ref mm] : List Value).toArray s = true := fun w h => hts w (List.mem_cons_of_mem _ h)
  have hown : s.vm.findClass R_Ma = some m.cls := findClass_of_methodNamed B.named
  have hlocks := B.notSynchronized
  have hl := lv_entry ([.ref mm]) (n := 1) (Nat.le_of_ble_eq_true rfl)
  rw [lg_entry_eq]
  generalize (lg_sl ([.ref mm]) ++ List.replicate (1 - (lg_sl ([.ref mm])).length) Slot.unset).toArray = ls at hl ⊢
  have hl : lv_has ls 1 [(0, .ref mm)] := hl
  refine lv_aload_n hx hb d_Ma_result_0 rfl (lv_at hl 0 rfl) ?_
  refine va_get (D := (dC, dI)) (ci := 2) (v := .int rs) (C := R_Ma) (T := T_Ma) (N := 6) hx hb hg in_Ma hown hK hP 0 rfl rfl 4 (by decide) (hg _ tw_65) (fun _ h9 => h9) rfl d_Ma_result_1 ?_
  exact W.iret (v := rs) hx hb hr (fun t ht hW => ⟨_, rfl, rfl, ht⟩) (fun q h => by cases h) d_Ma_result_4

set_option maxHeartbeats 4000000 in
set_option maxRecDepth 100000 in
theorem c_Ma_hadFault (l : Launch) (dC : Nat → ClassId) (dI : Nat → Nat → Nat) (cI : ClassId) (mm : Nat) (m1 : Nat) (m2 : Nat) (m3 : Nat) (cl : Nat → Int32) (nu : Nat → Int32) (sd : Nat → Int32) (sc : Nat) (rs : Int32) (ft : Bool) : Met l y_Ma_hadFault ws_Ma_hadFault (lvR 0 0 0) (va_Pc [.ref mm] (PB (dC, dI) vwCl [(mm, .inr (2, [.ref m1, .ref m2, .ref m3, .int (nI sc), .int rs, .int (bI ft)])), (m1, .inl (cI, 24, .inl cl)), (m2, .inl (cI, 4, .inl nu)), (m3, .inl (cI, 24, .inl sd))] [(cI, .int)])) (vp_Si (fun r => r = bI ft)) 0 0 (fun _ => False) := by
  refine Met.ofW (cc := b_Ma_hadFault) (maxL := 1) (ret := (some .boolean)) (by decide) rfl ?_
  intro p e s m args below meth c s₁ B hml hv
  obtain ⟨rfl, hP, hK⟩ := hv
  have hx := B.exec
  have hb := B.bytes
  have hr := B.returns
  have hts := atoms_spec (ws := ws_Ma_hadFault) B.pre
  have hg : ∀ w ∈ TG, w.before ([.ref mm] : List Value).toArray s = true := fun w h => hts w (List.mem_cons_of_mem _ h)
  have hown : s.vm.findClass R_Ma = some m.cls := findClass_of_methodNamed B.named
  have hlocks := B.notSynchronized
  have hl := lv_entry ([.ref mm]) (n := 1) (Nat.le_of_ble_eq_true rfl)
  rw [lg_entry_eq]
  generalize (lg_sl ([.ref mm]) ++ List.replicate (1 - (lg_sl ([.ref mm])).length) Slot.unset).toArray = ls at hl ⊢
  have hl : lv_has ls 1 [(0, .ref mm)] := hl
  refine lv_aload_n hx hb d_Ma_hadFault_0 rfl (lv_at hl 0 rfl) ?_
  refine va_get (D := (dC, dI)) (ci := 2) (v := .int (bI ft)) (C := R_Ma) (T := T_Ma) (N := 6) hx hb hg in_Ma hown hK hP 0 rfl rfl 5 (by decide) (hg _ tw_66) (fun _ h9 => h9) rfl d_Ma_hadFault_1 ?_
  exact W.zret (v := bI ft) (ty := .boolean) hx hb hr (bI_narrow ft) (fun t ht hW => ⟨_, rfl, rfl, ht⟩) (fun q h => by cases h) d_Ma_hadFault_4

set_option maxHeartbeats 4000000 in
set_option maxRecDepth 100000 in
theorem c_Ma_saidAt (l : Launch) (dC : Nat → ClassId) (dI : Nat → Nat → Nat) (cI : ClassId) (mm : Nat) (m1 : Nat) (m2 : Nat) (m3 : Nat) (cl : Nat → Int32) (nu : Nat → Int32) (sd : Nat → Int32) (sc : Nat) (rs : Int32) (ft : Bool) (i : Nat) (hi : i < 24) : Met l y_Ma_saidAt ws_Ma_saidAt (lvR 0 0 0) (va_Pc [.ref mm, .int (nI i)] (PB (dC, dI) vwCl [(mm, .inr (2, [.ref m1, .ref m2, .ref m3, .int (nI sc), .int rs, .int (bI ft)])), (m1, .inl (cI, 24, .inl cl)), (m2, .inl (cI, 4, .inl nu)), (m3, .inl (cI, 24, .inl sd))] [(cI, .int)])) (vp_Si (fun r => r = sd i)) 0 0 (fun _ => False) := by
  refine Met.ofW (cc := b_Ma_saidAt) (maxL := 2) (ret := (some .int)) (by decide) rfl ?_
  intro p e s m args below meth c s₁ B hml hv
  obtain ⟨rfl, hP, hK⟩ := hv
  have hx := B.exec
  have hb := B.bytes
  have hr := B.returns
  have hts := atoms_spec (ws := ws_Ma_saidAt) B.pre
  have hg : ∀ w ∈ TG, w.before ([.ref mm, .int (nI i)] : List Value).toArray s = true := fun w h => hts w (List.mem_cons_of_mem _ h)
  have hown : s.vm.findClass R_Ma = some m.cls := findClass_of_methodNamed B.named
  have hlocks := B.notSynchronized
  have hl := lv_entry ([.ref mm, .int (nI i)]) (n := 2) (Nat.le_of_ble_eq_true rfl)
  rw [lg_entry_eq]
  generalize (lg_sl ([.ref mm, .int (nI i)]) ++ List.replicate (2 - (lg_sl ([.ref mm, .int (nI i)])).length) Slot.unset).toArray = ls at hl ⊢
  have hl : lv_has ls 2 [(0, .ref mm), (1, .int (nI i))] := hl
  refine lv_aload_n hx hb d_Ma_saidAt_0 rfl (lv_at hl 0 rfl) ?_
  refine va_get (D := (dC, dI)) (ci := 2) (v := .ref m3) (C := R_Ma) (T := T_Ma) (N := 6) hx hb hg in_Ma hown hK hP 0 rfl rfl 2 (by decide) (hg _ tw_63) (fun _ h9 => h9) rfl d_Ma_saidAt_1 ?_
  refine lv_iload_n hx hb d_Ma_saidAt_4 rfl (lv_at hl 1 rfl) ?_
  refine wb_iald hx hb hK hP 3 0 rfl rfl i rfl hi (by decide) d_Ma_saidAt_5 ?_
  exact W.iret (v := sd i) hx hb hr (fun t ht hW => ⟨_, rfl, rfl, ht⟩) (fun q h => by cases h) d_Ma_saidAt_6

set_option maxHeartbeats 4000000 in
set_option maxRecDepth 100000 in
theorem c_Ma_divide (l : Launch) (dC : Nat → ClassId) (dI : Nat → Nat → Nat) (cI : ClassId) (mm : Nat) (m1 : Nat) (m2 : Nat) (m3 : Nat) (cl : Nat → Int32) (nu : Nat → Int32) (sd : Nat → Int32) (sc : Nat) (rs : Int32) (ft : Bool) (x : Int32) (y : Int32) (sz : Nat) : Met l y_Ma_divide ws_Ma_divide (lvR 0 0 0) (va_Pc [.ref mm, .int x, .int y] (PM (dC, dI) vwCl [(mm, .inr (2, [.ref m1, .ref m2, .ref m3, .int (nI sc), .int rs, .int (bI ft)])), (m1, .inl (cI, 24, .inl cl)), (m2, .inl (cI, 4, .inl nu)), (m3, .inl (cI, 24, .inl sd))] [(cI, .int)] sz)) (va_Qi (fun (r : Int32) (_ : Unit) => r = dvV x y) (MB (dC, dI) vwCl (fun _ => [(mm, .inr (2, [.ref m1, .ref m2, .ref m3, .int (nI sc), .int rs, .int (bI (dvF ft y))])), (m1, .inl (cI, 24, .inl cl)), (m2, .inl (cI, 4, .inl nu)), (m3, .inl (cI, 24, .inl sd))]) [(cI, .int)] (va_A [(mm, .inr (2, [.ref m1, .ref m2, .ref m3, .int (nI sc), .int rs, .int (bI ft)])), (m1, .inl (cI, 24, .inl cl)), (m2, .inl (cI, 4, .inl nu)), (m3, .inl (cI, 24, .inl sd))] sz)) (va_A [(mm, .inr (2, [.ref m1, .ref m2, .ref m3, .int (nI sc), .int rs, .int (bI ft)])), (m1, .inl (cI, 24, .inl cl)), (m2, .inl (cI, 4, .inl nu)), (m3, .inl (cI, 24, .inl sd))] sz)) 0 0 (va_A [(mm, .inr (2, [.ref m1, .ref m2, .ref m3, .int (nI sc), .int rs, .int (bI ft)])), (m1, .inl (cI, 24, .inl cl)), (m2, .inl (cI, 4, .inl nu)), (m3, .inl (cI, 24, .inl sd))] sz) := by
  refine Met.ofW (cc := b_Ma_divide) (maxL := 3) (ret := (some .int)) (by decide) rfl ?_
  intro p e s m args below meth c s₁ B hml hv
  obtain ⟨rfl, hsz, hP, hK, hD0⟩ := hv
  have hx := B.exec
  have hb := B.bytes
  have hr := B.returns
  have hts := atoms_spec (ws := ws_Ma_divide) B.pre
  have hg : ∀ w ∈ TG, w.before ([.ref mm, .int x, .int y] : List Value).toArray s = true := fun w h => hts w (List.mem_cons_of_mem _ h)
  have hown : s.vm.findClass R_Ma = some m.cls := findClass_of_methodNamed B.named
  have hlocks := B.notSynchronized
  subst hsz
  have hD := hD0.self (sz := s.heap.size)
  generalize hAe : va_A [(mm, .inr (2, [.ref m1, .ref m2, .ref m3, .int (nI sc), .int rs, .int (bI ft)])), (m1, .inl (cI, 24, .inl cl)), (m2, .inl (cI, 4, .inl nu)), (m3, .inl (cI, 24, .inl sd))] s.heap.size = A at hD ⊢
  have hA : ∀ q : Nat, s.heap.size ≤ q → A q := fun q h => by rw [← hAe]; exact Or.inr h
  have hS : va_S A s.heap s.heap [] := va_S.rf
  have hl := lv_entry ([.ref mm, .int x, .int y]) (n := 3) (Nat.le_of_ble_eq_true rfl)
  rw [lg_entry_eq]
  generalize (lg_sl ([.ref mm, .int x, .int y]) ++ List.replicate (3 - (lg_sl ([.ref mm, .int x, .int y])).length) Slot.unset).toArray = ls at hl ⊢
  have hl : lv_has ls 3 [(0, .ref mm), (1, .int x), (2, .int y)] := hl
  refine lv_iload_n hx hb d_Ma_divide_0 rfl (lv_at hl 2 rfl) ?_
  refine lv_if_ne (tgt := 11) hx hb d_Ma_divide_1 (by decide) (fun c1 => ?_) (fun c1 => ?_)
  · refine lv_iload_n hx hb d_Ma_divide_11 rfl (lv_at hl 1 rfl) ?_
    refine lv_iload_n hx hb d_Ma_divide_12 rfl (lv_at hl 2 rfl) ?_
    refine lv_idiv hx hb d_Ma_divide_13 c1 ?_
    have ef : dvF ft y = ft := if_neg c1
    have hP9 : va_P (dC, dI) vwCl [(mm, .inr (2, [.ref m1, .ref m2, .ref m3, .int (nI sc), .int rs, .int (bI (dvF ft y))])), (m1, .inl (cI, 24, .inl cl)), (m2, .inl (cI, 4, .inl nu)), (m3, .inl (cI, 24, .inl sd))] _ := (by rw [ef]; exact hP.sub [0, 1, 2, 3] rfl)
    have hD9 : va_D A [(mm, .inr (2, [.ref m1, .ref m2, .ref m3, .int (nI sc), .int rs, .int (bI (dvF ft y))])), (m1, .inl (cI, 24, .inl cl)), (m2, .inl (cI, 4, .inl nu)), (m3, .inl (cI, 24, .inl sd))] := (by rw [ef]; exact hD.sub [0, 1, 2, 3] (by decide) rfl)
    exact W.iret (v := x / y) hx hb hr (fun t ht hW => ⟨⟨_, (), rfl, (if_neg c1).symm, by rw [ht]; exact hP9, va_K.moved hW.alike hK, hD9⟩, hS.F ht⟩) hS.2.2 d_Ma_divide_14
  · refine lv_aload_n hx hb d_Ma_divide_4 rfl (lv_at hl 0 rfl) ?_
    refine lv_iconst (v := 1) hx hb d_Ma_divide_5 (by decide) ?_
    refine va_put (D := (dC, dI)) (ci := 2) (v := .int (bI true)) (ty := .boolean) (C := R_Ma) (T := T_Ma) (N := 6) hx hb hg in_Ma ty_Ma tyok_Ma nm_Ma hown hK hP hD hS 0 rfl rfl 5 (by decide) (hg _ tw_66) (fun _ h9 => h9) rfl (by decide +kernel) (bI_narrow true) (bI_fits true) (Nat.le_of_ble_eq_true rfl) d_Ma_divide_6 (fun H locs hP hD hS => ?_)
    have hP : va_P (dC, dI) vwCl [(mm, .inr (2, [.ref m1, .ref m2, .ref m3, .int (nI sc), .int rs, .int (bI true)])), (m1, .inl (cI, 24, .inl cl)), (m2, .inl (cI, 4, .inl nu)), (m3, .inl (cI, 24, .inl sd))] H := hP
    have hD : va_D A [(mm, .inr (2, [.ref m1, .ref m2, .ref m3, .int (nI sc), .int rs, .int (bI true)])), (m1, .inl (cI, 24, .inl cl)), (m2, .inl (cI, 4, .inl nu)), (m3, .inl (cI, 24, .inl sd))] := hD
    refine lv_iconst (v := 0) hx hb d_Ma_divide_9 (by decide) ?_
    have ef : dvF ft y = true := if_pos c1
    have hP9 : va_P (dC, dI) vwCl [(mm, .inr (2, [.ref m1, .ref m2, .ref m3, .int (nI sc), .int rs, .int (bI (dvF ft y))])), (m1, .inl (cI, 24, .inl cl)), (m2, .inl (cI, 4, .inl nu)), (m3, .inl (cI, 24, .inl sd))] _ := (by rw [ef]; exact hP.sub [0, 1, 2, 3] rfl)
    have hD9 : va_D A [(mm, .inr (2, [.ref m1, .ref m2, .ref m3, .int (nI sc), .int rs, .int (bI (dvF ft y))])), (m1, .inl (cI, 24, .inl cl)), (m2, .inl (cI, 4, .inl nu)), (m3, .inl (cI, 24, .inl sd))] := (by rw [ef]; exact hD.sub [0, 1, 2, 3] (by decide) rfl)
    exact W.iret (v := (0 : Int32)) hx hb hr (fun t ht hW => ⟨⟨_, (), rfl, (if_pos c1).symm, by rw [ht]; exact hP9, va_K.moved hW.alike hK, hD9⟩, hS.F ht⟩) hS.2.2 d_Ma_divide_10

set_option maxHeartbeats 4000000 in
set_option maxRecDepth 100000 in
theorem c_Ma_spoil (l : Launch) (dC : Nat → ClassId) (dI : Nat → Nat → Nat) (cI : ClassId) (mm : Nat) (m1 : Nat) (m2 : Nat) (m3 : Nat) (cl : Nat → Int32) (nu : Nat → Int32) (sd : Nat → Int32) (sc : Nat) (rs : Int32) (ft : Bool) (k : Nat) (sz : Nat) (hk5 : k ≤ 5) : Met l y_Ma_spoil ws_Ma_spoil (lvR 0 0 0) (va_Pc [.ref mm, .int (nI k)] (PM (dC, dI) vwCl [(mm, .inr (2, [.ref m1, .ref m2, .ref m3, .int (nI sc), .int rs, .int (bI ft)])), (m1, .inl (cI, 24, .inl cl)), (m2, .inl (cI, 4, .inl nu)), (m3, .inl (cI, 24, .inl sd))] [(cI, .int)] sz)) (va_Qv (fun _ : Unit => True) (MB (dC, dI) vwCl (fun _ => [(mm, .inr (2, [.ref m1, .ref m2, .ref m3, .int (nI sc), .int rs, .int (bI ft)])), (m1, .inl (cI, 24, .inl (spF cl k))), (m2, .inl (cI, 4, .inl nu)), (m3, .inl (cI, 24, .inl sd))]) [(cI, .int)] (va_A [(mm, .inr (2, [.ref m1, .ref m2, .ref m3, .int (nI sc), .int rs, .int (bI ft)])), (m1, .inl (cI, 24, .inl cl)), (m2, .inl (cI, 4, .inl nu)), (m3, .inl (cI, 24, .inl sd))] sz)) (va_A [(mm, .inr (2, [.ref m1, .ref m2, .ref m3, .int (nI sc), .int rs, .int (bI ft)])), (m1, .inl (cI, 24, .inl cl)), (m2, .inl (cI, 4, .inl nu)), (m3, .inl (cI, 24, .inl sd))] sz)) 0 0 (va_A [(mm, .inr (2, [.ref m1, .ref m2, .ref m3, .int (nI sc), .int rs, .int (bI ft)])), (m1, .inl (cI, 24, .inl cl)), (m2, .inl (cI, 4, .inl nu)), (m3, .inl (cI, 24, .inl sd))] sz) := by
  refine Met.ofW (cc := b_Ma_spoil) (maxL := 3) (ret := none) (by decide) rfl ?_
  intro p e s m args below meth c s₁ B hml hv
  obtain ⟨rfl, hsz, hP, hK, hD0⟩ := hv
  have hx := B.exec
  have hb := B.bytes
  have hr := B.returns
  have hts := atoms_spec (ws := ws_Ma_spoil) B.pre
  have hg : ∀ w ∈ TG, w.before ([.ref mm, .int (nI k)] : List Value).toArray s = true := fun w h => hts w (List.mem_cons_of_mem _ h)
  have hown : s.vm.findClass R_Ma = some m.cls := findClass_of_methodNamed B.named
  have hlocks := B.notSynchronized
  subst hsz
  have hD := hD0.self (sz := s.heap.size)
  generalize hAe : va_A [(mm, .inr (2, [.ref m1, .ref m2, .ref m3, .int (nI sc), .int rs, .int (bI ft)])), (m1, .inl (cI, 24, .inl cl)), (m2, .inl (cI, 4, .inl nu)), (m3, .inl (cI, 24, .inl sd))] s.heap.size = A at hD ⊢
  have hA : ∀ q : Nat, s.heap.size ≤ q → A q := fun q h => by rw [← hAe]; exact Or.inr h
  have hS : va_S A s.heap s.heap [] := va_S.rf
  have hl := lv_entry ([.ref mm, .int (nI k)]) (n := 3) (Nat.le_of_ble_eq_true rfl)
  rw [lg_entry_eq]
  generalize (lg_sl ([.ref mm, .int (nI k)]) ++ List.replicate (3 - (lg_sl ([.ref mm, .int (nI k)])).length) Slot.unset).toArray = ls at hl ⊢
  have hl : lv_has ls 3 [(0, .ref mm), (1, .int (nI k))] := hl
  refine lv_iconst (v := 2) hx hb d_Ma_spoil_0 (by decide) ?_
  refine lv_istore_n (lv' := [(2, .int ((2 : Int32))), (0, .ref mm), (1, .int (nI k))]) hx hb d_Ma_spoil_1 rfl hl (by decide) rfl (fun ls hl => ?_)
  refine wb_loop (σ := Nat) 2 (fun i H locs ls => lv_has ls 3 [(2, .int (nI i)), (0, .ref mm), (1, .int (nI k))] ∧ va_P (dC, dI) vwCl [(mm, .inr (2, [.ref m1, .ref m2, .ref m3, .int (nI sc), .int rs, .int (bI ft)])), (m1, .inl (cI, 24, .inl (spF cl i))), (m2, .inl (cI, 4, .inl nu)), (m3, .inl (cI, 24, .inl sd))] H ∧ va_D A [(mm, .inr (2, [.ref m1, .ref m2, .ref m3, .int (nI sc), .int rs, .int (bI ft)])), (m1, .inl (cI, 24, .inl (spF cl i))), (m2, .inl (cI, 4, .inl nu)), (m3, .inl (cI, 24, .inl sd))] ∧ va_S A s.heap H locs ∧ (2 ≤ i) ∧ (i ≤ k ∨ i = 2)) (fun i => 6 - i) ?_ (2) _ _ ls ⟨lv_sub hl [0, 1, 2] rfl, (by rw [spF_0]; exact hP), (by rw [spF_0]; exact hD), hS, (Nat.le_refl _), (Or.inr rfl)⟩
  clear hP hD hS hl
  intro i H locs ls hI2 ih1
  obtain ⟨hl, hP, hD, hS, hi2, hik⟩ := hI2
  refine lv_iload_n hx hb d_Ma_spoil_2 rfl (lv_at hl 0 rfl) ?_
  refine lv_iload_n hx hb d_Ma_spoil_3 rfl (lv_at hl 2 rfl) ?_
  refine wb_icmp_ge (tgt := 20) hx hb i k rfl rfl (by omega) (by omega) d_Ma_spoil_4 (by decide) (fun c3 => ?_) (fun c3 => ?_)
  · have es : spF cl k = spF cl i := spF_e hi2 c3 hik
    have hP9 : va_P (dC, dI) vwCl [(mm, .inr (2, [.ref m1, .ref m2, .ref m3, .int (nI sc), .int rs, .int (bI ft)])), (m1, .inl (cI, 24, .inl (spF cl k))), (m2, .inl (cI, 4, .inl nu)), (m3, .inl (cI, 24, .inl sd))] _ := (by rw [es]; exact hP.sub [0, 1, 2, 3] rfl)
    have hD9 : va_D A [(mm, .inr (2, [.ref m1, .ref m2, .ref m3, .int (nI sc), .int rs, .int (bI ft)])), (m1, .inl (cI, 24, .inl (spF cl k))), (m2, .inl (cI, 4, .inl nu)), (m3, .inl (cI, 24, .inl sd))] := (by rw [es]; exact hD.sub [0, 1, 2, 3] (by decide) rfl)
    exact W.vret hx hb hr (fun t ht hW => ⟨⟨(), rfl, trivial, by rw [ht]; exact hP9, va_K.moved hW.alike hK, hD9⟩, hS.F ht⟩) hS.2.2 d_Ma_spoil_20
  · refine lv_aload_n hx hb d_Ma_spoil_7 rfl (lv_at hl 1 rfl) ?_
    refine va_get (D := (dC, dI)) (ci := 2) (v := .ref m1) (C := R_Ma) (T := T_Ma) (N := 6) hx hb hg in_Ma hown hK hP 0 rfl rfl 0 (by decide) (hg _ tw_61) (fun _ h9 => h9) rfl d_Ma_spoil_8 ?_
    refine lv_iload_n hx hb d_Ma_spoil_11 rfl (lv_at hl 0 rfl) ?_
    refine lv_iconst (v := -1) hx hb d_Ma_spoil_12 (by decide) ?_
    refine wb_iast hx hb hK hP hD hS 1 0 rfl rfl i rfl (Nat.lt_of_lt_of_le c3 (Nat.le_trans hk5 (by decide))) (by decide) d_Ma_spoil_13 (fun H locs hP hD hS => ?_)
    have hP : va_P (dC, dI) vwCl [(mm, .inr (2, [.ref m1, .ref m2, .ref m3, .int (nI sc), .int rs, .int (bI ft)])), (m1, .inl (cI, 24, .inl (upd (spF cl i) i ((-1 : Int32))))), (m2, .inl (cI, 4, .inl nu)), (m3, .inl (cI, 24, .inl sd))] H := hP
    have hD : va_D A [(mm, .inr (2, [.ref m1, .ref m2, .ref m3, .int (nI sc), .int rs, .int (bI ft)])), (m1, .inl (cI, 24, .inl (upd (spF cl i) i ((-1 : Int32))))), (m2, .inl (cI, 4, .inl nu)), (m3, .inl (cI, 24, .inl sd))] := hD
    refine lv_iinc (v := (nI (i + 1))) (lv' := [(2, .int (nI (i + 1))), (0, .ref mm), (1, .int (nI k))]) hx hb d_Ma_spoil_14 hl (k := 0) rfl (nI_add _ 1) (by decide) rfl (fun ls hl => ?_)
    refine lv_goto (tgt := 2) hx hb d_Ma_spoil_17 (by decide) ?_
    exact ih1 (i + 1) _ _ ls ⟨lv_sub hl [0, 1, 2] rfl, (by rw [← spF_s cl hi2]; exact hP), (by rw [← spF_s cl hi2]; exact hD), hS, (Nat.le_succ_of_le hi2), (Or.inl c3)⟩ (by have := c3; omega)

set_option maxHeartbeats 4000000 in
set_option maxRecDepth 100000 in
theorem c_Ma_takeNumbers (l : Launch) (dC : Nat → ClassId) (dI : Nat → Nat → Nat) (cI : ClassId) (mm : Nat) (m1 : Nat) (m2 : Nat) (m3 : Nat) (cl : Nat → Int32) (nu : Nat → Int32) (sd : Nat → Int32) (sc : Nat) (rs : Int32) (ft : Bool) (x : Int32) (y : Int32) (z : Int32) (z4 : Int32) (sz : Nat) : Met l y_Ma_takeNumbers ws_Ma_takeNumbers (lvR 0 0 0) (va_Pc [.ref mm, .int x, .int y, .int z, .int z4] (PM (dC, dI) vwCl [(mm, .inr (2, [.ref m1, .ref m2, .ref m3, .int (nI sc), .int rs, .int (bI ft)])), (m1, .inl (cI, 24, .inl cl)), (m2, .inl (cI, 4, .inl nu)), (m3, .inl (cI, 24, .inl sd))] [(cI, .int)] sz)) (va_Qv (fun _ : Unit => True) (MB (dC, dI) vwCl (fun _ => [(mm, .inr (2, [.ref m1, .ref m2, .ref m3, .int (nI sc), .int rs, .int (bI ft)])), (m1, .inl (cI, 24, .inl cl)), (m2, .inl (cI, 4, .inl (upd (upd (upd (upd nu 0 x) 1 y) 2 z) 3 z4))), (m3, .inl (cI, 24, .inl sd))]) [(cI, .int)] (va_A [(mm, .inr (2, [.ref m1, .ref m2, .ref m3, .int (nI sc), .int rs, .int (bI ft)])), (m1, .inl (cI, 24, .inl cl)), (m2, .inl (cI, 4, .inl nu)), (m3, .inl (cI, 24, .inl sd))] sz)) (va_A [(mm, .inr (2, [.ref m1, .ref m2, .ref m3, .int (nI sc), .int rs, .int (bI ft)])), (m1, .inl (cI, 24, .inl cl)), (m2, .inl (cI, 4, .inl nu)), (m3, .inl (cI, 24, .inl sd))] sz)) 0 0 (va_A [(mm, .inr (2, [.ref m1, .ref m2, .ref m3, .int (nI sc), .int rs, .int (bI ft)])), (m1, .inl (cI, 24, .inl cl)), (m2, .inl (cI, 4, .inl nu)), (m3, .inl (cI, 24, .inl sd))] sz) := by
  refine Met.ofW (cc := b_Ma_takeNumbers) (maxL := 5) (ret := none) (by decide) rfl ?_
  intro p e s m args below meth c s₁ B hml hv
  obtain ⟨rfl, hsz, hP, hK, hD0⟩ := hv
  have hx := B.exec
  have hb := B.bytes
  have hr := B.returns
  have hts := atoms_spec (ws := ws_Ma_takeNumbers) B.pre
  have hg : ∀ w ∈ TG, w.before ([.ref mm, .int x, .int y, .int z, .int z4] : List Value).toArray s = true := fun w h => hts w (List.mem_cons_of_mem _ h)
  have hown : s.vm.findClass R_Ma = some m.cls := findClass_of_methodNamed B.named
  have hlocks := B.notSynchronized
  subst hsz
  have hD := hD0.self (sz := s.heap.size)
  generalize hAe : va_A [(mm, .inr (2, [.ref m1, .ref m2, .ref m3, .int (nI sc), .int rs, .int (bI ft)])), (m1, .inl (cI, 24, .inl cl)), (m2, .inl (cI, 4, .inl nu)), (m3, .inl (cI, 24, .inl sd))] s.heap.size = A at hD ⊢
  have hA : ∀ q : Nat, s.heap.size ≤ q → A q := fun q h => by rw [← hAe]; exact Or.inr h
  have hS : va_S A s.heap s.heap [] := va_S.rf
  have hl := lv_entry ([.ref mm, .int x, .int y, .int z, .int z4]) (n := 5) (Nat.le_of_ble_eq_true rfl)
  rw [lg_entry_eq]
  generalize (lg_sl ([.ref mm, .int x, .int y, .int z, .int z4]) ++ List.replicate (5 - (lg_sl ([.ref mm, .int x, .int y, .int z, .int z4])).length) Slot.unset).toArray = ls at hl ⊢
  have hl : lv_has ls 5 [(0, .ref mm), (1, .int x), (2, .int y), (3, .int z), (4, .int z4)] := hl
  refine lv_aload_n hx hb d_Ma_takeNumbers_0 rfl (lv_at hl 0 rfl) ?_
  refine va_get (D := (dC, dI)) (ci := 2) (v := .ref m2) (C := R_Ma) (T := T_Ma) (N := 6) hx hb hg in_Ma hown hK hP 0 rfl rfl 1 (by decide) (hg _ tw_62) (fun _ h9 => h9) rfl d_Ma_takeNumbers_1 ?_
  refine lv_iconst (v := 0) hx hb d_Ma_takeNumbers_4 (by decide) ?_
  refine lv_iload_n hx hb d_Ma_takeNumbers_5 rfl (lv_at hl 1 rfl) ?_
  refine wb_iast hx hb hK hP hD hS 2 0 rfl rfl 0 rfl (by decide) (by decide) d_Ma_takeNumbers_6 (fun H locs hP hD hS => ?_)
  have hP : va_P (dC, dI) vwCl [(mm, .inr (2, [.ref m1, .ref m2, .ref m3, .int (nI sc), .int rs, .int (bI ft)])), (m1, .inl (cI, 24, .inl cl)), (m2, .inl (cI, 4, .inl (upd nu 0 x))), (m3, .inl (cI, 24, .inl sd))] H := hP
  have hD : va_D A [(mm, .inr (2, [.ref m1, .ref m2, .ref m3, .int (nI sc), .int rs, .int (bI ft)])), (m1, .inl (cI, 24, .inl cl)), (m2, .inl (cI, 4, .inl (upd nu 0 x))), (m3, .inl (cI, 24, .inl sd))] := hD
  refine lv_aload_n hx hb d_Ma_takeNumbers_7 rfl (lv_at hl 0 rfl) ?_
  refine va_get (D := (dC, dI)) (ci := 2) (v := .ref m2) (C := R_Ma) (T := T_Ma) (N := 6) hx hb hg in_Ma hown hK hP 0 rfl rfl 1 (by decide) (hg _ tw_62) (fun _ h9 => h9) rfl d_Ma_takeNumbers_8 ?_
  refine lv_iconst (v := 1) hx hb d_Ma_takeNumbers_11 (by decide) ?_
  refine lv_iload_n hx hb d_Ma_takeNumbers_12 rfl (lv_at hl 2 rfl) ?_
  refine wb_iast hx hb hK hP hD hS 2 0 rfl rfl 1 rfl (by decide) (by decide) d_Ma_takeNumbers_13 (fun H locs hP hD hS => ?_)
  have hP : va_P (dC, dI) vwCl [(mm, .inr (2, [.ref m1, .ref m2, .ref m3, .int (nI sc), .int rs, .int (bI ft)])), (m1, .inl (cI, 24, .inl cl)), (m2, .inl (cI, 4, .inl (upd (upd nu 0 x) 1 y))), (m3, .inl (cI, 24, .inl sd))] H := hP
  have hD : va_D A [(mm, .inr (2, [.ref m1, .ref m2, .ref m3, .int (nI sc), .int rs, .int (bI ft)])), (m1, .inl (cI, 24, .inl cl)), (m2, .inl (cI, 4, .inl (upd (upd nu 0 x) 1 y))), (m3, .inl (cI, 24, .inl sd))] := hD
  refine lv_aload_n hx hb d_Ma_takeNumbers_14 rfl (lv_at hl 0 rfl) ?_
  refine va_get (D := (dC, dI)) (ci := 2) (v := .ref m2) (C := R_Ma) (T := T_Ma) (N := 6) hx hb hg in_Ma hown hK hP 0 rfl rfl 1 (by decide) (hg _ tw_62) (fun _ h9 => h9) rfl d_Ma_takeNumbers_15 ?_
  refine lv_iconst (v := 2) hx hb d_Ma_takeNumbers_18 (by decide) ?_
  refine lv_iload_n hx hb d_Ma_takeNumbers_19 rfl (lv_at hl 3 rfl) ?_
  refine wb_iast hx hb hK hP hD hS 2 0 rfl rfl 2 rfl (by decide) (by decide) d_Ma_takeNumbers_20 (fun H locs hP hD hS => ?_)
  have hP : va_P (dC, dI) vwCl [(mm, .inr (2, [.ref m1, .ref m2, .ref m3, .int (nI sc), .int rs, .int (bI ft)])), (m1, .inl (cI, 24, .inl cl)), (m2, .inl (cI, 4, .inl (upd (upd (upd nu 0 x) 1 y) 2 z))), (m3, .inl (cI, 24, .inl sd))] H := hP
  have hD : va_D A [(mm, .inr (2, [.ref m1, .ref m2, .ref m3, .int (nI sc), .int rs, .int (bI ft)])), (m1, .inl (cI, 24, .inl cl)), (m2, .inl (cI, 4, .inl (upd (upd (upd nu 0 x) 1 y) 2 z))), (m3, .inl (cI, 24, .inl sd))] := hD
  refine lv_aload_n hx hb d_Ma_takeNumbers_21 rfl (lv_at hl 0 rfl) ?_
  refine va_get (D := (dC, dI)) (ci := 2) (v := .ref m2) (C := R_Ma) (T := T_Ma) (N := 6) hx hb hg in_Ma hown hK hP 0 rfl rfl 1 (by decide) (hg _ tw_62) (fun _ h9 => h9) rfl d_Ma_takeNumbers_22 ?_
  refine lv_iconst (v := 3) hx hb d_Ma_takeNumbers_25 (by decide) ?_
  refine lv_iload hx hb d_Ma_takeNumbers_26 (lv_at hl 4 rfl) ?_
  refine wb_iast hx hb hK hP hD hS 2 0 rfl rfl 3 rfl (by decide) (by decide) d_Ma_takeNumbers_28 (fun H locs hP hD hS => ?_)
  have hP : va_P (dC, dI) vwCl [(mm, .inr (2, [.ref m1, .ref m2, .ref m3, .int (nI sc), .int rs, .int (bI ft)])), (m1, .inl (cI, 24, .inl cl)), (m2, .inl (cI, 4, .inl (upd (upd (upd (upd nu 0 x) 1 y) 2 z) 3 z4))), (m3, .inl (cI, 24, .inl sd))] H := hP
  have hD : va_D A [(mm, .inr (2, [.ref m1, .ref m2, .ref m3, .int (nI sc), .int rs, .int (bI ft)])), (m1, .inl (cI, 24, .inl cl)), (m2, .inl (cI, 4, .inl (upd (upd (upd (upd nu 0 x) 1 y) 2 z) 3 z4))), (m3, .inl (cI, 24, .inl sd))] := hD
  have hP9 : va_P (dC, dI) vwCl [(mm, .inr (2, [.ref m1, .ref m2, .ref m3, .int (nI sc), .int rs, .int (bI ft)])), (m1, .inl (cI, 24, .inl cl)), (m2, .inl (cI, 4, .inl (upd (upd (upd (upd nu 0 x) 1 y) 2 z) 3 z4))), (m3, .inl (cI, 24, .inl sd))] _ := hP.sub [0, 1, 2, 3] rfl
  have hD9 : va_D A [(mm, .inr (2, [.ref m1, .ref m2, .ref m3, .int (nI sc), .int rs, .int (bI ft)])), (m1, .inl (cI, 24, .inl cl)), (m2, .inl (cI, 4, .inl (upd (upd (upd (upd nu 0 x) 1 y) 2 z) 3 z4))), (m3, .inl (cI, 24, .inl sd))] := hD.sub [0, 1, 2, 3] (by decide) rfl
  exact W.vret hx hb hr (fun t ht hW => ⟨⟨(), rfl, trivial, by rw [ht]; exact hP9, va_K.moved hW.alike hK, hD9⟩, hS.F ht⟩) hS.2.2 d_Ma_takeNumbers_29

set_option maxHeartbeats 4000000 in
set_option maxRecDepth 100000 in
theorem c_Ma_compute (l : Launch) (dC : Nat → ClassId) (dI : Nat → Nat → Nat) (cI : ClassId) (mm : Nat) (m1 : Nat) (m2 : Nat) (m3 : Nat) (cl : Nat → Int32) (nu : Nat → Int32) (sd : Nat → Int32) (sc : Nat) (rs : Int32) (ft : Bool) (op : Int32) (x : Int32) (y : Int32) (sz : Nat) (h1 : op = 1 → ∃ j : Nat, j < 4 ∧ x = nI j) (h6 : op = 6 → sc < 24) : Met l y_Ma_compute ws_Ma_compute (lvR 1 0 0) (va_Pc [.ref mm, .int op, .int x, .int y] (PM (dC, dI) vwCl [(mm, .inr (2, [.ref m1, .ref m2, .ref m3, .int (nI sc), .int rs, .int (bI ft)])), (m1, .inl (cI, 24, .inl cl)), (m2, .inl (cI, 4, .inl nu)), (m3, .inl (cI, 24, .inl sd))] [(cI, .int)] sz)) (va_Qi (fun (r : Int32) (_ : Unit) => r = cmpV nu op x y) (MB (dC, dI) vwCl (fun _ => [(mm, .inr (2, [.ref m1, .ref m2, .ref m3, .int (nI (cmpN sc op)), .int rs, .int (bI (cmpF ft op y))])), (m1, .inl (cI, 24, .inl cl)), (m2, .inl (cI, 4, .inl nu)), (m3, .inl (cI, 24, .inl (cmpS sd sc op x)))]) [(cI, .int)] (va_A [(mm, .inr (2, [.ref m1, .ref m2, .ref m3, .int (nI sc), .int rs, .int (bI ft)])), (m1, .inl (cI, 24, .inl cl)), (m2, .inl (cI, 4, .inl nu)), (m3, .inl (cI, 24, .inl sd))] sz)) (va_A [(mm, .inr (2, [.ref m1, .ref m2, .ref m3, .int (nI sc), .int rs, .int (bI ft)])), (m1, .inl (cI, 24, .inl cl)), (m2, .inl (cI, 4, .inl nu)), (m3, .inl (cI, 24, .inl sd))] sz)) 0 0 (va_A [(mm, .inr (2, [.ref m1, .ref m2, .ref m3, .int (nI sc), .int rs, .int (bI ft)])), (m1, .inl (cI, 24, .inl cl)), (m2, .inl (cI, 4, .inl nu)), (m3, .inl (cI, 24, .inl sd))] sz) := by
  refine Met.ofW (cc := b_Ma_compute) (maxL := 4) (ret := (some .int)) (by decide) rfl ?_
  intro p e s m args below meth c s₁ B hml hv
  obtain ⟨rfl, hsz, hP, hK, hD0⟩ := hv
  have hx := B.exec
  have hb := B.bytes
  have hr := B.returns
  have hts := atoms_spec (ws := ws_Ma_compute) B.pre
  have hg : ∀ w ∈ TG, w.before ([.ref mm, .int op, .int x, .int y] : List Value).toArray s = true := fun w h => hts w (List.mem_cons_of_mem _ h)
  have hown : s.vm.findClass R_Ma = some m.cls := findClass_of_methodNamed B.named
  have hlocks := B.notSynchronized
  subst hsz
  have hD := hD0.self (sz := s.heap.size)
  generalize hAe : va_A [(mm, .inr (2, [.ref m1, .ref m2, .ref m3, .int (nI sc), .int rs, .int (bI ft)])), (m1, .inl (cI, 24, .inl cl)), (m2, .inl (cI, 4, .inl nu)), (m3, .inl (cI, 24, .inl sd))] s.heap.size = A at hD ⊢
  have hA : ∀ q : Nat, s.heap.size ≤ q → A q := fun q h => by rw [← hAe]; exact Or.inr h
  have hS : va_S A s.heap s.heap [] := va_S.rf
  have hl := lv_entry ([.ref mm, .int op, .int x, .int y]) (n := 4) (Nat.le_of_ble_eq_true rfl)
  rw [lg_entry_eq]
  generalize (lg_sl ([.ref mm, .int op, .int x, .int y]) ++ List.replicate (4 - (lg_sl ([.ref mm, .int op, .int x, .int y])).length) Slot.unset).toArray = ls at hl ⊢
  have hl : lv_has ls 4 [(0, .ref mm), (1, .int op), (2, .int x), (3, .int y)] := hl
  refine lv_iload_n hx hb d_Ma_compute_0 rfl (lv_at hl 1 rfl) ?_
  rcases Decidable.em (op = 1) with k1 | k1
  · refine lv_tableIn (tgt := 44) hx hb d_Ma_compute_1 (by rw [k1]; decide) (by rw [k1]; decide) (by rw [k1]; rfl) (by decide) ?_
    obtain ⟨j, hj, rfl⟩ := h1 k1
    refine lv_aload_n hx hb d_Ma_compute_44 rfl (lv_at hl 0 rfl) ?_
    refine va_get (D := (dC, dI)) (ci := 2) (v := .ref m2) (C := R_Ma) (T := T_Ma) (N := 6) hx hb hg in_Ma hown hK hP 0 rfl rfl 1 (by decide) (hg _ tw_62) (fun _ h9 => h9) rfl d_Ma_compute_45 ?_
    refine lv_iload_n hx hb d_Ma_compute_48 rfl (lv_at hl 2 rfl) ?_
    refine wb_iald hx hb hK hP 2 0 rfl rfl j rfl hj (by decide) d_Ma_compute_49 ?_
    have e1 : cmpS sd sc op (nI j) = sd := cmpS_n (ne_of k1 (by decide))
    have e2 : cmpN sc op = sc := cmpN_n (ne_of k1 (by decide))
    have e3 : cmpF ft op y = ft := cmpF_n (ne_of k1 (by decide))
    have hP9 : va_P (dC, dI) vwCl [(mm, .inr (2, [.ref m1, .ref m2, .ref m3, .int (nI (cmpN sc op)), .int rs, .int (bI (cmpF ft op y))])), (m1, .inl (cI, 24, .inl cl)), (m2, .inl (cI, 4, .inl nu)), (m3, .inl (cI, 24, .inl (cmpS sd sc op (nI j))))] _ := (by rw [e1, e2, e3]; exact hP.sub [0, 1, 2, 3] rfl)
    have hD9 : va_D A [(mm, .inr (2, [.ref m1, .ref m2, .ref m3, .int (nI (cmpN sc op)), .int rs, .int (bI (cmpF ft op y))])), (m1, .inl (cI, 24, .inl cl)), (m2, .inl (cI, 4, .inl nu)), (m3, .inl (cI, 24, .inl (cmpS sd sc op (nI j))))] := (by rw [e1, e2, e3]; exact hD.sub [0, 1, 2, 3] (by decide) rfl)
    exact W.iret (v := nu j) hx hb hr (fun t ht hW => ⟨⟨_, (), rfl, (by rw [← cmpV_1 k1, nI_clamp (by omega)]), by rw [ht]; exact hP9, va_K.moved hW.alike hK, hD9⟩, hS.F ht⟩) hS.2.2 d_Ma_compute_50
  · rcases Decidable.em (op = 2) with k2 | k2
    · refine lv_tableIn (tgt := 51) hx hb d_Ma_compute_1 (by rw [k2]; decide) (by rw [k2]; decide) (by rw [k2]; rfl) (by decide) ?_
      refine lv_iload_n hx hb d_Ma_compute_51 rfl (lv_at hl 2 rfl) ?_
      refine lv_iload_n hx hb d_Ma_compute_52 rfl (lv_at hl 3 rfl) ?_
      refine lv_iadd hx hb d_Ma_compute_53 ?_
      have e1 : cmpS sd sc op x = sd := cmpS_n (ne_of k2 (by decide))
      have e2 : cmpN sc op = sc := cmpN_n (ne_of k2 (by decide))
      have e3 : cmpF ft op y = ft := cmpF_n (ne_of k2 (by decide))
      have hP9 : va_P (dC, dI) vwCl [(mm, .inr (2, [.ref m1, .ref m2, .ref m3, .int (nI (cmpN sc op)), .int rs, .int (bI (cmpF ft op y))])), (m1, .inl (cI, 24, .inl cl)), (m2, .inl (cI, 4, .inl nu)), (m3, .inl (cI, 24, .inl (cmpS sd sc op x)))] _ := (by rw [e1, e2, e3]; exact hP.sub [0, 1, 2, 3] rfl)
      have hD9 : va_D A [(mm, .inr (2, [.ref m1, .ref m2, .ref m3, .int (nI (cmpN sc op)), .int rs, .int (bI (cmpF ft op y))])), (m1, .inl (cI, 24, .inl cl)), (m2, .inl (cI, 4, .inl nu)), (m3, .inl (cI, 24, .inl (cmpS sd sc op x)))] := (by rw [e1, e2, e3]; exact hD.sub [0, 1, 2, 3] (by decide) rfl)
      exact W.iret (v := x + y) hx hb hr (fun t ht hW => ⟨⟨_, (), rfl, (cmpV_2 k2), by rw [ht]; exact hP9, va_K.moved hW.alike hK, hD9⟩, hS.F ht⟩) hS.2.2 d_Ma_compute_54
    · rcases Decidable.em (op = 3) with k3 | k3
      · refine lv_tableIn (tgt := 55) hx hb d_Ma_compute_1 (by rw [k3]; decide) (by rw [k3]; decide) (by rw [k3]; rfl) (by decide) ?_
        refine lv_iload_n hx hb d_Ma_compute_55 rfl (lv_at hl 2 rfl) ?_
        refine lv_iload_n hx hb d_Ma_compute_56 rfl (lv_at hl 3 rfl) ?_
        refine lv_isub hx hb d_Ma_compute_57 ?_
        have e1 : cmpS sd sc op x = sd := cmpS_n (ne_of k3 (by decide))
        have e2 : cmpN sc op = sc := cmpN_n (ne_of k3 (by decide))
        have e3 : cmpF ft op y = ft := cmpF_n (ne_of k3 (by decide))
        have hP9 : va_P (dC, dI) vwCl [(mm, .inr (2, [.ref m1, .ref m2, .ref m3, .int (nI (cmpN sc op)), .int rs, .int (bI (cmpF ft op y))])), (m1, .inl (cI, 24, .inl cl)), (m2, .inl (cI, 4, .inl nu)), (m3, .inl (cI, 24, .inl (cmpS sd sc op x)))] _ := (by rw [e1, e2, e3]; exact hP.sub [0, 1, 2, 3] rfl)
        have hD9 : va_D A [(mm, .inr (2, [.ref m1, .ref m2, .ref m3, .int (nI (cmpN sc op)), .int rs, .int (bI (cmpF ft op y))])), (m1, .inl (cI, 24, .inl cl)), (m2, .inl (cI, 4, .inl nu)), (m3, .inl (cI, 24, .inl (cmpS sd sc op x)))] := (by rw [e1, e2, e3]; exact hD.sub [0, 1, 2, 3] (by decide) rfl)
        exact W.iret (v := x - y) hx hb hr (fun t ht hW => ⟨⟨_, (), rfl, (cmpV_3 k3), by rw [ht]; exact hP9, va_K.moved hW.alike hK, hD9⟩, hS.F ht⟩) hS.2.2 d_Ma_compute_58
      · rcases Decidable.em (op = 4) with k4 | k4
        · refine lv_tableIn (tgt := 59) hx hb d_Ma_compute_1 (by rw [k4]; decide) (by rw [k4]; decide) (by rw [k4]; rfl) (by decide) ?_
          refine lv_iload_n hx hb d_Ma_compute_59 rfl (lv_at hl 2 rfl) ?_
          refine lv_iload_n hx hb d_Ma_compute_60 rfl (lv_at hl 3 rfl) ?_
          refine lv_imul hx hb d_Ma_compute_61 ?_
          have e1 : cmpS sd sc op x = sd := cmpS_n (ne_of k4 (by decide))
          have e2 : cmpN sc op = sc := cmpN_n (ne_of k4 (by decide))
          have e3 : cmpF ft op y = ft := cmpF_n (ne_of k4 (by decide))
          have hP9 : va_P (dC, dI) vwCl [(mm, .inr (2, [.ref m1, .ref m2, .ref m3, .int (nI (cmpN sc op)), .int rs, .int (bI (cmpF ft op y))])), (m1, .inl (cI, 24, .inl cl)), (m2, .inl (cI, 4, .inl nu)), (m3, .inl (cI, 24, .inl (cmpS sd sc op x)))] _ := (by rw [e1, e2, e3]; exact hP.sub [0, 1, 2, 3] rfl)
          have hD9 : va_D A [(mm, .inr (2, [.ref m1, .ref m2, .ref m3, .int (nI (cmpN sc op)), .int rs, .int (bI (cmpF ft op y))])), (m1, .inl (cI, 24, .inl cl)), (m2, .inl (cI, 4, .inl nu)), (m3, .inl (cI, 24, .inl (cmpS sd sc op x)))] := (by rw [e1, e2, e3]; exact hD.sub [0, 1, 2, 3] (by decide) rfl)
          exact W.iret (v := x * y) hx hb hr (fun t ht hW => ⟨⟨_, (), rfl, (cmpV_4 k4), by rw [ht]; exact hP9, va_K.moved hW.alike hK, hD9⟩, hS.F ht⟩) hS.2.2 d_Ma_compute_62
        · rcases Decidable.em (op = 5) with k5 | k5
          · refine lv_tableIn (tgt := 63) hx hb d_Ma_compute_1 (by rw [k5]; decide) (by rw [k5]; decide) (by rw [k5]; rfl) (by decide) ?_
            refine lv_aload_n hx hb d_Ma_compute_63 rfl (lv_at hl 0 rfl) ?_
            refine lv_iload_n hx hb d_Ma_compute_64 rfl (lv_at hl 2 rfl) ?_
            refine lv_iload_n hx hb d_Ma_compute_65 rfl (lv_at hl 3 rfl) ?_
            refine chVi (ci := 2) (q0 := 0) (wr := []) (As := [.int x, .int y]) (rest := []) ⟨hx, hb, hml, hown, hg⟩ (c_Ma_divide l dC dI cI mm m1 m2 m3 cl nu sd sc rs ft x y _) (cwV 2 hg (tg_V tw_455 tw_457 sp_Ma_divide tw_3 tw_458) rfl rfl rfl (by decide +kernel) ⟨Nat.le_of_ble_eq_true rfl, Nat.le_of_ble_eq_true rfl⟩) (hK.sub [0] rfl) hP hD hS hA [0, 1, 2, 3] [] rfl rfl (by decide) (by decide) (by decide) rfl rfl rfl hl.1 rfl (lv_room (Nat.le_of_ble_eq_true rfl)) d_Ma_compute_66 ⟨Nat.le_of_ble_eq_true rfl, Nat.le_of_ble_eq_true rfl⟩ (fun r8 u6 H locs w7 hP hD hS => ?_)
            obtain rfl := w7
            have hP : va_P (dC, dI) vwCl [(mm, .inr (2, [.ref m1, .ref m2, .ref m3, .int (nI sc), .int rs, .int (bI (dvF ft y))])), (m1, .inl (cI, 24, .inl cl)), (m2, .inl (cI, 4, .inl nu)), (m3, .inl (cI, 24, .inl sd))] H := hP
            have hD : va_D A [(mm, .inr (2, [.ref m1, .ref m2, .ref m3, .int (nI sc), .int rs, .int (bI (dvF ft y))])), (m1, .inl (cI, 24, .inl cl)), (m2, .inl (cI, 4, .inl nu)), (m3, .inl (cI, 24, .inl sd))] := hD
            have e1 : cmpS sd sc op x = sd := cmpS_n (ne_of k5 (by decide))
            have e2 : cmpN sc op = sc := cmpN_n (ne_of k5 (by decide))
            have e3 : cmpF ft op y = dvF ft y := if_pos k5
            have hP9 : va_P (dC, dI) vwCl [(mm, .inr (2, [.ref m1, .ref m2, .ref m3, .int (nI (cmpN sc op)), .int rs, .int (bI (cmpF ft op y))])), (m1, .inl (cI, 24, .inl cl)), (m2, .inl (cI, 4, .inl nu)), (m3, .inl (cI, 24, .inl (cmpS sd sc op x)))] _ := (by rw [e1, e2, e3]; exact hP.sub [0, 1, 2, 3] rfl)
            have hD9 : va_D A [(mm, .inr (2, [.ref m1, .ref m2, .ref m3, .int (nI (cmpN sc op)), .int rs, .int (bI (cmpF ft op y))])), (m1, .inl (cI, 24, .inl cl)), (m2, .inl (cI, 4, .inl nu)), (m3, .inl (cI, 24, .inl (cmpS sd sc op x)))] := (by rw [e1, e2, e3]; exact hD.sub [0, 1, 2, 3] (by decide) rfl)
            exact W.iret (v := dvV x y) hx hb hr (fun t ht hW => ⟨⟨_, (), rfl, (cmpV_5 k5), by rw [ht]; exact hP9, va_K.moved hW.alike hK, hD9⟩, hS.F ht⟩) hS.2.2 d_Ma_compute_69
          · rcases Decidable.em (op = 6) with k9 | k9
            · refine lv_tableIn (tgt := 70) hx hb d_Ma_compute_1 (by rw [k9]; decide) (by rw [k9]; decide) (by rw [k9]; rfl) (by decide) ?_
              refine lv_aload_n hx hb d_Ma_compute_70 rfl (lv_at hl 0 rfl) ?_
              refine va_get (D := (dC, dI)) (ci := 2) (v := .ref m3) (C := R_Ma) (T := T_Ma) (N := 6) hx hb hg in_Ma hown hK hP 0 rfl rfl 2 (by decide) (hg _ tw_63) (fun _ h9 => h9) rfl d_Ma_compute_71 ?_
              refine lv_aload_n hx hb d_Ma_compute_74 rfl (lv_at hl 0 rfl) ?_
              refine lv_dup hx hb d_Ma_compute_75 rfl ?_
              refine va_get (D := (dC, dI)) (ci := 2) (v := .int (nI sc)) (C := R_Ma) (T := T_Ma) (N := 6) hx hb hg in_Ma hown hK hP 0 rfl rfl 3 (by decide) (hg _ tw_64) (fun _ h9 => h9) rfl d_Ma_compute_76 ?_
              refine lv_dup_x1 hx hb d_Ma_compute_79 rfl rfl ?_
              refine lv_iconst (v := 1) hx hb d_Ma_compute_80 (by decide) ?_
              refine wb_iadd hx hb sc 1 rfl rfl d_Ma_compute_81 ?_
              refine va_put (D := (dC, dI)) (ci := 2) (v := .int (nI (sc + 1))) (ty := .int) (C := R_Ma) (T := T_Ma) (N := 6) hx hb hg in_Ma ty_Ma tyok_Ma nm_Ma hown hK hP hD hS 0 rfl rfl 3 (by decide) (hg _ tw_64) (fun _ h9 => h9) rfl (by decide +kernel) rfl rfl (Nat.le_of_ble_eq_true rfl) d_Ma_compute_82 (fun H locs hP hD hS => ?_)
              have hP : va_P (dC, dI) vwCl [(mm, .inr (2, [.ref m1, .ref m2, .ref m3, .int (nI (sc + 1)), .int rs, .int (bI ft)])), (m1, .inl (cI, 24, .inl cl)), (m2, .inl (cI, 4, .inl nu)), (m3, .inl (cI, 24, .inl sd))] H := hP
              have hD : va_D A [(mm, .inr (2, [.ref m1, .ref m2, .ref m3, .int (nI (sc + 1)), .int rs, .int (bI ft)])), (m1, .inl (cI, 24, .inl cl)), (m2, .inl (cI, 4, .inl nu)), (m3, .inl (cI, 24, .inl sd))] := hD
              refine lv_iload_n hx hb d_Ma_compute_85 rfl (lv_at hl 2 rfl) ?_
              refine wb_iast hx hb hK hP hD hS 3 0 rfl rfl sc rfl (h6 k9) (by decide) d_Ma_compute_86 (fun H locs hP hD hS => ?_)
              have hP : va_P (dC, dI) vwCl [(mm, .inr (2, [.ref m1, .ref m2, .ref m3, .int (nI (sc + 1)), .int rs, .int (bI ft)])), (m1, .inl (cI, 24, .inl cl)), (m2, .inl (cI, 4, .inl nu)), (m3, .inl (cI, 24, .inl (upd sd sc x)))] H := hP
              have hD : va_D A [(mm, .inr (2, [.ref m1, .ref m2, .ref m3, .int (nI (sc + 1)), .int rs, .int (bI ft)])), (m1, .inl (cI, 24, .inl cl)), (m2, .inl (cI, 4, .inl nu)), (m3, .inl (cI, 24, .inl (upd sd sc x)))] := hD
              refine lv_iconst (v := 0) hx hb d_Ma_compute_87 (by decide) ?_
              have e1 : cmpS sd sc op x = upd sd sc x := if_pos k9
              have e2 : cmpN sc op = sc + 1 := if_pos k9
              have e3 : cmpF ft op y = ft := cmpF_n (ne_of k9 (by decide))
              have hP9 : va_P (dC, dI) vwCl [(mm, .inr (2, [.ref m1, .ref m2, .ref m3, .int (nI (cmpN sc op)), .int rs, .int (bI (cmpF ft op y))])), (m1, .inl (cI, 24, .inl cl)), (m2, .inl (cI, 4, .inl nu)), (m3, .inl (cI, 24, .inl (cmpS sd sc op x)))] _ := (by rw [e1, e2, e3]; exact hP.sub [0, 1, 2, 3] rfl)
              have hD9 : va_D A [(mm, .inr (2, [.ref m1, .ref m2, .ref m3, .int (nI (cmpN sc op)), .int rs, .int (bI (cmpF ft op y))])), (m1, .inl (cI, 24, .inl cl)), (m2, .inl (cI, 4, .inl nu)), (m3, .inl (cI, 24, .inl (cmpS sd sc op x)))] := (by rw [e1, e2, e3]; exact hD.sub [0, 1, 2, 3] (by decide) rfl)
              exact W.iret (v := (0 : Int32)) hx hb hr (fun t ht hW => ⟨⟨_, (), rfl, (cmpV_6 k9), by rw [ht]; exact hP9, va_K.moved hW.alike hK, hD9⟩, hS.F ht⟩) hS.2.2 d_Ma_compute_88
            · rcases Decidable.em (op = 7) with k10 | k10
              · refine lv_tableIn (tgt := 89) hx hb d_Ma_compute_1 (by rw [k10]; decide) (by rw [k10]; decide) (by rw [k10]; rfl) (by decide) ?_
                refine lv_iload_n hx hb d_Ma_compute_89 rfl (lv_at hl 2 rfl) ?_
                refine lv_iconst (v := 3) hx hb d_Ma_compute_90 (by decide) ?_
                refine lv_imul hx hb d_Ma_compute_91 ?_
                refine lv_iconst (v := 1) hx hb d_Ma_compute_92 (by decide) ?_
                refine lv_iadd hx hb d_Ma_compute_93 ?_
                have e1 : cmpS sd sc op x = sd := cmpS_n (ne_of k10 (by decide))
                have e2 : cmpN sc op = sc := cmpN_n (ne_of k10 (by decide))
                have e3 : cmpF ft op y = ft := cmpF_n (ne_of k10 (by decide))
                have hP9 : va_P (dC, dI) vwCl [(mm, .inr (2, [.ref m1, .ref m2, .ref m3, .int (nI (cmpN sc op)), .int rs, .int (bI (cmpF ft op y))])), (m1, .inl (cI, 24, .inl cl)), (m2, .inl (cI, 4, .inl nu)), (m3, .inl (cI, 24, .inl (cmpS sd sc op x)))] _ := (by rw [e1, e2, e3]; exact hP.sub [0, 1, 2, 3] rfl)
                have hD9 : va_D A [(mm, .inr (2, [.ref m1, .ref m2, .ref m3, .int (nI (cmpN sc op)), .int rs, .int (bI (cmpF ft op y))])), (m1, .inl (cI, 24, .inl cl)), (m2, .inl (cI, 4, .inl nu)), (m3, .inl (cI, 24, .inl (cmpS sd sc op x)))] := (by rw [e1, e2, e3]; exact hD.sub [0, 1, 2, 3] (by decide) rfl)
                exact W.iret (v := (x * ((3 : Int32))) + ((1 : Int32))) hx hb hr (fun t ht hW => ⟨⟨_, (), rfl, (cmpV_7 k10), by rw [ht]; exact hP9, va_K.moved hW.alike hK, hD9⟩, hS.F ht⟩) hS.2.2 d_Ma_compute_94
              · refine lv_tableOut (tgt := 95) hx hb d_Ma_compute_1 (by have a0 := lv_neT k1 (a := 1) (by decide); have a1 := lv_neT k2 (a := 2) (by decide); have a2 := lv_neT k3 (a := 3) (by decide); have a3 := lv_neT k4 (a := 4) (by decide); have a4 := lv_neT k5 (a := 5) (by decide); have a5 := lv_neT k9 (a := 6) (by decide); have a6 := lv_neT k10 (a := 7) (by decide); omega) (by decide) ?_
                refine lv_iload_n hx hb d_Ma_compute_95 rfl (lv_at hl 2 rfl) ?_
                have e1 : cmpS sd sc op x = sd := cmpS_n k9
                have e2 : cmpN sc op = sc := cmpN_n k9
                have e3 : cmpF ft op y = ft := cmpF_n k5
                have hP9 : va_P (dC, dI) vwCl [(mm, .inr (2, [.ref m1, .ref m2, .ref m3, .int (nI (cmpN sc op)), .int rs, .int (bI (cmpF ft op y))])), (m1, .inl (cI, 24, .inl cl)), (m2, .inl (cI, 4, .inl nu)), (m3, .inl (cI, 24, .inl (cmpS sd sc op x)))] _ := (by rw [e1, e2, e3]; exact hP.sub [0, 1, 2, 3] rfl)
                have hD9 : va_D A [(mm, .inr (2, [.ref m1, .ref m2, .ref m3, .int (nI (cmpN sc op)), .int rs, .int (bI (cmpF ft op y))])), (m1, .inl (cI, 24, .inl cl)), (m2, .inl (cI, 4, .inl nu)), (m3, .inl (cI, 24, .inl (cmpS sd sc op x)))] := (by rw [e1, e2, e3]; exact hD.sub [0, 1, 2, 3] (by decide) rfl)
                exact W.iret (v := x) hx hb hr (fun t ht hW => ⟨⟨_, (), rfl, (cmpV_8 k1 k2 k3 k4 k5 k9 k10), by rw [ht]; exact hP9, va_K.moved hW.alike hK, hD9⟩, hS.F ht⟩) hS.2.2 d_Ma_compute_96
