/-! AllocForgeModel: what only reads, first part -/
set_option maxHeartbeats 4000000 in
set_option maxRecDepth 100000 in
theorem c_Mo_init (l : Launch) (dC : Nat → ClassId) (dI : Nat → Nat → Nat) (cI : ClassId) (mo : Nat) (sz : Nat) : Met l y_Mo_init ws_Mo_init (lvR 1 10 232) (va_Pc [.ref mo] (PM (dC, dI) vwCl [(mo, .inr (4, [.null, .null, .null, .null, .null, .null, .null, .null, .null, .null, .int ((0 : Int32)), .int ((0 : Int32)), .int ((0 : Int32)), .int ((0 : Int32)), .int ((0 : Int32)), .int ((0 : Int32)), .int ((0 : Int32)), .int ((0 : Int32))]))] [(cI, .int)] sz)) (va_Qv (fun _ : Nat × Nat × Nat × Nat × Nat × Nat × Nat × Nat × Nat × Nat => True) (MB (dC, dI) vwCl (fun (u9 : Nat × Nat × Nat × Nat × Nat × Nat × Nat × Nat × Nat × Nat) => [(mo, .inr (4, [.ref u9.1, .ref u9.2.1, .ref u9.2.2.1, .ref u9.2.2.2.1, .ref u9.2.2.2.2.1, .ref u9.2.2.2.2.2.1, .ref u9.2.2.2.2.2.2.1, .ref u9.2.2.2.2.2.2.2.1, .ref u9.2.2.2.2.2.2.2.2.1, .ref u9.2.2.2.2.2.2.2.2.2, .int ((0 : Int32)), .int ((0 : Int32)), .int ((0 : Int32)), .int ((0 : Int32)), .int ((0 : Int32)), .int ((0 : Int32)), .int ((0 : Int32)), .int ((0 : Int32))])), (u9.1, .inl (cI, 24, .inl (fun _ => 0))), (u9.2.1, .inl (cI, 24, .inl (fun _ => 0))), (u9.2.2.1, .inl (cI, 24, .inl (fun _ => 0))), (u9.2.2.2.1, .inl (cI, 24, .inl (fun _ => 0))), (u9.2.2.2.2.1, .inl (cI, 24, .inl (fun _ => 0))), (u9.2.2.2.2.2.1, .inl (cI, 24, .inl (fun _ => 0))), (u9.2.2.2.2.2.2.1, .inl (cI, 24, .inl (fun _ => 0))), (u9.2.2.2.2.2.2.2.1, .inl (cI, 16, .inl (fun _ => 0))), (u9.2.2.2.2.2.2.2.2.1, .inl (cI, 24, .inl (fun _ => 0))), (u9.2.2.2.2.2.2.2.2.2, .inl (cI, 24, .inl (fun _ => 0)))]) [(cI, .int)] (va_A [(mo, .inr (4, [.null, .null, .null, .null, .null, .null, .null, .null, .null, .null, .int ((0 : Int32)), .int ((0 : Int32)), .int ((0 : Int32)), .int ((0 : Int32)), .int ((0 : Int32)), .int ((0 : Int32)), .int ((0 : Int32)), .int ((0 : Int32))]))] sz)) (va_A [(mo, .inr (4, [.null, .null, .null, .null, .null, .null, .null, .null, .null, .null, .int ((0 : Int32)), .int ((0 : Int32)), .int ((0 : Int32)), .int ((0 : Int32)), .int ((0 : Int32)), .int ((0 : Int32)), .int ((0 : Int32)), .int ((0 : Int32))]))] sz)) 10 232 (va_A [(mo, .inr (4, [.null, .null, .null, .null, .null, .null, .null, .null, .null, .null, .int ((0 : Int32)), .int ((0 : Int32)), .int ((0 : Int32)), .int ((0 : Int32)), .int ((0 : Int32)), .int ((0 : Int32)), .int ((0 : Int32)), .int ((0 : Int32))]))] sz) := by
  refine Met.ofW (cc := b_Mo_init) (maxL := 1) (ret := none) (by decide) rfl ?_
  intro p e s m args below meth c s₁ B hml hv
  obtain ⟨rfl, hsz, hP, hK, hD0⟩ := hv
  have hx := B.exec
  have hb := B.bytes
  have hr := B.returns
  have hts := atoms_spec (ws := ws_Mo_init) B.pre
  have hg : ∀ w ∈ TG, w.before ([.ref mo] : List Value).toArray s = true := fun w h => hts w (List.mem_cons_of_mem _ h)
  have hown : s.vm.findClass R_Mo = some m.cls := findClass_of_methodNamed B.named
  have hlocks := B.notSynchronized
  have hin : meth.name = "<init>" := (name_of_methodNamed B.named B.method).1
  subst hsz
  have hD := hD0.self (sz := s.heap.size)
  generalize hAe : va_A [(mo, .inr (4, [.null, .null, .null, .null, .null, .null, .null, .null, .null, .null, .int ((0 : Int32)), .int ((0 : Int32)), .int ((0 : Int32)), .int ((0 : Int32)), .int ((0 : Int32)), .int ((0 : Int32)), .int ((0 : Int32)), .int ((0 : Int32))]))] s.heap.size = A at hD ⊢
  have hA : ∀ q : Nat, s.heap.size ≤ q → A q := fun q h => by rw [← hAe]; exact Or.inr h
  have hS : va_S A s.heap s.heap [] := va_S.rf
  have hl := lv_entry ([.ref mo]) (n := 1) (Nat.le_of_ble_eq_true rfl)
  rw [lg_entry_eq]
  generalize (lg_sl ([.ref mo]) ++ List.replicate (1 - (lg_sl ([.ref mo])).length) Slot.unset).toArray = ls at hl ⊢
  have hl : lv_has ls 1 [(0, .ref mo)] := hl
  refine lv_aload_n hx hb d_Mo_init_0 rfl (lv_at hl 0 rfl) ?_
  refine W.objInit hx hb hown (hg _ tw_569) (hg _ tw_21) (hg _ tw_22) rfl (by rw [hml]; exact hl.1) rfl d_Mo_init_1 (Nat.le_of_ble_eq_true rfl) (Nat.le_of_ble_eq_true rfl) ?_
  refine W.eq (g2 := F0 m 4 ls []) rfl ?_
  refine lv_aload_n hx hb d_Mo_init_4 rfl (lv_at hl 0 rfl) ?_
  refine lv_bipush (v := 24) hx hb d_Mo_init_5 (by decide) ?_
  refine wb_newI hx hb (hg _ tw_54) hK hP hD hS hA 24 rfl (by decide) (Nat.le_of_ble_eq_true rfl) (Nat.le_of_ble_eq_true rfl) d_Mo_init_7 (fun q1 H hP hD hS => ?_)
  have hP : va_P (dC, dI) vwCl [(mo, .inr (4, [.null, .null, .null, .null, .null, .null, .null, .null, .null, .null, .int ((0 : Int32)), .int ((0 : Int32)), .int ((0 : Int32)), .int ((0 : Int32)), .int ((0 : Int32)), .int ((0 : Int32)), .int ((0 : Int32)), .int ((0 : Int32))])), (q1, .inl (cI, 24, .inl (fun _ => 0)))] H := hP
  have hD : va_D A [(mo, .inr (4, [.null, .null, .null, .null, .null, .null, .null, .null, .null, .null, .int ((0 : Int32)), .int ((0 : Int32)), .int ((0 : Int32)), .int ((0 : Int32)), .int ((0 : Int32)), .int ((0 : Int32)), .int ((0 : Int32)), .int ((0 : Int32))])), (q1, .inl (cI, 24, .inl (fun _ => 0)))] := hD
  refine W.widen (k := 1) (n := 24) (Nat.le_of_ble_eq_true rfl) (Nat.le_of_ble_eq_true rfl) ?_
  refine va_putF (D := (dC, dI)) (ci := 4) (v := .ref q1) (ty := .array .int) (C := R_Mo) (T := T_Mo) (N := 18) hx hb hg in_Mo ty_Mo tyok_Mo nm_Mo hown hK hP hD hS 0 rfl rfl 0 (by decide) (hg _ tw_570) (fun _ h9 => h9) rfl hin rfl (by decide +kernel) rfl rfl (Nat.le_of_ble_eq_true rfl) d_Mo_init_9 (fun H locs hP hD hS => ?_)
  have hP : va_P (dC, dI) vwCl [(mo, .inr (4, [.ref q1, .null, .null, .null, .null, .null, .null, .null, .null, .null, .int ((0 : Int32)), .int ((0 : Int32)), .int ((0 : Int32)), .int ((0 : Int32)), .int ((0 : Int32)), .int ((0 : Int32)), .int ((0 : Int32)), .int ((0 : Int32))])), (q1, .inl (cI, 24, .inl (fun _ => 0)))] H := hP
  have hD : va_D A [(mo, .inr (4, [.ref q1, .null, .null, .null, .null, .null, .null, .null, .null, .null, .int ((0 : Int32)), .int ((0 : Int32)), .int ((0 : Int32)), .int ((0 : Int32)), .int ((0 : Int32)), .int ((0 : Int32)), .int ((0 : Int32)), .int ((0 : Int32))])), (q1, .inl (cI, 24, .inl (fun _ => 0)))] := hD
  refine lv_aload_n hx hb d_Mo_init_12 rfl (lv_at hl 0 rfl) ?_
  refine lv_bipush (v := 24) hx hb d_Mo_init_13 (by decide) ?_
  refine wb_newI hx hb (hg _ tw_54) hK hP hD hS hA 24 rfl (by decide) (Nat.le_of_ble_eq_true rfl) (Nat.le_of_ble_eq_true rfl) d_Mo_init_15 (fun q2 H hP hD hS => ?_)
  have hP : va_P (dC, dI) vwCl [(mo, .inr (4, [.ref q1, .null, .null, .null, .null, .null, .null, .null, .null, .null, .int ((0 : Int32)), .int ((0 : Int32)), .int ((0 : Int32)), .int ((0 : Int32)), .int ((0 : Int32)), .int ((0 : Int32)), .int ((0 : Int32)), .int ((0 : Int32))])), (q1, .inl (cI, 24, .inl (fun _ => 0))), (q2, .inl (cI, 24, .inl (fun _ => 0)))] H := hP
  have hD : va_D A [(mo, .inr (4, [.ref q1, .null, .null, .null, .null, .null, .null, .null, .null, .null, .int ((0 : Int32)), .int ((0 : Int32)), .int ((0 : Int32)), .int ((0 : Int32)), .int ((0 : Int32)), .int ((0 : Int32)), .int ((0 : Int32)), .int ((0 : Int32))])), (q1, .inl (cI, 24, .inl (fun _ => 0))), (q2, .inl (cI, 24, .inl (fun _ => 0)))] := hD
  refine W.widen (k := 2) (n := 48) (Nat.le_of_ble_eq_true rfl) (Nat.le_of_ble_eq_true rfl) ?_
  refine va_putF (D := (dC, dI)) (ci := 4) (v := .ref q2) (ty := .array .int) (C := R_Mo) (T := T_Mo) (N := 18) hx hb hg in_Mo ty_Mo tyok_Mo nm_Mo hown hK hP hD hS 0 rfl rfl 1 (by decide) (hg _ tw_571) (fun _ h9 => h9) rfl hin rfl (by decide +kernel) rfl rfl (Nat.le_of_ble_eq_true rfl) d_Mo_init_17 (fun H locs hP hD hS => ?_)
  have hP : va_P (dC, dI) vwCl [(mo, .inr (4, [.ref q1, .ref q2, .null, .null, .null, .null, .null, .null, .null, .null, .int ((0 : Int32)), .int ((0 : Int32)), .int ((0 : Int32)), .int ((0 : Int32)), .int ((0 : Int32)), .int ((0 : Int32)), .int ((0 : Int32)), .int ((0 : Int32))])), (q1, .inl (cI, 24, .inl (fun _ => 0))), (q2, .inl (cI, 24, .inl (fun _ => 0)))] H := hP
  have hD : va_D A [(mo, .inr (4, [.ref q1, .ref q2, .null, .null, .null, .null, .null, .null, .null, .null, .int ((0 : Int32)), .int ((0 : Int32)), .int ((0 : Int32)), .int ((0 : Int32)), .int ((0 : Int32)), .int ((0 : Int32)), .int ((0 : Int32)), .int ((0 : Int32))])), (q1, .inl (cI, 24, .inl (fun _ => 0))), (q2, .inl (cI, 24, .inl (fun _ => 0)))] := hD
  refine lv_aload_n hx hb d_Mo_init_20 rfl (lv_at hl 0 rfl) ?_
  refine lv_bipush (v := 24) hx hb d_Mo_init_21 (by decide) ?_
  refine wb_newI hx hb (hg _ tw_54) hK hP hD hS hA 24 rfl (by decide) (Nat.le_of_ble_eq_true rfl) (Nat.le_of_ble_eq_true rfl) d_Mo_init_23 (fun q3 H hP hD hS => ?_)
  have hP : va_P (dC, dI) vwCl [(mo, .inr (4, [.ref q1, .ref q2, .null, .null, .null, .null, .null, .null, .null, .null, .int ((0 : Int32)), .int ((0 : Int32)), .int ((0 : Int32)), .int ((0 : Int32)), .int ((0 : Int32)), .int ((0 : Int32)), .int ((0 : Int32)), .int ((0 : Int32))])), (q1, .inl (cI, 24, .inl (fun _ => 0))), (q2, .inl (cI, 24, .inl (fun _ => 0))), (q3, .inl (cI, 24, .inl (fun _ => 0)))] H := hP
  have hD : va_D A [(mo, .inr (4, [.ref q1, .ref q2, .null, .null, .null, .null, .null, .null, .null, .null, .int ((0 : Int32)), .int ((0 : Int32)), .int ((0 : Int32)), .int ((0 : Int32)), .int ((0 : Int32)), .int ((0 : Int32)), .int ((0 : Int32)), .int ((0 : Int32))])), (q1, .inl (cI, 24, .inl (fun _ => 0))), (q2, .inl (cI, 24, .inl (fun _ => 0))), (q3, .inl (cI, 24, .inl (fun _ => 0)))] := hD
  refine W.widen (k := 3) (n := 72) (Nat.le_of_ble_eq_true rfl) (Nat.le_of_ble_eq_true rfl) ?_
  refine va_putF (D := (dC, dI)) (ci := 4) (v := .ref q3) (ty := .array .int) (C := R_Mo) (T := T_Mo) (N := 18) hx hb hg in_Mo ty_Mo tyok_Mo nm_Mo hown hK hP hD hS 0 rfl rfl 2 (by decide) (hg _ tw_572) (fun _ h9 => h9) rfl hin rfl (by decide +kernel) rfl rfl (Nat.le_of_ble_eq_true rfl) d_Mo_init_25 (fun H locs hP hD hS => ?_)
  have hP : va_P (dC, dI) vwCl [(mo, .inr (4, [.ref q1, .ref q2, .ref q3, .null, .null, .null, .null, .null, .null, .null, .int ((0 : Int32)), .int ((0 : Int32)), .int ((0 : Int32)), .int ((0 : Int32)), .int ((0 : Int32)), .int ((0 : Int32)), .int ((0 : Int32)), .int ((0 : Int32))])), (q1, .inl (cI, 24, .inl (fun _ => 0))), (q2, .inl (cI, 24, .inl (fun _ => 0))), (q3, .inl (cI, 24, .inl (fun _ => 0)))] H := hP
  have hD : va_D A [(mo, .inr (4, [.ref q1, .ref q2, .ref q3, .null, .null, .null, .null, .null, .null, .null, .int ((0 : Int32)), .int ((0 : Int32)), .int ((0 : Int32)), .int ((0 : Int32)), .int ((0 : Int32)), .int ((0 : Int32)), .int ((0 : Int32)), .int ((0 : Int32))])), (q1, .inl (cI, 24, .inl (fun _ => 0))), (q2, .inl (cI, 24, .inl (fun _ => 0))), (q3, .inl (cI, 24, .inl (fun _ => 0)))] := hD
  refine lv_aload_n hx hb d_Mo_init_28 rfl (lv_at hl 0 rfl) ?_
  refine lv_bipush (v := 24) hx hb d_Mo_init_29 (by decide) ?_
  refine wb_newI hx hb (hg _ tw_54) hK hP hD hS hA 24 rfl (by decide) (Nat.le_of_ble_eq_true rfl) (Nat.le_of_ble_eq_true rfl) d_Mo_init_31 (fun q4 H hP hD hS => ?_)
  have hP : va_P (dC, dI) vwCl [(mo, .inr (4, [.ref q1, .ref q2, .ref q3, .null, .null, .null, .null, .null, .null, .null, .int ((0 : Int32)), .int ((0 : Int32)), .int ((0 : Int32)), .int ((0 : Int32)), .int ((0 : Int32)), .int ((0 : Int32)), .int ((0 : Int32)), .int ((0 : Int32))])), (q1, .inl (cI, 24, .inl (fun _ => 0))), (q2, .inl (cI, 24, .inl (fun _ => 0))), (q3, .inl (cI, 24, .inl (fun _ => 0))), (q4, .inl (cI, 24, .inl (fun _ => 0)))] H := hP
  have hD : va_D A [(mo, .inr (4, [.ref q1, .ref q2, .ref q3, .null, .null, .null, .null, .null, .null, .null, .int ((0 : Int32)), .int ((0 : Int32)), .int ((0 : Int32)), .int ((0 : Int32)), .int ((0 : Int32)), .int ((0 : Int32)), .int ((0 : Int32)), .int ((0 : Int32))])), (q1, .inl (cI, 24, .inl (fun _ => 0))), (q2, .inl (cI, 24, .inl (fun _ => 0))), (q3, .inl (cI, 24, .inl (fun _ => 0))), (q4, .inl (cI, 24, .inl (fun _ => 0)))] := hD
  refine W.widen (k := 4) (n := 96) (Nat.le_of_ble_eq_true rfl) (Nat.le_of_ble_eq_true rfl) ?_
  refine va_putF (D := (dC, dI)) (ci := 4) (v := .ref q4) (ty := .array .int) (C := R_Mo) (T := T_Mo) (N := 18) hx hb hg in_Mo ty_Mo tyok_Mo nm_Mo hown hK hP hD hS 0 rfl rfl 3 (by decide) (hg _ tw_573) (fun _ h9 => h9) rfl hin rfl (by decide +kernel) rfl rfl (Nat.le_of_ble_eq_true rfl) d_Mo_init_33 (fun H locs hP hD hS => ?_)
  have hP : va_P (dC, dI) vwCl [(mo, .inr (4, [.ref q1, .ref q2, .ref q3, .ref q4, .null, .null, .null, .null, .null, .null, .int ((0 : Int32)), .int ((0 : Int32)), .int ((0 : Int32)), .int ((0 : Int32)), .int ((0 : Int32)), .int ((0 : Int32)), .int ((0 : Int32)), .int ((0 : Int32))])), (q1, .inl (cI, 24, .inl (fun _ => 0))), (q2, .inl (cI, 24, .inl (fun _ => 0))), (q3, .inl (cI, 24, .inl (fun _ => 0))), (q4, .inl (cI, 24, .inl (fun _ => 0)))] H := hP
  have hD : va_D A [(mo, .inr (4, [.ref q1, .ref q2, .ref q3, .ref q4, .null, .null, .null, .null, .null, .null, .int ((0 : Int32)), .int ((0 : Int32)), .int ((0 : Int32)), .int ((0 : Int32)), .int ((0 : Int32)), .int ((0 : Int32)), .int ((0 : Int32)), .int ((0 : Int32))])), (q1, .inl (cI, 24, .inl (fun _ => 0))), (q2, .inl (cI, 24, .inl (fun _ => 0))), (q3, .inl (cI, 24, .inl (fun _ => 0))), (q4, .inl (cI, 24, .inl (fun _ => 0)))] := hD
  refine lv_aload_n hx hb d_Mo_init_36 rfl (lv_at hl 0 rfl) ?_
  refine lv_bipush (v := 24) hx hb d_Mo_init_37 (by decide) ?_
  refine wb_newI hx hb (hg _ tw_54) hK hP hD hS hA 24 rfl (by decide) (Nat.le_of_ble_eq_true rfl) (Nat.le_of_ble_eq_true rfl) d_Mo_init_39 (fun q5 H hP hD hS => ?_)
  have hP : va_P (dC, dI) vwCl [(mo, .inr (4, [.ref q1, .ref q2, .ref q3, .ref q4, .null, .null, .null, .null, .null, .null, .int ((0 : Int32)), .int ((0 : Int32)), .int ((0 : Int32)), .int ((0 : Int32)), .int ((0 : Int32)), .int ((0 : Int32)), .int ((0 : Int32)), .int ((0 : Int32))])), (q1, .inl (cI, 24, .inl (fun _ => 0))), (q2, .inl (cI, 24, .inl (fun _ => 0))), (q3, .inl (cI, 24, .inl (fun _ => 0))), (q4, .inl (cI, 24, .inl (fun _ => 0))), (q5, .inl (cI, 24, .inl (fun _ => 0)))] H := hP
  have hD : va_D A [(mo, .inr (4, [.ref q1, .ref q2, .ref q3, .ref q4, .null, .null, .null, .null, .null, .null, .int ((0 : Int32)), .int ((0 : Int32)), .int ((0 : Int32)), .int ((0 : Int32)), .int ((0 : Int32)), .int ((0 : Int32)), .int ((0 : Int32)), .int ((0 : Int32))])), (q1, .inl (cI, 24, .inl (fun _ => 0))), (q2, .inl (cI, 24, .inl (fun _ => 0))), (q3, .inl (cI, 24, .inl (fun _ => 0))), (q4, .inl (cI, 24, .inl (fun _ => 0))), (q5, .inl (cI, 24, .inl (fun _ => 0)))] := hD
  refine W.widen (k := 5) (n := 120) (Nat.le_of_ble_eq_true rfl) (Nat.le_of_ble_eq_true rfl) ?_
  refine va_putF (D := (dC, dI)) (ci := 4) (v := .ref q5) (ty := .array .int) (C := R_Mo) (T := T_Mo) (N := 18) hx hb hg in_Mo ty_Mo tyok_Mo nm_Mo hown hK hP hD hS 0 rfl rfl 4 (by decide) (hg _ tw_574) (fun _ h9 => h9) rfl hin rfl (by decide +kernel) rfl rfl (Nat.le_of_ble_eq_true rfl) d_Mo_init_41 (fun H locs hP hD hS => ?_)
  have hP : va_P (dC, dI) vwCl [(mo, .inr (4, [.ref q1, .ref q2, .ref q3, .ref q4, .ref q5, .null, .null, .null, .null, .null, .int ((0 : Int32)), .int ((0 : Int32)), .int ((0 : Int32)), .int ((0 : Int32)), .int ((0 : Int32)), .int ((0 : Int32)), .int ((0 : Int32)), .int ((0 : Int32))])), (q1, .inl (cI, 24, .inl (fun _ => 0))), (q2, .inl (cI, 24, .inl (fun _ => 0))), (q3, .inl (cI, 24, .inl (fun _ => 0))), (q4, .inl (cI, 24, .inl (fun _ => 0))), (q5, .inl (cI, 24, .inl (fun _ => 0)))] H := hP
  have hD : va_D A [(mo, .inr (4, [.ref q1, .ref q2, .ref q3, .ref q4, .ref q5, .null, .null, .null, .null, .null, .int ((0 : Int32)), .int ((0 : Int32)), .int ((0 : Int32)), .int ((0 : Int32)), .int ((0 : Int32)), .int ((0 : Int32)), .int ((0 : Int32)), .int ((0 : Int32))])), (q1, .inl (cI, 24, .inl (fun _ => 0))), (q2, .inl (cI, 24, .inl (fun _ => 0))), (q3, .inl (cI, 24, .inl (fun _ => 0))), (q4, .inl (cI, 24, .inl (fun _ => 0))), (q5, .inl (cI, 24, .inl (fun _ => 0)))] := hD
  refine lv_aload_n hx hb d_Mo_init_44 rfl (lv_at hl 0 rfl) ?_
  refine lv_bipush (v := 24) hx hb d_Mo_init_45 (by decide) ?_
  refine wb_newI hx hb (hg _ tw_54) hK hP hD hS hA 24 rfl (by decide) (Nat.le_of_ble_eq_true rfl) (Nat.le_of_ble_eq_true rfl) d_Mo_init_47 (fun q6 H hP hD hS => ?_)
  have hP : va_P (dC, dI) vwCl [(mo, .inr (4, [.ref q1, .ref q2, .ref q3, .ref q4, .ref q5, .null, .null, .null, .null, .null, .int ((0 : Int32)), .int ((0 : Int32)), .int ((0 : Int32)), .int ((0 : Int32)), .int ((0 : Int32)), .int ((0 : Int32)), .int ((0 : Int32)), .int ((0 : Int32))])), (q1, .inl (cI, 24, .inl (fun _ => 0))), (q2, .inl (cI, 24, .inl (fun _ => 0))), (q3, .inl (cI, 24, .inl (fun _ => 0))), (q4, .inl (cI, 24, .inl (fun _ => 0))), (q5, .inl (cI, 24, .inl (fun _ => 0))), (q6, .inl (cI, 24, .inl (fun _ => 0)))] H := hP
  have hD : va_D A [(mo, .inr (4, [.ref q1, .ref q2, .ref q3, .ref q4, .ref q5, .null, .null, .null, .null, .null, .int ((0 : Int32)), .int ((0 : Int32)), .int ((0 : Int32)), .int ((0 : Int32)), .int ((0 : Int32)), .int ((0 : Int32)), .int ((0 : Int32)), .int ((0 : Int32))])), (q1, .inl (cI, 24, .inl (fun _ => 0))), (q2, .inl (cI, 24, .inl (fun _ => 0))), (q3, .inl (cI, 24, .inl (fun _ => 0))), (q4, .inl (cI, 24, .inl (fun _ => 0))), (q5, .inl (cI, 24, .inl (fun _ => 0))), (q6, .inl (cI, 24, .inl (fun _ => 0)))] := hD
  refine W.widen (k := 6) (n := 144) (Nat.le_of_ble_eq_true rfl) (Nat.le_of_ble_eq_true rfl) ?_
  refine va_putF (D := (dC, dI)) (ci := 4) (v := .ref q6) (ty := .array .int) (C := R_Mo) (T := T_Mo) (N := 18) hx hb hg in_Mo ty_Mo tyok_Mo nm_Mo hown hK hP hD hS 0 rfl rfl 5 (by decide) (hg _ tw_575) (fun _ h9 => h9) rfl hin rfl (by decide +kernel) rfl rfl (Nat.le_of_ble_eq_true rfl) d_Mo_init_49 (fun H locs hP hD hS => ?_)
  have hP : va_P (dC, dI) vwCl [(mo, .inr (4, [.ref q1, .ref q2, .ref q3, .ref q4, .ref q5, .ref q6, .null, .null, .null, .null, .int ((0 : Int32)), .int ((0 : Int32)), .int ((0 : Int32)), .int ((0 : Int32)), .int ((0 : Int32)), .int ((0 : Int32)), .int ((0 : Int32)), .int ((0 : Int32))])), (q1, .inl (cI, 24, .inl (fun _ => 0))), (q2, .inl (cI, 24, .inl (fun _ => 0))), (q3, .inl (cI, 24, .inl (fun _ => 0))), (q4, .inl (cI, 24, .inl (fun _ => 0))), (q5, .inl (cI, 24, .inl (fun _ => 0))), (q6, .inl (cI, 24, .inl (fun _ => 0)))] H := hP
  have hD : va_D A [(mo, .inr (4, [.ref q1, .ref q2, .ref q3, .ref q4, .ref q5, .ref q6, .null, .null, .null, .null, .int ((0 : Int32)), .int ((0 : Int32)), .int ((0 : Int32)), .int ((0 : Int32)), .int ((0 : Int32)), .int ((0 : Int32)), .int ((0 : Int32)), .int ((0 : Int32))])), (q1, .inl (cI, 24, .inl (fun _ => 0))), (q2, .inl (cI, 24, .inl (fun _ => 0))), (q3, .inl (cI, 24, .inl (fun _ => 0))), (q4, .inl (cI, 24, .inl (fun _ => 0))), (q5, .inl (cI, 24, .inl (fun _ => 0))), (q6, .inl (cI, 24, .inl (fun _ => 0)))] := hD
  refine lv_aload_n hx hb d_Mo_init_52 rfl (lv_at hl 0 rfl) ?_
  refine lv_bipush (v := 24) hx hb d_Mo_init_53 (by decide) ?_
  refine wb_newI hx hb (hg _ tw_54) hK hP hD hS hA 24 rfl (by decide) (Nat.le_of_ble_eq_true rfl) (Nat.le_of_ble_eq_true rfl) d_Mo_init_55 (fun q7 H hP hD hS => ?_)
  have hP : va_P (dC, dI) vwCl [(mo, .inr (4, [.ref q1, .ref q2, .ref q3, .ref q4, .ref q5, .ref q6, .null, .null, .null, .null, .int ((0 : Int32)), .int ((0 : Int32)), .int ((0 : Int32)), .int ((0 : Int32)), .int ((0 : Int32)), .int ((0 : Int32)), .int ((0 : Int32)), .int ((0 : Int32))])), (q1, .inl (cI, 24, .inl (fun _ => 0))), (q2, .inl (cI, 24, .inl (fun _ => 0))), (q3, .inl (cI, 24, .inl (fun _ => 0))), (q4, .inl (cI, 24, .inl (fun _ => 0))), (q5, .inl (cI, 24, .inl (fun _ => 0))), (q6, .inl (cI, 24, .inl (fun _ => 0))), (q7, .inl (cI, 24, .inl (fun _ => 0)))] H := hP
  have hD : va_D A [(mo, .inr (4, [.ref q1, .ref q2, .ref q3, .ref q4, .ref q5, .ref q6, .null, .null, .null, .null, .int ((0 : Int32)), .int ((0 : Int32)), .int ((0 : Int32)), .int ((0 : Int32)), .int ((0 : Int32)), .int ((0 : Int32)), .int ((0 : Int32)), .int ((0 : Int32))])), (q1, .inl (cI, 24, .inl (fun _ => 0))), (q2, .inl (cI, 24, .inl (fun _ => 0))), (q3, .inl (cI, 24, .inl (fun _ => 0))), (q4, .inl (cI, 24, .inl (fun _ => 0))), (q5, .inl (cI, 24, .inl (fun _ => 0))), (q6, .inl (cI, 24, .inl (fun _ => 0))), (q7, .inl (cI, 24, .inl (fun _ => 0)))] := hD
  refine W.widen (k := 7) (n := 168) (Nat.le_of_ble_eq_true rfl) (Nat.le_of_ble_eq_true rfl) ?_
  refine va_putF (D := (dC, dI)) (ci := 4) (v := .ref q7) (ty := .array .int) (C := R_Mo) (T := T_Mo) (N := 18) hx hb hg in_Mo ty_Mo tyok_Mo nm_Mo hown hK hP hD hS 0 rfl rfl 6 (by decide) (hg _ tw_576) (fun _ h9 => h9) rfl hin rfl (by decide +kernel) rfl rfl (Nat.le_of_ble_eq_true rfl) d_Mo_init_57 (fun H locs hP hD hS => ?_)
  have hP : va_P (dC, dI) vwCl [(mo, .inr (4, [.ref q1, .ref q2, .ref q3, .ref q4, .ref q5, .ref q6, .ref q7, .null, .null, .null, .int ((0 : Int32)), .int ((0 : Int32)), .int ((0 : Int32)), .int ((0 : Int32)), .int ((0 : Int32)), .int ((0 : Int32)), .int ((0 : Int32)), .int ((0 : Int32))])), (q1, .inl (cI, 24, .inl (fun _ => 0))), (q2, .inl (cI, 24, .inl (fun _ => 0))), (q3, .inl (cI, 24, .inl (fun _ => 0))), (q4, .inl (cI, 24, .inl (fun _ => 0))), (q5, .inl (cI, 24, .inl (fun _ => 0))), (q6, .inl (cI, 24, .inl (fun _ => 0))), (q7, .inl (cI, 24, .inl (fun _ => 0)))] H := hP
  have hD : va_D A [(mo, .inr (4, [.ref q1, .ref q2, .ref q3, .ref q4, .ref q5, .ref q6, .ref q7, .null, .null, .null, .int ((0 : Int32)), .int ((0 : Int32)), .int ((0 : Int32)), .int ((0 : Int32)), .int ((0 : Int32)), .int ((0 : Int32)), .int ((0 : Int32)), .int ((0 : Int32))])), (q1, .inl (cI, 24, .inl (fun _ => 0))), (q2, .inl (cI, 24, .inl (fun _ => 0))), (q3, .inl (cI, 24, .inl (fun _ => 0))), (q4, .inl (cI, 24, .inl (fun _ => 0))), (q5, .inl (cI, 24, .inl (fun _ => 0))), (q6, .inl (cI, 24, .inl (fun _ => 0))), (q7, .inl (cI, 24, .inl (fun _ => 0)))] := hD
  refine lv_aload_n hx hb d_Mo_init_60 rfl (lv_at hl 0 rfl) ?_
  refine lv_bipush (v := 16) hx hb d_Mo_init_61 (by decide) ?_
  refine wb_newI hx hb (hg _ tw_54) hK hP hD hS hA 16 rfl (by decide) (Nat.le_of_ble_eq_true rfl) (Nat.le_of_ble_eq_true rfl) d_Mo_init_63 (fun q8 H hP hD hS => ?_)
  have hP : va_P (dC, dI) vwCl [(mo, .inr (4, [.ref q1, .ref q2, .ref q3, .ref q4, .ref q5, .ref q6, .ref q7, .null, .null, .null, .int ((0 : Int32)), .int ((0 : Int32)), .int ((0 : Int32)), .int ((0 : Int32)), .int ((0 : Int32)), .int ((0 : Int32)), .int ((0 : Int32)), .int ((0 : Int32))])), (q1, .inl (cI, 24, .inl (fun _ => 0))), (q2, .inl (cI, 24, .inl (fun _ => 0))), (q3, .inl (cI, 24, .inl (fun _ => 0))), (q4, .inl (cI, 24, .inl (fun _ => 0))), (q5, .inl (cI, 24, .inl (fun _ => 0))), (q6, .inl (cI, 24, .inl (fun _ => 0))), (q7, .inl (cI, 24, .inl (fun _ => 0))), (q8, .inl (cI, 16, .inl (fun _ => 0)))] H := hP
  have hD : va_D A [(mo, .inr (4, [.ref q1, .ref q2, .ref q3, .ref q4, .ref q5, .ref q6, .ref q7, .null, .null, .null, .int ((0 : Int32)), .int ((0 : Int32)), .int ((0 : Int32)), .int ((0 : Int32)), .int ((0 : Int32)), .int ((0 : Int32)), .int ((0 : Int32)), .int ((0 : Int32))])), (q1, .inl (cI, 24, .inl (fun _ => 0))), (q2, .inl (cI, 24, .inl (fun _ => 0))), (q3, .inl (cI, 24, .inl (fun _ => 0))), (q4, .inl (cI, 24, .inl (fun _ => 0))), (q5, .inl (cI, 24, .inl (fun _ => 0))), (q6, .inl (cI, 24, .inl (fun _ => 0))), (q7, .inl (cI, 24, .inl (fun _ => 0))), (q8, .inl (cI, 16, .inl (fun _ => 0)))] := hD
  refine W.widen (k := 8) (n := 184) (Nat.le_of_ble_eq_true rfl) (Nat.le_of_ble_eq_true rfl) ?_
  refine va_putF (D := (dC, dI)) (ci := 4) (v := .ref q8) (ty := .array .int) (C := R_Mo) (T := T_Mo) (N := 18) hx hb hg in_Mo ty_Mo tyok_Mo nm_Mo hown hK hP hD hS 0 rfl rfl 7 (by decide) (hg _ tw_577) (fun _ h9 => h9) rfl hin rfl (by decide +kernel) rfl rfl (Nat.le_of_ble_eq_true rfl) d_Mo_init_65 (fun H locs hP hD hS => ?_)
  have hP : va_P (dC, dI) vwCl [(mo, .inr (4, [.ref q1, .ref q2, .ref q3, .ref q4, .ref q5, .ref q6, .ref q7, .ref q8, .null, .null, .int ((0 : Int32)), .int ((0 : Int32)), .int ((0 : Int32)), .int ((0 : Int32)), .int ((0 : Int32)), .int ((0 : Int32)), .int ((0 : Int32)), .int ((0 : Int32))])), (q1, .inl (cI, 24, .inl (fun _ => 0))), (q2, .inl (cI, 24, .inl (fun _ => 0))), (q3, .inl (cI, 24, .inl (fun _ => 0))), (q4, .inl (cI, 24, .inl (fun _ => 0))), (q5, .inl (cI, 24, .inl (fun _ => 0))), (q6, .inl (cI, 24, .inl (fun _ => 0))), (q7, .inl (cI, 24, .inl (fun _ => 0))), (q8, .inl (cI, 16, .inl (fun _ => 0)))] H := hP
  have hD : va_D A [(mo, .inr (4, [.ref q1, .ref q2, .ref q3, .ref q4, .ref q5, .ref q6, .ref q7, .ref q8, .null, .null, .int ((0 : Int32)), .int ((0 : Int32)), .int ((0 : Int32)), .int ((0 : Int32)), .int ((0 : Int32)), .int ((0 : Int32)), .int ((0 : Int32)), .int ((0 : Int32))])), (q1, .inl (cI, 24, .inl (fun _ => 0))), (q2, .inl (cI, 24, .inl (fun _ => 0))), (q3, .inl (cI, 24, .inl (fun _ => 0))), (q4, .inl (cI, 24, .inl (fun _ => 0))), (q5, .inl (cI, 24, .inl (fun _ => 0))), (q6, .inl (cI, 24, .inl (fun _ => 0))), (q7, .inl (cI, 24, .inl (fun _ => 0))), (q8, .inl (cI, 16, .inl (fun _ => 0)))] := hD
  refine lv_aload_n hx hb d_Mo_init_68 rfl (lv_at hl 0 rfl) ?_
  refine lv_bipush (v := 24) hx hb d_Mo_init_69 (by decide) ?_
  refine wb_newI hx hb (hg _ tw_54) hK hP hD hS hA 24 rfl (by decide) (Nat.le_of_ble_eq_true rfl) (Nat.le_of_ble_eq_true rfl) d_Mo_init_71 (fun q9 H hP hD hS => ?_)
  have hP : va_P (dC, dI) vwCl [(mo, .inr (4, [.ref q1, .ref q2, .ref q3, .ref q4, .ref q5, .ref q6, .ref q7, .ref q8, .null, .null, .int ((0 : Int32)), .int ((0 : Int32)), .int ((0 : Int32)), .int ((0 : Int32)), .int ((0 : Int32)), .int ((0 : Int32)), .int ((0 : Int32)), .int ((0 : Int32))])), (q1, .inl (cI, 24, .inl (fun _ => 0))), (q2, .inl (cI, 24, .inl (fun _ => 0))), (q3, .inl (cI, 24, .inl (fun _ => 0))), (q4, .inl (cI, 24, .inl (fun _ => 0))), (q5, .inl (cI, 24, .inl (fun _ => 0))), (q6, .inl (cI, 24, .inl (fun _ => 0))), (q7, .inl (cI, 24, .inl (fun _ => 0))), (q8, .inl (cI, 16, .inl (fun _ => 0))), (q9, .inl (cI, 24, .inl (fun _ => 0)))] H := hP
  have hD : va_D A [(mo, .inr (4, [.ref q1, .ref q2, .ref q3, .ref q4, .ref q5, .ref q6, .ref q7, .ref q8, .null, .null, .int ((0 : Int32)), .int ((0 : Int32)), .int ((0 : Int32)), .int ((0 : Int32)), .int ((0 : Int32)), .int ((0 : Int32)), .int ((0 : Int32)), .int ((0 : Int32))])), (q1, .inl (cI, 24, .inl (fun _ => 0))), (q2, .inl (cI, 24, .inl (fun _ => 0))), (q3, .inl (cI, 24, .inl (fun _ => 0))), (q4, .inl (cI, 24, .inl (fun _ => 0))), (q5, .inl (cI, 24, .inl (fun _ => 0))), (q6, .inl (cI, 24, .inl (fun _ => 0))), (q7, .inl (cI, 24, .inl (fun _ => 0))), (q8, .inl (cI, 16, .inl (fun _ => 0))), (q9, .inl (cI, 24, .inl (fun _ => 0)))] := hD
  refine W.widen (k := 9) (n := 208) (Nat.le_of_ble_eq_true rfl) (Nat.le_of_ble_eq_true rfl) ?_
  refine va_putF (D := (dC, dI)) (ci := 4) (v := .ref q9) (ty := .array .int) (C := R_Mo) (T := T_Mo) (N := 18) hx hb hg in_Mo ty_Mo tyok_Mo nm_Mo hown hK hP hD hS 0 rfl rfl 8 (by decide) (hg _ tw_578) (fun _ h9 => h9) rfl hin rfl (by decide +kernel) rfl rfl (Nat.le_of_ble_eq_true rfl) d_Mo_init_73 (fun H locs hP hD hS => ?_)
  have hP : va_P (dC, dI) vwCl [(mo, .inr (4, [.ref q1, .ref q2, .ref q3, .ref q4, .ref q5, .ref q6, .ref q7, .ref q8, .ref q9, .null, .int ((0 : Int32)), .int ((0 : Int32)), .int ((0 : Int32)), .int ((0 : Int32)), .int ((0 : Int32)), .int ((0 : Int32)), .int ((0 : Int32)), .int ((0 : Int32))])), (q1, .inl (cI, 24, .inl (fun _ => 0))), (q2, .inl (cI, 24, .inl (fun _ => 0))), (q3, .inl (cI, 24, .inl (fun _ => 0))), (q4, .inl (cI, 24, .inl (fun _ => 0))), (q5, .inl (cI, 24, .inl (fun _ => 0))), (q6, .inl (cI, 24, .inl (fun _ => 0))), (q7, .inl (cI, 24, .inl (fun _ => 0))), (q8, .inl (cI, 16, .inl (fun _ => 0))), (q9, .inl (cI, 24, .inl (fun _ => 0)))] H := hP
  have hD : va_D A [(mo, .inr (4, [.ref q1, .ref q2, .ref q3, .ref q4, .ref q5, .ref q6, .ref q7, .ref q8, .ref q9, .null, .int ((0 : Int32)), .int ((0 : Int32)), .int ((0 : Int32)), .int ((0 : Int32)), .int ((0 : Int32)), .int ((0 : Int32)), .int ((0 : Int32)), .int ((0 : Int32))])), (q1, .inl (cI, 24, .inl (fun _ => 0))), (q2, .inl (cI, 24, .inl (fun _ => 0))), (q3, .inl (cI, 24, .inl (fun _ => 0))), (q4, .inl (cI, 24, .inl (fun _ => 0))), (q5, .inl (cI, 24, .inl (fun _ => 0))), (q6, .inl (cI, 24, .inl (fun _ => 0))), (q7, .inl (cI, 24, .inl (fun _ => 0))), (q8, .inl (cI, 16, .inl (fun _ => 0))), (q9, .inl (cI, 24, .inl (fun _ => 0)))] := hD
  refine lv_aload_n hx hb d_Mo_init_76 rfl (lv_at hl 0 rfl) ?_
  refine lv_bipush (v := 24) hx hb d_Mo_init_77 (by decide) ?_
  refine wb_newI hx hb (hg _ tw_54) hK hP hD hS hA 24 rfl (by decide) (Nat.le_of_ble_eq_true rfl) (Nat.le_of_ble_eq_true rfl) d_Mo_init_79 (fun q10 H hP hD hS => ?_)
  have hP : va_P (dC, dI) vwCl [(mo, .inr (4, [.ref q1, .ref q2, .ref q3, .ref q4, .ref q5, .ref q6, .ref q7, .ref q8, .ref q9, .null, .int ((0 : Int32)), .int ((0 : Int32)), .int ((0 : Int32)), .int ((0 : Int32)), .int ((0 : Int32)), .int ((0 : Int32)), .int ((0 : Int32)), .int ((0 : Int32))])), (q1, .inl (cI, 24, .inl (fun _ => 0))), (q2, .inl (cI, 24, .inl (fun _ => 0))), (q3, .inl (cI, 24, .inl (fun _ => 0))), (q4, .inl (cI, 24, .inl (fun _ => 0))), (q5, .inl (cI, 24, .inl (fun _ => 0))), (q6, .inl (cI, 24, .inl (fun _ => 0))), (q7, .inl (cI, 24, .inl (fun _ => 0))), (q8, .inl (cI, 16, .inl (fun _ => 0))), (q9, .inl (cI, 24, .inl (fun _ => 0))), (q10, .inl (cI, 24, .inl (fun _ => 0)))] H := hP
  have hD : va_D A [(mo, .inr (4, [.ref q1, .ref q2, .ref q3, .ref q4, .ref q5, .ref q6, .ref q7, .ref q8, .ref q9, .null, .int ((0 : Int32)), .int ((0 : Int32)), .int ((0 : Int32)), .int ((0 : Int32)), .int ((0 : Int32)), .int ((0 : Int32)), .int ((0 : Int32)), .int ((0 : Int32))])), (q1, .inl (cI, 24, .inl (fun _ => 0))), (q2, .inl (cI, 24, .inl (fun _ => 0))), (q3, .inl (cI, 24, .inl (fun _ => 0))), (q4, .inl (cI, 24, .inl (fun _ => 0))), (q5, .inl (cI, 24, .inl (fun _ => 0))), (q6, .inl (cI, 24, .inl (fun _ => 0))), (q7, .inl (cI, 24, .inl (fun _ => 0))), (q8, .inl (cI, 16, .inl (fun _ => 0))), (q9, .inl (cI, 24, .inl (fun _ => 0))), (q10, .inl (cI, 24, .inl (fun _ => 0)))] := hD
  refine W.widen (k := 10) (n := 232) (Nat.le_of_ble_eq_true rfl) (Nat.le_of_ble_eq_true rfl) ?_
  refine va_putF (D := (dC, dI)) (ci := 4) (v := .ref q10) (ty := .array .int) (C := R_Mo) (T := T_Mo) (N := 18) hx hb hg in_Mo ty_Mo tyok_Mo nm_Mo hown hK hP hD hS 0 rfl rfl 9 (by decide) (hg _ tw_579) (fun _ h9 => h9) rfl hin rfl (by decide +kernel) rfl rfl (Nat.le_of_ble_eq_true rfl) d_Mo_init_81 (fun H locs hP hD hS => ?_)
  have hP : va_P (dC, dI) vwCl [(mo, .inr (4, [.ref q1, .ref q2, .ref q3, .ref q4, .ref q5, .ref q6, .ref q7, .ref q8, .ref q9, .ref q10, .int ((0 : Int32)), .int ((0 : Int32)), .int ((0 : Int32)), .int ((0 : Int32)), .int ((0 : Int32)), .int ((0 : Int32)), .int ((0 : Int32)), .int ((0 : Int32))])), (q1, .inl (cI, 24, .inl (fun _ => 0))), (q2, .inl (cI, 24, .inl (fun _ => 0))), (q3, .inl (cI, 24, .inl (fun _ => 0))), (q4, .inl (cI, 24, .inl (fun _ => 0))), (q5, .inl (cI, 24, .inl (fun _ => 0))), (q6, .inl (cI, 24, .inl (fun _ => 0))), (q7, .inl (cI, 24, .inl (fun _ => 0))), (q8, .inl (cI, 16, .inl (fun _ => 0))), (q9, .inl (cI, 24, .inl (fun _ => 0))), (q10, .inl (cI, 24, .inl (fun _ => 0)))] H := hP
  have hD : va_D A [(mo, .inr (4, [.ref q1, .ref q2, .ref q3, .ref q4, .ref q5, .ref q6, .ref q7, .ref q8, .ref q9, .ref q10, .int ((0 : Int32)), .int ((0 : Int32)), .int ((0 : Int32)), .int ((0 : Int32)), .int ((0 : Int32)), .int ((0 : Int32)), .int ((0 : Int32)), .int ((0 : Int32))])), (q1, .inl (cI, 24, .inl (fun _ => 0))), (q2, .inl (cI, 24, .inl (fun _ => 0))), (q3, .inl (cI, 24, .inl (fun _ => 0))), (q4, .inl (cI, 24, .inl (fun _ => 0))), (q5, .inl (cI, 24, .inl (fun _ => 0))), (q6, .inl (cI, 24, .inl (fun _ => 0))), (q7, .inl (cI, 24, .inl (fun _ => 0))), (q8, .inl (cI, 16, .inl (fun _ => 0))), (q9, .inl (cI, 24, .inl (fun _ => 0))), (q10, .inl (cI, 24, .inl (fun _ => 0)))] := hD
  have hP9 : va_P (dC, dI) vwCl [(mo, .inr (4, [.ref q1, .ref q2, .ref q3, .ref q4, .ref q5, .ref q6, .ref q7, .ref q8, .ref q9, .ref q10, .int ((0 : Int32)), .int ((0 : Int32)), .int ((0 : Int32)), .int ((0 : Int32)), .int ((0 : Int32)), .int ((0 : Int32)), .int ((0 : Int32)), .int ((0 : Int32))])), (q1, .inl (cI, 24, .inl (fun _ => 0))), (q2, .inl (cI, 24, .inl (fun _ => 0))), (q3, .inl (cI, 24, .inl (fun _ => 0))), (q4, .inl (cI, 24, .inl (fun _ => 0))), (q5, .inl (cI, 24, .inl (fun _ => 0))), (q6, .inl (cI, 24, .inl (fun _ => 0))), (q7, .inl (cI, 24, .inl (fun _ => 0))), (q8, .inl (cI, 16, .inl (fun _ => 0))), (q9, .inl (cI, 24, .inl (fun _ => 0))), (q10, .inl (cI, 24, .inl (fun _ => 0)))] _ := hP.sub [0, 1, 2, 3, 4, 5, 6, 7, 8, 9, 10] rfl
  have hD9 : va_D A [(mo, .inr (4, [.ref q1, .ref q2, .ref q3, .ref q4, .ref q5, .ref q6, .ref q7, .ref q8, .ref q9, .ref q10, .int ((0 : Int32)), .int ((0 : Int32)), .int ((0 : Int32)), .int ((0 : Int32)), .int ((0 : Int32)), .int ((0 : Int32)), .int ((0 : Int32)), .int ((0 : Int32))])), (q1, .inl (cI, 24, .inl (fun _ => 0))), (q2, .inl (cI, 24, .inl (fun _ => 0))), (q3, .inl (cI, 24, .inl (fun _ => 0))), (q4, .inl (cI, 24, .inl (fun _ => 0))), (q5, .inl (cI, 24, .inl (fun _ => 0))), (q6, .inl (cI, 24, .inl (fun _ => 0))), (q7, .inl (cI, 24, .inl (fun _ => 0))), (q8, .inl (cI, 16, .inl (fun _ => 0))), (q9, .inl (cI, 24, .inl (fun _ => 0))), (q10, .inl (cI, 24, .inl (fun _ => 0)))] := hD.sub [0, 1, 2, 3, 4, 5, 6, 7, 8, 9, 10] (by decide) rfl
  refine W.widen (k := 10) (n := 232) (Nat.le_of_ble_eq_true rfl) (Nat.le_of_ble_eq_true rfl) ?_
  exact W.vret hx hb hr (fun t ht hW => ⟨⟨(q1, q2, q3, q4, q5, q6, q7, q8, q9, q10), rfl, trivial, by rw [ht]; exact hP9, va_K.moved hW.alike hK, hD9⟩, hS.F ht⟩) hS.2.2 d_Mo_init_84

set_option maxHeartbeats 4000000 in
set_option maxRecDepth 100000 in
theorem c_Mo_thrown (l : Launch) (dC : Nat → ClassId) (dI : Nat → Nat → Nat) (cI : ClassId) (mo : Nat) (a1 : Nat) (a2 : Nat) (a3 : Nat) (a4 : Nat) (a5 : Nat) (a6 : Nat) (a7 : Nat) (a8 : Nat) (a9 : Nat) (a10 : Nat) (ops : Nat → Int32) (lf : Nat → Int32) (rg : Nat → Int32) (dpa : Nat → Int32) (plc : Nat → Int32) (mde : Nat → Int32) (val : Nat → Int32) (cel : Nat → Int32) (sdm : Nat → Int32) (bfr : Nat → Int32) (n : Nat) (evm : Nat) (rgm : Nat) (sm : Nat) (rm : Int32) (tm : Int32) (chm : Nat) (alc : Bool) : Met l y_Mo_thrown ws_Mo_thrown (lvR 0 0 0) (va_Pc [.ref mo] (PB (dC, dI) vwCl [(mo, .inr (4, [.ref a1, .ref a2, .ref a3, .ref a4, .ref a5, .ref a6, .ref a7, .ref a8, .ref a9, .ref a10, .int (nI n), .int (nI evm), .int (nI rgm), .int (nI sm), .int rm, .int tm, .int (nI chm), .int (bI alc)])), (a1, .inl (cI, 24, .inl ops)), (a2, .inl (cI, 24, .inl lf)), (a3, .inl (cI, 24, .inl rg)), (a4, .inl (cI, 24, .inl dpa)), (a5, .inl (cI, 24, .inl plc)), (a6, .inl (cI, 24, .inl mde)), (a7, .inl (cI, 24, .inl val)), (a8, .inl (cI, 16, .inl cel)), (a9, .inl (cI, 24, .inl sdm)), (a10, .inl (cI, 24, .inl bfr))] [(cI, .int)])) (vp_Si (fun r => r = tm)) 0 0 (fun _ => False) := by
  refine Met.ofW (cc := b_Mo_thrown) (maxL := 1) (ret := (some .int)) (by decide) rfl ?_
  intro p e s m args below meth c s₁ B hml hv
  obtain ⟨rfl, hP, hK⟩ := hv
  have hx := B.exec
  have hb := B.bytes
  have hr := B.returns
  have hts := atoms_spec (ws := ws_Mo_thrown) B.pre
  have hg : ∀ w ∈ TG, w.before ([.ref mo] : List Value).toArray s = true := fun w h => hts w (List.mem_cons_of_mem _ h)
  have hown : s.vm.findClass R_Mo = some m.cls := findClass_of_methodNamed B.named
  have hlocks := B.notSynchronized
  have hl := lv_entry ([.ref mo]) (n := 1) (Nat.le_of_ble_eq_true rfl)
  rw [lg_entry_eq]
  generalize (lg_sl ([.ref mo]) ++ List.replicate (1 - (lg_sl ([.ref mo])).length) Slot.unset).toArray = ls at hl ⊢
  have hl : lv_has ls 1 [(0, .ref mo)] := hl
  refine lv_aload_n hx hb d_Mo_thrown_0 rfl (lv_at hl 0 rfl) ?_
  refine va_get (D := (dC, dI)) (ci := 4) (v := .int tm) (C := R_Mo) (T := T_Mo) (N := 18) hx hb hg in_Mo hown hK hP 0 rfl rfl 15 (by decide) (hg _ tw_585) (fun _ h9 => h9) rfl d_Mo_thrown_1 ?_
  exact W.iret (v := tm) hx hb hr (fun t ht hW => ⟨_, rfl, rfl, ht⟩) (fun q h => by cases h) d_Mo_thrown_4

set_option maxHeartbeats 4000000 in
set_option maxRecDepth 100000 in
theorem c_Mo_in (l : Launch) (dC : Nat → ClassId) (dI : Nat → Nat → Nat) (cI : ClassId) (v : Int32) (lo : Int32) (hi : Int32) : Met l y_Mo_in ws_Mo_in (lvR 0 0 0) (va_Pc [.int v, .int lo, .int hi] (PB (dC, dI) vwCl [] [(cI, .int)])) (vp_Si (fun r => r = bI (inB v lo hi))) 0 0 (fun _ => False) := by
  refine Met.ofW (cc := b_Mo_in) (maxL := 3) (ret := (some .boolean)) (by decide) rfl ?_
  intro p e s m args below meth c s₁ B hml hv
  obtain ⟨rfl, hP, hK⟩ := hv
  have hx := B.exec
  have hb := B.bytes
  have hr := B.returns
  have hts := atoms_spec (ws := ws_Mo_in) B.pre
  have hg : ∀ w ∈ TG, w.before ([.int v, .int lo, .int hi] : List Value).toArray s = true := fun w h => hts w (List.mem_cons_of_mem _ h)
  have hown : s.vm.findClass R_Mo = some m.cls := findClass_of_methodNamed B.named
  have hlocks := B.notSynchronized
  have hl := lv_entry ([.int v, .int lo, .int hi]) (n := 3) (Nat.le_of_ble_eq_true rfl)
  rw [lg_entry_eq]
  generalize (lg_sl ([.int v, .int lo, .int hi]) ++ List.replicate (3 - (lg_sl ([.int v, .int lo, .int hi])).length) Slot.unset).toArray = ls at hl ⊢
  have hl : lv_has ls 3 [(0, .int v), (1, .int lo), (2, .int hi)] := hl
  refine lv_iload_n hx hb d_Mo_in_0 rfl (lv_at hl 0 rfl) ?_
  refine lv_iload_n hx hb d_Mo_in_1 rfl (lv_at hl 1 rfl) ?_
  refine lv_icmp_lt (tgt := 14) hx hb d_Mo_in_2 (by decide) (fun c1 => ?_) (fun c1 => ?_)
  · refine lv_iconst (v := 0) hx hb d_Mo_in_14 (by decide) ?_
    exact W.zret (v := (0 : Int32)) (ty := .boolean) hx hb hr rfl (fun t ht hW => ⟨_, rfl, (bI0 (inB_f1 c1)), ht⟩) (fun q h => by cases h) d_Mo_in_15
  · refine lv_iload_n hx hb d_Mo_in_5 rfl (lv_at hl 0 rfl) ?_
    refine lv_iload_n hx hb d_Mo_in_6 rfl (lv_at hl 2 rfl) ?_
    refine lv_icmp_gt (tgt := 14) hx hb d_Mo_in_7 (by decide) (fun c2 => ?_) (fun c2 => ?_)
    · refine lv_iconst (v := 0) hx hb d_Mo_in_14 (by decide) ?_
      exact W.zret (v := (0 : Int32)) (ty := .boolean) hx hb hr rfl (fun t ht hW => ⟨_, rfl, (bI0 (inB_f2 c2)), ht⟩) (fun q h => by cases h) d_Mo_in_15
    · refine lv_iconst (v := 1) hx hb d_Mo_in_10 (by decide) ?_
      refine lv_goto (tgt := 15) hx hb d_Mo_in_11 (by decide) ?_
      exact W.zret (v := (1 : Int32)) (ty := .boolean) hx hb hr rfl (fun t ht hW => ⟨_, rfl, (bI1 (inB_t c1 c2)), ht⟩) (fun q h => by cases h) d_Mo_in_15

set_option maxHeartbeats 4000000 in
set_option maxRecDepth 100000 in
theorem c_Mo_isSum (l : Launch) (dC : Nat → ClassId) (dI : Nat → Nat → Nat) (cI : ClassId) (v : Int32) : Met l y_Mo_isSum ws_Mo_isSum (lvR 1 0 0) (va_Pc [.int v] (PB (dC, dI) vwCl [] [(cI, .int)])) (vp_Si (fun r => r = bI (uR v))) 0 0 (fun _ => False) := by
  refine Met.ofW (cc := b_Mo_isSum) (maxL := 1) (ret := (some .boolean)) (by decide) rfl ?_
  intro p e s m args below meth c s₁ B hml hv
  obtain ⟨rfl, hP, hK⟩ := hv
  have hx := B.exec
  have hb := B.bytes
  have hr := B.returns
  have hts := atoms_spec (ws := ws_Mo_isSum) B.pre
  have hg : ∀ w ∈ TG, w.before ([.int v] : List Value).toArray s = true := fun w h => hts w (List.mem_cons_of_mem _ h)
  have hown : s.vm.findClass R_Mo = some m.cls := findClass_of_methodNamed B.named
  have hlocks := B.notSynchronized
  have hl := lv_entry ([.int v]) (n := 1) (Nat.le_of_ble_eq_true rfl)
  rw [lg_entry_eq]
  generalize (lg_sl ([.int v]) ++ List.replicate (1 - (lg_sl ([.int v])).length) Slot.unset).toArray = ls at hl ⊢
  have hl : lv_has ls 1 [(0, .int v)] := hl
  refine lv_iload_n hx hb d_Mo_isSum_0 rfl (lv_at hl 0 rfl) ?_
  refine lv_iconst (v := 2) hx hb d_Mo_isSum_1 (by decide) ?_
  refine lv_iconst (v := 5) hx hb d_Mo_isSum_2 (by decide) ?_
  refine rdS (As := [.int v, .int ((2 : Int32)), .int ((5 : Int32))]) (rest := []) ⟨hx, hb, hml, hown, hg⟩ (c_Mo_in l dC dI cI v ((2 : Int32)) ((5 : Int32))) (va_cwS 3 hg (tg_S tw_633 tw_634 tw_6 tw_635) rfl rfl rfl (by decide +kernel) ⟨Nat.le_of_ble_eq_true rfl, Nat.le_of_ble_eq_true rfl⟩) (hK.sub [0] rfl) (hP.sub [] rfl) rfl hl.1 rfl (lv_room (Nat.le_of_ble_eq_true rfl)) d_Mo_isSum_3 ⟨Nat.le_of_ble_eq_true rfl, Nat.le_of_ble_eq_true rfl⟩ ?_
  exact W.zret (v := bI (inB v ((2 : Int32)) ((5 : Int32)))) (ty := .boolean) hx hb hr (bI_narrow (inB v ((2 : Int32)) ((5 : Int32)))) (fun t ht hW => ⟨_, rfl, (congrArg bI (inB_uR v)), ht⟩) (fun q h => by cases h) d_Mo_isSum_6

set_option maxHeartbeats 4000000 in
set_option maxRecDepth 100000 in
theorem c_Mo_isValue (l : Launch) (dC : Nat → ClassId) (dI : Nat → Nat → Nat) (cI : ClassId) (mo : Nat) (a1 : Nat) (a2 : Nat) (a3 : Nat) (a4 : Nat) (a5 : Nat) (a6 : Nat) (a7 : Nat) (a8 : Nat) (a9 : Nat) (a10 : Nat) (ops : Nat → Int32) (lf : Nat → Int32) (rg : Nat → Int32) (dpa : Nat → Int32) (plc : Nat → Int32) (mde : Nat → Int32) (val : Nat → Int32) (cel : Nat → Int32) (sdm : Nat → Int32) (bfr : Nat → Int32) (n : Nat) (evm : Nat) (rgm : Nat) (sm : Nat) (rm : Int32) (tm : Int32) (chm : Nat) (alc : Bool) (v : Int32) (hn : n ≤ 24) : Met l y_Mo_isValue ws_Mo_isValue (lvR 1 0 0) (va_Pc [.ref mo, .int v] (PB (dC, dI) vwCl [(mo, .inr (4, [.ref a1, .ref a2, .ref a3, .ref a4, .ref a5, .ref a6, .ref a7, .ref a8, .ref a9, .ref a10, .int (nI n), .int (nI evm), .int (nI rgm), .int (nI sm), .int rm, .int tm, .int (nI chm), .int (bI alc)])), (a1, .inl (cI, 24, .inl ops)), (a2, .inl (cI, 24, .inl lf)), (a3, .inl (cI, 24, .inl rg)), (a4, .inl (cI, 24, .inl dpa)), (a5, .inl (cI, 24, .inl plc)), (a6, .inl (cI, 24, .inl mde)), (a7, .inl (cI, 24, .inl val)), (a8, .inl (cI, 16, .inl cel)), (a9, .inl (cI, 24, .inl sdm)), (a10, .inl (cI, 24, .inl bfr))] [(cI, .int)])) (vp_Si (fun r => r = bI (iv ops n v))) 0 0 (fun _ => False) := by
  refine Met.ofW (cc := b_Mo_isValue) (maxL := 2) (ret := (some .boolean)) (by decide) rfl ?_
  intro p e s m args below meth c s₁ B hml hv
  obtain ⟨rfl, hP, hK⟩ := hv
  have hx := B.exec
  have hb := B.bytes
  have hr := B.returns
  have hts := atoms_spec (ws := ws_Mo_isValue) B.pre
  have hg : ∀ w ∈ TG, w.before ([.ref mo, .int v] : List Value).toArray s = true := fun w h => hts w (List.mem_cons_of_mem _ h)
  have hown : s.vm.findClass R_Mo = some m.cls := findClass_of_methodNamed B.named
  have hlocks := B.notSynchronized
  have hl := lv_entry ([.ref mo, .int v]) (n := 2) (Nat.le_of_ble_eq_true rfl)
  rw [lg_entry_eq]
  generalize (lg_sl ([.ref mo, .int v]) ++ List.replicate (2 - (lg_sl ([.ref mo, .int v])).length) Slot.unset).toArray = ls at hl ⊢
  have hl : lv_has ls 2 [(0, .ref mo), (1, .int v)] := hl
  refine lv_iload_n hx hb d_Mo_isValue_0 rfl (lv_at hl 1 rfl) ?_
  refine lv_iconst (v := 0) hx hb d_Mo_isValue_1 (by decide) ?_
  refine lv_aload_n hx hb d_Mo_isValue_2 rfl (lv_at hl 0 rfl) ?_
  refine va_get (D := (dC, dI)) (ci := 4) (v := .int (nI n)) (C := R_Mo) (T := T_Mo) (N := 18) hx hb hg in_Mo hown hK hP 0 rfl rfl 10 (by decide) (hg _ tw_580) (fun _ h9 => h9) rfl d_Mo_isValue_3 ?_
  refine lv_iconst (v := 1) hx hb d_Mo_isValue_6 (by decide) ?_
  refine lv_isub hx hb d_Mo_isValue_7 ?_
  refine rdS (As := [.int v, .int ((0 : Int32)), .int ((nI n) - ((1 : Int32)))]) (rest := []) ⟨hx, hb, hml, hown, hg⟩ (c_Mo_in l dC dI cI v ((0 : Int32)) ((nI n) - ((1 : Int32)))) (va_cwS 3 hg (tg_S tw_633 tw_634 tw_6 tw_635) rfl rfl rfl (by decide +kernel) ⟨Nat.le_of_ble_eq_true rfl, Nat.le_of_ble_eq_true rfl⟩) (hK.sub [0] rfl) (hP.sub [] rfl) rfl hl.1 rfl (lv_room (Nat.le_of_ble_eq_true rfl)) d_Mo_isValue_8 ⟨Nat.le_of_ble_eq_true rfl, Nat.le_of_ble_eq_true rfl⟩ ?_
  refine wb_if_eqb (tgt := 29) hx hb (inB v ((0 : Int32)) ((nI n) - ((1 : Int32)))) rfl d_Mo_isValue_11 (by decide) (fun c1 => ?_) (fun c1 => ?_)
  · refine lv_iconst (v := 0) hx hb d_Mo_isValue_29 (by decide) ?_
    exact W.zret (v := (0 : Int32)) (ty := .boolean) hx hb hr rfl (fun t ht hW => ⟨_, rfl, (bI0 (in_iv hn c1)), ht⟩) (fun q h => by cases h) d_Mo_isValue_30
  · obtain ⟨j, hj, rfl⟩ := in_ix hn c1
    refine lv_aload_n hx hb d_Mo_isValue_14 rfl (lv_at hl 0 rfl) ?_
    refine va_get (D := (dC, dI)) (ci := 4) (v := .ref a1) (C := R_Mo) (T := T_Mo) (N := 18) hx hb hg in_Mo hown hK hP 0 rfl rfl 0 (by decide) (hg _ tw_570) (fun _ h9 => h9) rfl d_Mo_isValue_15 ?_
    refine lv_iload_n hx hb d_Mo_isValue_18 rfl (lv_at hl 1 rfl) ?_
    refine wb_iald hx hb hK hP 1 0 rfl rfl j rfl (Nat.lt_of_lt_of_le hj hn) (by decide) d_Mo_isValue_19 ?_
    refine lv_bipush (v := 6) hx hb d_Mo_isValue_20 (by decide) ?_
    refine lv_icmp_eq (tgt := 29) hx hb d_Mo_isValue_22 (by decide) (fun c2 => ?_) (fun c2 => ?_)
    · refine lv_iconst (v := 0) hx hb d_Mo_isValue_29 (by decide) ?_
      exact W.zret (v := (0 : Int32)) (ty := .boolean) hx hb hr rfl (fun t ht hW => ⟨_, rfl, (bI0 (iv_f3 hn hj c2)), ht⟩) (fun q h => by cases h) d_Mo_isValue_30
    · refine lv_iconst (v := 1) hx hb d_Mo_isValue_25 (by decide) ?_
      refine lv_goto (tgt := 30) hx hb d_Mo_isValue_26 (by decide) ?_
      exact W.zret (v := (1 : Int32)) (ty := .boolean) hx hb hr rfl (fun t ht hW => ⟨_, rfl, (bI1 (iv_t hn hj c2)), ht⟩) (fun q h => by cases h) d_Mo_isValue_30

set_option maxHeartbeats 4000000 in
set_option maxRecDepth 100000 in
theorem c_Mo_price (l : Launch) (dC : Nat → ClassId) (dI : Nat → Nat → Nat) (cI : ClassId) (d : Int32) : Met l y_Mo_price ws_Mo_price (lvR 0 0 0) (va_Pc [.int d] (PB (dC, dI) vwCl [] [(cI, .int)])) (vp_Si (fun r => r = nI (prI d))) 0 0 (fun _ => False) := by
  refine Met.ofW (cc := b_Mo_price) (maxL := 1) (ret := (some .int)) (by decide) rfl ?_
  intro p e s m args below meth c s₁ B hml hv
  obtain ⟨rfl, hP, hK⟩ := hv
  have hx := B.exec
  have hb := B.bytes
  have hr := B.returns
  have hts := atoms_spec (ws := ws_Mo_price) B.pre
  have hg : ∀ w ∈ TG, w.before ([.int d] : List Value).toArray s = true := fun w h => hts w (List.mem_cons_of_mem _ h)
  have hown : s.vm.findClass R_Mo = some m.cls := findClass_of_methodNamed B.named
  have hlocks := B.notSynchronized
  have hl := lv_entry ([.int d]) (n := 1) (Nat.le_of_ble_eq_true rfl)
  rw [lg_entry_eq]
  generalize (lg_sl ([.int d]) ++ List.replicate (1 - (lg_sl ([.int d])).length) Slot.unset).toArray = ls at hl ⊢
  have hl : lv_has ls 1 [(0, .int d)] := hl
  refine lv_iload_n hx hb d_Mo_price_0 rfl (lv_at hl 0 rfl) ?_
  refine lv_if_ne (tgt := 8) hx hb d_Mo_price_1 (by decide) (fun c1 => ?_) (fun c1 => ?_)
  · refine lv_iload_n hx hb d_Mo_price_8 rfl (lv_at hl 0 rfl) ?_
    refine lv_iconst (v := 1) hx hb d_Mo_price_9 (by decide) ?_
    refine lv_icmp_ne (tgt := 18) hx hb d_Mo_price_10 (by decide) (fun c2 => ?_) (fun c2 => ?_)
    · refine lv_iload_n hx hb d_Mo_price_18 rfl (lv_at hl 0 rfl) ?_
      refine lv_iconst (v := 2) hx hb d_Mo_price_19 (by decide) ?_
      refine lv_icmp_ne (tgt := 28) hx hb d_Mo_price_20 (by decide) (fun c3 => ?_) (fun c3 => ?_)
      · refine lv_sipush (v := 1000) hx hb d_Mo_price_28 (by decide) ?_
        exact W.iret (v := (1000 : Int32)) hx hb hr (fun t ht hW => ⟨_, rfl, (congrArg nI (prI_3 c1 c2 c3)), ht⟩) (fun q h => by cases h) d_Mo_price_31
      · refine lv_bipush (v := 100) hx hb d_Mo_price_23 (by decide) ?_
        refine lv_goto (tgt := 31) hx hb d_Mo_price_25 (by decide) ?_
        exact W.iret (v := (100 : Int32)) hx hb hr (fun t ht hW => ⟨_, rfl, (congrArg nI (prI_2 c3)), ht⟩) (fun q h => by cases h) d_Mo_price_31
    · refine lv_bipush (v := 10) hx hb d_Mo_price_13 (by decide) ?_
      refine lv_goto (tgt := 31) hx hb d_Mo_price_15 (by decide) ?_
      exact W.iret (v := (10 : Int32)) hx hb hr (fun t ht hW => ⟨_, rfl, (congrArg nI (prI_1 c2)), ht⟩) (fun q h => by cases h) d_Mo_price_31
  · refine lv_iconst (v := 1) hx hb d_Mo_price_4 (by decide) ?_
    refine lv_goto (tgt := 31) hx hb d_Mo_price_5 (by decide) ?_
    exact W.iret (v := (1 : Int32)) hx hb hr (fun t ht hW => ⟨_, rfl, (congrArg nI (prI_0 c1)), ht⟩) (fun q h => by cases h) d_Mo_price_31

set_option maxHeartbeats 4000000 in
set_option maxRecDepth 100000 in
theorem c_Mo_uses (l : Launch) (dC : Nat → ClassId) (dI : Nat → Nat → Nat) (cI : ClassId) (mo : Nat) (a1 : Nat) (a2 : Nat) (a3 : Nat) (a4 : Nat) (a5 : Nat) (a6 : Nat) (a7 : Nat) (a8 : Nat) (a9 : Nat) (a10 : Nat) (ops : Nat → Int32) (lf : Nat → Int32) (rg : Nat → Int32) (dpa : Nat → Int32) (plc : Nat → Int32) (mde : Nat → Int32) (val : Nat → Int32) (cel : Nat → Int32) (sdm : Nat → Int32) (bfr : Nat → Int32) (n : Nat) (evm : Nat) (rgm : Nat) (sm : Nat) (rm : Int32) (tm : Int32) (chm : Nat) (alc : Bool) (i : Nat) (v : Nat) (hi : i < 24) : Met l y_Mo_uses ws_Mo_uses (lvR 2 0 0) (va_Pc [.ref mo, .int (nI i), .int (nI v)] (PB (dC, dI) vwCl [(mo, .inr (4, [.ref a1, .ref a2, .ref a3, .ref a4, .ref a5, .ref a6, .ref a7, .ref a8, .ref a9, .ref a10, .int (nI n), .int (nI evm), .int (nI rgm), .int (nI sm), .int rm, .int tm, .int (nI chm), .int (bI alc)])), (a1, .inl (cI, 24, .inl ops)), (a2, .inl (cI, 24, .inl lf)), (a3, .inl (cI, 24, .inl rg)), (a4, .inl (cI, 24, .inl dpa)), (a5, .inl (cI, 24, .inl plc)), (a6, .inl (cI, 24, .inl mde)), (a7, .inl (cI, 24, .inl val)), (a8, .inl (cI, 16, .inl cel)), (a9, .inl (cI, 24, .inl sdm)), (a10, .inl (cI, 24, .inl bfr))] [(cI, .int)])) (vp_Si (fun r => r = nI (us ops lf rg i v))) 0 0 (fun _ => False) := by
  refine Met.ofW (cc := b_Mo_uses) (maxL := 3) (ret := (some .int)) (by decide) rfl ?_
  intro p e s m args below meth c s₁ B hml hv
  obtain ⟨rfl, hP, hK⟩ := hv
  have hx := B.exec
  have hb := B.bytes
  have hr := B.returns
  have hts := atoms_spec (ws := ws_Mo_uses) B.pre
  have hg : ∀ w ∈ TG, w.before ([.ref mo, .int (nI i), .int (nI v)] : List Value).toArray s = true := fun w h => hts w (List.mem_cons_of_mem _ h)
  have hown : s.vm.findClass R_Mo = some m.cls := findClass_of_methodNamed B.named
  have hlocks := B.notSynchronized
  have hl := lv_entry ([.ref mo, .int (nI i), .int (nI v)]) (n := 3) (Nat.le_of_ble_eq_true rfl)
  rw [lg_entry_eq]
  generalize (lg_sl ([.ref mo, .int (nI i), .int (nI v)]) ++ List.replicate (3 - (lg_sl ([.ref mo, .int (nI i), .int (nI v)])).length) Slot.unset).toArray = ls at hl ⊢
  have hl : lv_has ls 3 [(0, .ref mo), (1, .int (nI i)), (2, .int (nI v))] := hl
  refine lv_aload_n hx hb d_Mo_uses_0 rfl (lv_at hl 0 rfl) ?_
  refine va_get (D := (dC, dI)) (ci := 4) (v := .ref a1) (C := R_Mo) (T := T_Mo) (N := 18) hx hb hg in_Mo hown hK hP 0 rfl rfl 0 (by decide) (hg _ tw_570) (fun _ h9 => h9) rfl d_Mo_uses_1 ?_
  refine lv_iload_n hx hb d_Mo_uses_4 rfl (lv_at hl 1 rfl) ?_
  refine wb_iald hx hb hK hP 1 0 rfl rfl i rfl hi (by decide) d_Mo_uses_5 ?_
  refine lv_iconst (v := 2) hx hb d_Mo_uses_6 (by decide) ?_
  refine lv_icmp_ge (tgt := 12) hx hb d_Mo_uses_7 (by decide) (fun c1 => ?_) (fun c1 => ?_)
  · refine lv_aload_n hx hb d_Mo_uses_12 rfl (lv_at hl 0 rfl) ?_
    refine va_get (D := (dC, dI)) (ci := 4) (v := .ref a2) (C := R_Mo) (T := T_Mo) (N := 18) hx hb hg in_Mo hown hK hP 0 rfl rfl 1 (by decide) (hg _ tw_571) (fun _ h9 => h9) rfl d_Mo_uses_13 ?_
    refine lv_iload_n hx hb d_Mo_uses_16 rfl (lv_at hl 1 rfl) ?_
    refine wb_iald hx hb hK hP 2 0 rfl rfl i rfl hi (by decide) d_Mo_uses_17 ?_
    refine lv_iload_n hx hb d_Mo_uses_18 rfl (lv_at hl 2 rfl) ?_
    refine lv_icmp_ne (tgt := 26) hx hb d_Mo_uses_19 (by decide) (fun c2 => ?_) (fun c2 => ?_)
    · refine lv_iconst (v := 0) hx hb d_Mo_uses_26 (by decide) ?_
      refine lv_aload_n hx hb d_Mo_uses_27 rfl (lv_at hl 0 rfl) ?_
      refine va_get (D := (dC, dI)) (ci := 4) (v := .ref a1) (C := R_Mo) (T := T_Mo) (N := 18) hx hb hg in_Mo hown hK hP 0 rfl rfl 0 (by decide) (hg _ tw_570) (fun _ h9 => h9) rfl d_Mo_uses_28 ?_
      refine lv_iload_n hx hb d_Mo_uses_31 rfl (lv_at hl 1 rfl) ?_
      refine wb_iald hx hb hK hP 1 0 rfl rfl i rfl hi (by decide) d_Mo_uses_32 ?_
      refine rdS (As := [.int (ops i)]) (rest := [.int ((0 : Int32))]) ⟨hx, hb, hml, hown, hg⟩ (c_Mo_isSum l dC dI cI (ops i)) (va_cwS 1 hg (tg_S tw_640 tw_641 tw_6 tw_642) rfl rfl rfl (by decide +kernel) ⟨Nat.le_of_ble_eq_true rfl, Nat.le_of_ble_eq_true rfl⟩) (hK.sub [0] rfl) (hP.sub [] rfl) rfl hl.1 rfl (lv_room (Nat.le_of_ble_eq_true rfl)) d_Mo_uses_33 ⟨Nat.le_of_ble_eq_true rfl, Nat.le_of_ble_eq_true rfl⟩ ?_
      refine wb_if_eqb (tgt := 53) hx hb (uR (ops i)) rfl d_Mo_uses_36 (by decide) (fun c3 => ?_) (fun c3 => ?_)
      · refine lv_iconst (v := 0) hx hb d_Mo_uses_53 (by decide) ?_
        refine wb_iadd hx hb 0 0 rfl rfl d_Mo_uses_54 ?_
        exact W.iret (v := nI (0 + 0)) hx hb hr (fun t ht hW => ⟨_, rfl, (congrArg nI (us_1 c1 (if_neg c2).symm (if_neg (fun q => by rw [c3] at q; cases q.1)).symm)), ht⟩) (fun q h => by cases h) d_Mo_uses_55
      · refine lv_aload_n hx hb d_Mo_uses_39 rfl (lv_at hl 0 rfl) ?_
        refine va_get (D := (dC, dI)) (ci := 4) (v := .ref a3) (C := R_Mo) (T := T_Mo) (N := 18) hx hb hg in_Mo hown hK hP 0 rfl rfl 2 (by decide) (hg _ tw_572) (fun _ h9 => h9) rfl d_Mo_uses_40 ?_
        refine lv_iload_n hx hb d_Mo_uses_43 rfl (lv_at hl 1 rfl) ?_
        refine wb_iald hx hb hK hP 3 0 rfl rfl i rfl hi (by decide) d_Mo_uses_44 ?_
        refine lv_iload_n hx hb d_Mo_uses_45 rfl (lv_at hl 2 rfl) ?_
        refine lv_icmp_ne (tgt := 53) hx hb d_Mo_uses_46 (by decide) (fun c4 => ?_) (fun c4 => ?_)
        · refine lv_iconst (v := 0) hx hb d_Mo_uses_53 (by decide) ?_
          refine wb_iadd hx hb 0 0 rfl rfl d_Mo_uses_54 ?_
          exact W.iret (v := nI (0 + 0)) hx hb hr (fun t ht hW => ⟨_, rfl, (congrArg nI (us_1 c1 (if_neg c2).symm (if_neg (fun q => c4 q.2)).symm)), ht⟩) (fun q h => by cases h) d_Mo_uses_55
        · refine lv_iconst (v := 1) hx hb d_Mo_uses_49 (by decide) ?_
          refine lv_goto (tgt := 54) hx hb d_Mo_uses_50 (by decide) ?_
          refine wb_iadd hx hb 0 1 rfl rfl d_Mo_uses_54 ?_
          exact W.iret (v := nI (0 + 1)) hx hb hr (fun t ht hW => ⟨_, rfl, (congrArg nI (us_1 c1 (if_neg c2).symm (if_pos ⟨c3, c4⟩).symm)), ht⟩) (fun q h => by cases h) d_Mo_uses_55
    · refine lv_iconst (v := 1) hx hb d_Mo_uses_22 (by decide) ?_
      refine lv_goto (tgt := 27) hx hb d_Mo_uses_23 (by decide) ?_
      refine lv_aload_n hx hb d_Mo_uses_27 rfl (lv_at hl 0 rfl) ?_
      refine va_get (D := (dC, dI)) (ci := 4) (v := .ref a1) (C := R_Mo) (T := T_Mo) (N := 18) hx hb hg in_Mo hown hK hP 0 rfl rfl 0 (by decide) (hg _ tw_570) (fun _ h9 => h9) rfl d_Mo_uses_28 ?_
      refine lv_iload_n hx hb d_Mo_uses_31 rfl (lv_at hl 1 rfl) ?_
      refine wb_iald hx hb hK hP 1 0 rfl rfl i rfl hi (by decide) d_Mo_uses_32 ?_
      refine rdS (As := [.int (ops i)]) (rest := [.int ((1 : Int32))]) ⟨hx, hb, hml, hown, hg⟩ (c_Mo_isSum l dC dI cI (ops i)) (va_cwS 1 hg (tg_S tw_640 tw_641 tw_6 tw_642) rfl rfl rfl (by decide +kernel) ⟨Nat.le_of_ble_eq_true rfl, Nat.le_of_ble_eq_true rfl⟩) (hK.sub [0] rfl) (hP.sub [] rfl) rfl hl.1 rfl (lv_room (Nat.le_of_ble_eq_true rfl)) d_Mo_uses_33 ⟨Nat.le_of_ble_eq_true rfl, Nat.le_of_ble_eq_true rfl⟩ ?_
      refine wb_if_eqb (tgt := 53) hx hb (uR (ops i)) rfl d_Mo_uses_36 (by decide) (fun c5 => ?_) (fun c5 => ?_)
      · refine lv_iconst (v := 0) hx hb d_Mo_uses_53 (by decide) ?_
        refine wb_iadd hx hb 1 0 rfl rfl d_Mo_uses_54 ?_
        exact W.iret (v := nI (1 + 0)) hx hb hr (fun t ht hW => ⟨_, rfl, (congrArg nI (us_1 c1 (if_pos c2).symm (if_neg (fun q => by rw [c5] at q; cases q.1)).symm)), ht⟩) (fun q h => by cases h) d_Mo_uses_55
      · refine lv_aload_n hx hb d_Mo_uses_39 rfl (lv_at hl 0 rfl) ?_
        refine va_get (D := (dC, dI)) (ci := 4) (v := .ref a3) (C := R_Mo) (T := T_Mo) (N := 18) hx hb hg in_Mo hown hK hP 0 rfl rfl 2 (by decide) (hg _ tw_572) (fun _ h9 => h9) rfl d_Mo_uses_40 ?_
        refine lv_iload_n hx hb d_Mo_uses_43 rfl (lv_at hl 1 rfl) ?_
        refine wb_iald hx hb hK hP 3 0 rfl rfl i rfl hi (by decide) d_Mo_uses_44 ?_
        refine lv_iload_n hx hb d_Mo_uses_45 rfl (lv_at hl 2 rfl) ?_
        refine lv_icmp_ne (tgt := 53) hx hb d_Mo_uses_46 (by decide) (fun c6 => ?_) (fun c6 => ?_)
        · refine lv_iconst (v := 0) hx hb d_Mo_uses_53 (by decide) ?_
          refine wb_iadd hx hb 1 0 rfl rfl d_Mo_uses_54 ?_
          exact W.iret (v := nI (1 + 0)) hx hb hr (fun t ht hW => ⟨_, rfl, (congrArg nI (us_1 c1 (if_pos c2).symm (if_neg (fun q => c6 q.2)).symm)), ht⟩) (fun q h => by cases h) d_Mo_uses_55
        · refine lv_iconst (v := 1) hx hb d_Mo_uses_49 (by decide) ?_
          refine lv_goto (tgt := 54) hx hb d_Mo_uses_50 (by decide) ?_
          refine wb_iadd hx hb 1 1 rfl rfl d_Mo_uses_54 ?_
          exact W.iret (v := nI (1 + 1)) hx hb hr (fun t ht hW => ⟨_, rfl, (congrArg nI (us_1 c1 (if_pos c2).symm (if_pos ⟨c5, c6⟩).symm)), ht⟩) (fun q h => by cases h) d_Mo_uses_55
  · refine lv_iconst (v := 0) hx hb d_Mo_uses_10 (by decide) ?_
    exact W.iret (v := (0 : Int32)) hx hb hr (fun t ht hW => ⟨_, rfl, (congrArg nI (us_0 c1)), ht⟩) (fun q h => by cases h) d_Mo_uses_11

set_option maxHeartbeats 4000000 in
set_option maxRecDepth 100000 in
theorem c_Mo_end (l : Launch) (dC : Nat → ClassId) (dI : Nat → Nat → Nat) (cI : ClassId) (mo : Nat) (a1 : Nat) (a2 : Nat) (a3 : Nat) (a4 : Nat) (a5 : Nat) (a6 : Nat) (a7 : Nat) (a8 : Nat) (a9 : Nat) (a10 : Nat) (ops : Nat → Int32) (lf : Nat → Int32) (rg : Nat → Int32) (dpa : Nat → Int32) (plc : Nat → Int32) (mde : Nat → Int32) (val : Nat → Int32) (cel : Nat → Int32) (sdm : Nat → Int32) (bfr : Nat → Int32) (n : Nat) (evm : Nat) (rgm : Nat) (sm : Nat) (rm : Int32) (tm : Int32) (chm : Nat) (alc : Bool) (E : Nat → Nat) (v : Nat) (hn : n ≤ 24) (hEn : ∀ j, j < n → enI ops lf rg j n = E j) (hv : v < n) : Met l y_Mo_end ws_Mo_end (lvR 3 0 0) (va_Pc [.ref mo, .int (nI v)] (PB (dC, dI) vwCl [(mo, .inr (4, [.ref a1, .ref a2, .ref a3, .ref a4, .ref a5, .ref a6, .ref a7, .ref a8, .ref a9, .ref a10, .int (nI n), .int (nI evm), .int (nI rgm), .int (nI sm), .int rm, .int tm, .int (nI chm), .int (bI alc)])), (a1, .inl (cI, 24, .inl ops)), (a2, .inl (cI, 24, .inl lf)), (a3, .inl (cI, 24, .inl rg)), (a4, .inl (cI, 24, .inl dpa)), (a5, .inl (cI, 24, .inl plc)), (a6, .inl (cI, 24, .inl mde)), (a7, .inl (cI, 24, .inl val)), (a8, .inl (cI, 16, .inl cel)), (a9, .inl (cI, 24, .inl sdm)), (a10, .inl (cI, 24, .inl bfr))] [(cI, .int)])) (vp_Si (fun r => r = nI (E v))) 0 0 (fun _ => False) := by
  refine Met.ofW (cc := b_Mo_end) (maxL := 4) (ret := (some .int)) (by decide) rfl ?_
  intro p e s m args below meth c s₁ B hml hv
  obtain ⟨rfl, hP, hK⟩ := hv
  have hx := B.exec
  have hb := B.bytes
  have hr := B.returns
  have hts := atoms_spec (ws := ws_Mo_end) B.pre
  have hg : ∀ w ∈ TG, w.before ([.ref mo, .int (nI v)] : List Value).toArray s = true := fun w h => hts w (List.mem_cons_of_mem _ h)
  have hown : s.vm.findClass R_Mo = some m.cls := findClass_of_methodNamed B.named
  have hlocks := B.notSynchronized
  have hl := lv_entry ([.ref mo, .int (nI v)]) (n := 4) (Nat.le_of_ble_eq_true rfl)
  rw [lg_entry_eq]
  generalize (lg_sl ([.ref mo, .int (nI v)]) ++ List.replicate (4 - (lg_sl ([.ref mo, .int (nI v)])).length) Slot.unset).toArray = ls at hl ⊢
  have hl : lv_has ls 4 [(0, .ref mo), (1, .int (nI v))] := hl
  refine lv_iload_n hx hb d_Mo_end_0 rfl (lv_at hl 1 rfl) ?_
  refine lv_iconst (v := 1) hx hb d_Mo_end_1 (by decide) ?_
  refine wb_iadd hx hb v 1 rfl rfl d_Mo_end_2 ?_
  refine lv_istore_n (lv' := [(2, .int (nI (v + 1))), (0, .ref mo), (1, .int (nI v))]) hx hb d_Mo_end_3 rfl hl (by decide) rfl (fun ls hl => ?_)
  refine lv_iload_n hx hb d_Mo_end_4 rfl (lv_at hl 2 rfl) ?_
  refine lv_iconst (v := 1) hx hb d_Mo_end_5 (by decide) ?_
  refine wb_iadd hx hb v 1 rfl rfl d_Mo_end_6 ?_
  refine lv_istore_n (lv' := [(3, .int (nI (v + 1))), (2, .int (nI (v + 1))), (0, .ref mo), (1, .int (nI v))]) hx hb d_Mo_end_7 rfl hl (by decide) rfl (fun ls hl => ?_)
  refine wb_loopP (σ := Nat × Nat) 8 (fun x1 ls => lv_has ls 4 [(3, .int (nI x1.2)), (2, .int (nI x1.1)), (0, .ref mo), (1, .int (nI v))] ∧ (v < x1.2) ∧ (x1.2 ≤ n) ∧ (x1.1 = enI ops lf rg v x1.2)) (fun x1 => 25 - x1.2) ?_ (v + 1, v + 1) ls ⟨lv_sub hl [0, 1, 2, 3] rfl, (Nat.lt_succ_self _), hv, (enI_0 _ (Nat.le_refl _))⟩
  clear hl
  intro x1 ls hI3 ih2
  obtain ⟨e9, i⟩ := x1
  obtain ⟨hl, hiv, hi, he⟩ := hI3
  have hl : lv_has ls 4 [(3, .int (nI i)), (2, .int (nI e9)), (0, .ref mo), (1, .int (nI v))] := hl
  have hiv : v < i := hiv
  have hi : i ≤ n := hi
  have he : e9 = enI ops lf rg v i := he
  refine lv_iload_n hx hb d_Mo_end_8 rfl (lv_at hl 0 rfl) ?_
  refine lv_aload_n hx hb d_Mo_end_9 rfl (lv_at hl 2 rfl) ?_
  refine va_get (D := (dC, dI)) (ci := 4) (v := .int (nI n)) (C := R_Mo) (T := T_Mo) (N := 18) hx hb hg in_Mo hown hK hP 0 rfl rfl 10 (by decide) (hg _ tw_580) (fun _ h9 => h9) rfl d_Mo_end_10 ?_
  refine wb_icmp_ge (tgt := 33) hx hb i n rfl rfl (by omega) (by omega) d_Mo_end_13 (by decide) (fun c4 => ?_) (fun c4 => ?_)
  · refine lv_iload_n hx hb d_Mo_end_33 rfl (lv_at hl 1 rfl) ?_
    exact W.iret (v := nI e9) hx hb hr (fun t ht hW => ⟨_, rfl, (congrArg nI ((he.trans (congrArg (enI ops lf rg v) (Nat.le_antisymm hi c4))).trans (hEn v hv))), ht⟩) (fun q h => by cases h) d_Mo_end_34
  · refine lv_aload_n hx hb d_Mo_end_16 rfl (lv_at hl 2 rfl) ?_
    refine lv_iload_n hx hb d_Mo_end_17 rfl (lv_at hl 0 rfl) ?_
    refine lv_iload_n hx hb d_Mo_end_18 rfl (lv_at hl 3 rfl) ?_
    refine rdV (ci := 4) (q0 := 0) (As := [.int (nI i), .int (nI v)]) (rest := []) ⟨hx, hb, hml, hown, hg⟩ (c_Mo_uses l dC dI cI mo a1 a2 a3 a4 a5 a6 a7 a8 a9 a10 ops lf rg dpa plc mde val cel sdm bfr n evm rgm sm rm tm chm alc i v (Nat.lt_of_lt_of_le c4 hn)) (cwV 2 hg (tg_V tw_663 tw_665 sp_Mo_uses tw_6 tw_666) rfl rfl rfl (by decide +kernel) ⟨Nat.le_of_ble_eq_true rfl, Nat.le_of_ble_eq_true rfl⟩) (hK.sub [0] rfl) (hP.sub [0, 1, 2, 3, 4, 5, 6, 7, 8, 9, 10] rfl) rfl rfl rfl hl.1 rfl (lv_room (Nat.le_of_ble_eq_true rfl)) d_Mo_end_19 ⟨Nat.le_of_ble_eq_true rfl, Nat.le_of_ble_eq_true rfl⟩ ?_
    refine lv_if_le (tgt := 27) hx hb d_Mo_end_22 (by decide) (fun c5 => ?_) (fun c5 => ?_)
    · refine lv_iinc (v := (nI (i + 1))) (lv' := [(3, .int (nI (i + 1))), (2, .int (nI e9)), (0, .ref mo), (1, .int (nI v))]) hx hb d_Mo_end_27 hl (k := 0) rfl (nI_add _ 1) (by decide) rfl (fun ls hl => ?_)
      refine lv_goto (tgt := 8) hx hb d_Mo_end_30 (by decide) ?_
      exact ih2 (e9, i + 1) ls ⟨lv_sub hl [0, 1, 2, 3] rfl, (Nat.lt_succ_of_lt hiv), c4, (enI_n he (us_z c5))⟩ (by show 25 - (i + 1) < 25 - i; have := c4; omega)
    · refine lv_iload_n hx hb d_Mo_end_25 rfl (lv_at hl 0 rfl) ?_
      refine lv_istore_n (lv' := [(2, .int (nI i)), (3, .int (nI i)), (0, .ref mo), (1, .int (nI v))]) hx hb d_Mo_end_26 rfl hl (by decide) rfl (fun ls hl => ?_)
      refine lv_iinc (v := (nI (i + 1))) (lv' := [(3, .int (nI (i + 1))), (2, .int (nI i)), (0, .ref mo), (1, .int (nI v))]) hx hb d_Mo_end_27 hl (k := 1) rfl (nI_add _ 1) (by decide) rfl (fun ls hl => ?_)
      refine lv_goto (tgt := 8) hx hb d_Mo_end_30 (by decide) ?_
      exact ih2 (i, i + 1) ls ⟨lv_sub hl [0, 1, 2, 3] rfl, (Nat.lt_succ_of_lt hiv), c4, (enI_y hiv (us_p c5))⟩ (by show 25 - (i + 1) < 25 - i; have := c4; omega)

set_option maxHeartbeats 4000000 in
set_option maxRecDepth 100000 in
theorem c_Mo_meet (l : Launch) (dC : Nat → ClassId) (dI : Nat → Nat → Nat) (cI : ClassId) (mo : Nat) (a1 : Nat) (a2 : Nat) (a3 : Nat) (a4 : Nat) (a5 : Nat) (a6 : Nat) (a7 : Nat) (a8 : Nat) (a9 : Nat) (a10 : Nat) (ops : Nat → Int32) (lf : Nat → Int32) (rg : Nat → Int32) (dpa : Nat → Int32) (plc : Nat → Int32) (mde : Nat → Int32) (val : Nat → Int32) (cel : Nat → Int32) (sdm : Nat → Int32) (bfr : Nat → Int32) (n : Nat) (evm : Nat) (rgm : Nat) (sm : Nat) (rm : Int32) (tm : Int32) (chm : Nat) (alc : Bool) (E : Nat → Nat) (i : Nat) (j : Nat) (hn : n ≤ 24) (hEn : ∀ j, j < n → enI ops lf rg j n = E j) (hE24 : ∀ j, E j ≤ 24) (hi : i < n) (hj : j < n) : Met l y_Mo_meet ws_Mo_meet (lvR 4 0 0) (va_Pc [.ref mo, .int (nI i), .int (nI j)] (PB (dC, dI) vwCl [(mo, .inr (4, [.ref a1, .ref a2, .ref a3, .ref a4, .ref a5, .ref a6, .ref a7, .ref a8, .ref a9, .ref a10, .int (nI n), .int (nI evm), .int (nI rgm), .int (nI sm), .int rm, .int tm, .int (nI chm), .int (bI alc)])), (a1, .inl (cI, 24, .inl ops)), (a2, .inl (cI, 24, .inl lf)), (a3, .inl (cI, 24, .inl rg)), (a4, .inl (cI, 24, .inl dpa)), (a5, .inl (cI, 24, .inl plc)), (a6, .inl (cI, 24, .inl mde)), (a7, .inl (cI, 24, .inl val)), (a8, .inl (cI, 16, .inl cel)), (a9, .inl (cI, 24, .inl sdm)), (a10, .inl (cI, 24, .inl bfr))] [(cI, .int)])) (vp_Si (fun r => r = bI (mt E i j))) 0 0 (fun _ => False) := by
  refine Met.ofW (cc := b_Mo_meet) (maxL := 3) (ret := (some .boolean)) (by decide) rfl ?_
  intro p e s m args below meth c s₁ B hml hv
  obtain ⟨rfl, hP, hK⟩ := hv
  have hx := B.exec
  have hb := B.bytes
  have hr := B.returns
  have hts := atoms_spec (ws := ws_Mo_meet) B.pre
  have hg : ∀ w ∈ TG, w.before ([.ref mo, .int (nI i), .int (nI j)] : List Value).toArray s = true := fun w h => hts w (List.mem_cons_of_mem _ h)
  have hown : s.vm.findClass R_Mo = some m.cls := findClass_of_methodNamed B.named
  have hlocks := B.notSynchronized
  have hl := lv_entry ([.ref mo, .int (nI i), .int (nI j)]) (n := 3) (Nat.le_of_ble_eq_true rfl)
  rw [lg_entry_eq]
  generalize (lg_sl ([.ref mo, .int (nI i), .int (nI j)]) ++ List.replicate (3 - (lg_sl ([.ref mo, .int (nI i), .int (nI j)])).length) Slot.unset).toArray = ls at hl ⊢
  have hl : lv_has ls 3 [(0, .ref mo), (1, .int (nI i)), (2, .int (nI j))] := hl
  refine lv_iload_n hx hb d_Mo_meet_0 rfl (lv_at hl 1 rfl) ?_
  refine lv_aload_n hx hb d_Mo_meet_1 rfl (lv_at hl 0 rfl) ?_
  refine lv_iload_n hx hb d_Mo_meet_2 rfl (lv_at hl 2 rfl) ?_
  refine rdV (ci := 4) (q0 := 0) (As := [.int (nI j)]) (rest := [.int (nI i)]) ⟨hx, hb, hml, hown, hg⟩ (c_Mo_end l dC dI cI mo a1 a2 a3 a4 a5 a6 a7 a8 a9 a10 ops lf rg dpa plc mde val cel sdm bfr n evm rgm sm rm tm chm alc E j hn hEn hj) (cwV 1 hg (tg_V tw_659 tw_661 sp_Mo_end tw_6 tw_662) rfl rfl rfl (by decide +kernel) ⟨Nat.le_of_ble_eq_true rfl, Nat.le_of_ble_eq_true rfl⟩) (hK.sub [0] rfl) (hP.sub [0, 1, 2, 3, 4, 5, 6, 7, 8, 9, 10] rfl) rfl rfl rfl hl.1 rfl (lv_room (Nat.le_of_ble_eq_true rfl)) d_Mo_meet_3 ⟨Nat.le_of_ble_eq_true rfl, Nat.le_of_ble_eq_true rfl⟩ ?_
  refine wb_icmp_ge (tgt := 22) hx hb i (E j) rfl rfl (by have h1 := hE24 i; have h2 := hE24 j; omega) (by have h1 := hE24 i; have h2 := hE24 j; omega) d_Mo_meet_6 (by decide) (fun c1 => ?_) (fun c1 => ?_)
  · refine lv_iconst (v := 0) hx hb d_Mo_meet_22 (by decide) ?_
    exact W.zret (v := (0 : Int32)) (ty := .boolean) hx hb hr rfl (fun t ht hW => ⟨_, rfl, (bI0 (mt_f1 c1)), ht⟩) (fun q h => by cases h) d_Mo_meet_23
  · refine lv_iload_n hx hb d_Mo_meet_9 rfl (lv_at hl 2 rfl) ?_
    refine lv_aload_n hx hb d_Mo_meet_10 rfl (lv_at hl 0 rfl) ?_
    refine lv_iload_n hx hb d_Mo_meet_11 rfl (lv_at hl 1 rfl) ?_
    refine rdV (ci := 4) (q0 := 0) (As := [.int (nI i)]) (rest := [.int (nI j)]) ⟨hx, hb, hml, hown, hg⟩ (c_Mo_end l dC dI cI mo a1 a2 a3 a4 a5 a6 a7 a8 a9 a10 ops lf rg dpa plc mde val cel sdm bfr n evm rgm sm rm tm chm alc E i hn hEn hi) (cwV 1 hg (tg_V tw_659 tw_661 sp_Mo_end tw_6 tw_662) rfl rfl rfl (by decide +kernel) ⟨Nat.le_of_ble_eq_true rfl, Nat.le_of_ble_eq_true rfl⟩) (hK.sub [0] rfl) (hP.sub [0, 1, 2, 3, 4, 5, 6, 7, 8, 9, 10] rfl) rfl rfl rfl hl.1 rfl (lv_room (Nat.le_of_ble_eq_true rfl)) d_Mo_meet_12 ⟨Nat.le_of_ble_eq_true rfl, Nat.le_of_ble_eq_true rfl⟩ ?_
    refine wb_icmp_ge (tgt := 22) hx hb j (E i) rfl rfl (by have h1 := hE24 i; have h2 := hE24 j; omega) (by have h1 := hE24 i; have h2 := hE24 j; omega) d_Mo_meet_15 (by decide) (fun c2 => ?_) (fun c2 => ?_)
    · refine lv_iconst (v := 0) hx hb d_Mo_meet_22 (by decide) ?_
      exact W.zret (v := (0 : Int32)) (ty := .boolean) hx hb hr rfl (fun t ht hW => ⟨_, rfl, (bI0 (mt_f2 c2)), ht⟩) (fun q h => by cases h) d_Mo_meet_23
    · refine lv_iconst (v := 1) hx hb d_Mo_meet_18 (by decide) ?_
      refine lv_goto (tgt := 23) hx hb d_Mo_meet_19 (by decide) ?_
      exact W.zret (v := (1 : Int32)) (ty := .boolean) hx hb hr rfl (fun t ht hW => ⟨_, rfl, (bI1 (mt_t c1 c2)), ht⟩) (fun q h => by cases h) d_Mo_meet_23

set_option maxHeartbeats 4000000 in
set_option maxRecDepth 100000 in
theorem c_Mo_isCrossed (l : Launch) (dC : Nat → ClassId) (dI : Nat → Nat → Nat) (cI : ClassId) (mo : Nat) (a1 : Nat) (a2 : Nat) (a3 : Nat) (a4 : Nat) (a5 : Nat) (a6 : Nat) (a7 : Nat) (a8 : Nat) (a9 : Nat) (a10 : Nat) (ops : Nat → Int32) (lf : Nat → Int32) (rg : Nat → Int32) (dpa : Nat → Int32) (plc : Nat → Int32) (mde : Nat → Int32) (val : Nat → Int32) (cel : Nat → Int32) (sdm : Nat → Int32) (bfr : Nat → Int32) (n : Nat) (evm : Nat) (rgm : Nat) (sm : Nat) (rm : Int32) (tm : Int32) (chm : Nat) (alc : Bool) (E : Nat → Nat) (v : Nat) (hn : n ≤ 24) (hEn : ∀ j, j < n → enI ops lf rg j n = E j) (hE24 : ∀ j, E j ≤ 24) (hv : v < n) : Met l y_Mo_isCrossed ws_Mo_isCrossed (lvR 4 0 0) (va_Pc [.ref mo, .int (nI v)] (PB (dC, dI) vwCl [(mo, .inr (4, [.ref a1, .ref a2, .ref a3, .ref a4, .ref a5, .ref a6, .ref a7, .ref a8, .ref a9, .ref a10, .int (nI n), .int (nI evm), .int (nI rgm), .int (nI sm), .int rm, .int tm, .int (nI chm), .int (bI alc)])), (a1, .inl (cI, 24, .inl ops)), (a2, .inl (cI, 24, .inl lf)), (a3, .inl (cI, 24, .inl rg)), (a4, .inl (cI, 24, .inl dpa)), (a5, .inl (cI, 24, .inl plc)), (a6, .inl (cI, 24, .inl mde)), (a7, .inl (cI, 24, .inl val)), (a8, .inl (cI, 16, .inl cel)), (a9, .inl (cI, 24, .inl sdm)), (a10, .inl (cI, 24, .inl bfr))] [(cI, .int)])) (vp_Si (fun r => r = bI (cr ops E n v))) 0 0 (fun _ => False) := by
  refine Met.ofW (cc := b_Mo_isCrossed) (maxL := 4) (ret := (some .boolean)) (by decide) rfl ?_
  intro p e s m args below meth c s₁ B hml hv
  obtain ⟨rfl, hP, hK⟩ := hv
  have hx := B.exec
  have hb := B.bytes
  have hr := B.returns
  have hts := atoms_spec (ws := ws_Mo_isCrossed) B.pre
  have hg : ∀ w ∈ TG, w.before ([.ref mo, .int (nI v)] : List Value).toArray s = true := fun w h => hts w (List.mem_cons_of_mem _ h)
  have hown : s.vm.findClass R_Mo = some m.cls := findClass_of_methodNamed B.named
  have hlocks := B.notSynchronized
  have hl := lv_entry ([.ref mo, .int (nI v)]) (n := 4) (Nat.le_of_ble_eq_true rfl)
  rw [lg_entry_eq]
  generalize (lg_sl ([.ref mo, .int (nI v)]) ++ List.replicate (4 - (lg_sl ([.ref mo, .int (nI v)])).length) Slot.unset).toArray = ls at hl ⊢
  have hl : lv_has ls 4 [(0, .ref mo), (1, .int (nI v))] := hl
  refine lv_aload_n hx hb d_Mo_isCrossed_0 rfl (lv_at hl 0 rfl) ?_
  refine lv_iload_n hx hb d_Mo_isCrossed_1 rfl (lv_at hl 1 rfl) ?_
  refine rdV (ci := 4) (q0 := 0) (As := [.int (nI v)]) (rest := []) ⟨hx, hb, hml, hown, hg⟩ (c_Mo_end l dC dI cI mo a1 a2 a3 a4 a5 a6 a7 a8 a9 a10 ops lf rg dpa plc mde val cel sdm bfr n evm rgm sm rm tm chm alc E v hn hEn hv) (cwV 1 hg (tg_V tw_659 tw_661 sp_Mo_end tw_6 tw_662) rfl rfl rfl (by decide +kernel) ⟨Nat.le_of_ble_eq_true rfl, Nat.le_of_ble_eq_true rfl⟩) (hK.sub [0] rfl) (hP.sub [0, 1, 2, 3, 4, 5, 6, 7, 8, 9, 10] rfl) rfl rfl rfl hl.1 rfl (lv_room (Nat.le_of_ble_eq_true rfl)) d_Mo_isCrossed_2 ⟨Nat.le_of_ble_eq_true rfl, Nat.le_of_ble_eq_true rfl⟩ ?_
  refine lv_istore_n (lv' := [(2, .int (nI (E v))), (0, .ref mo), (1, .int (nI v))]) hx hb d_Mo_isCrossed_5 rfl hl (by decide) rfl (fun ls hl => ?_)
  refine lv_iload_n hx hb d_Mo_isCrossed_6 rfl (lv_at hl 2 rfl) ?_
  refine lv_iconst (v := 1) hx hb d_Mo_isCrossed_7 (by decide) ?_
  refine wb_iadd hx hb v 1 rfl rfl d_Mo_isCrossed_8 ?_
  refine lv_istore_n (lv' := [(3, .int (nI (v + 1))), (2, .int (nI (E v))), (0, .ref mo), (1, .int (nI v))]) hx hb d_Mo_isCrossed_9 rfl hl (by decide) rfl (fun ls hl => ?_)
  refine wb_loopP (σ := Nat) 10 (fun i ls => lv_has ls 4 [(3, .int (nI i)), (2, .int (nI (E v))), (0, .ref mo), (1, .int (nI v))] ∧ (i ≤ 24) ∧ (crx ops (v + 1) (min (E v) n - (v + 1)) = crx ops i (min (E v) n - i))) (fun i => 25 - i) ?_ ((v + 1)) ls ⟨lv_sub hl [0, 1, 2, 3] rfl, (Nat.lt_of_lt_of_le hv hn), rfl⟩
  clear hl
  intro i ls hI2 ih1
  obtain ⟨hl, hi2, hc⟩ := hI2
  refine lv_iload_n hx hb d_Mo_isCrossed_10 rfl (lv_at hl 0 rfl) ?_
  refine lv_iload_n hx hb d_Mo_isCrossed_11 rfl (lv_at hl 1 rfl) ?_
  refine wb_icmp_ge (tgt := 42) hx hb i (E v) rfl rfl (by have h1 := hE24 v; omega) (by have h1 := hE24 v; omega) d_Mo_isCrossed_12 (by decide) (fun c3 => ?_) (fun c3 => ?_)
  · refine lv_iconst (v := 0) hx hb d_Mo_isCrossed_42 (by decide) ?_
    exact W.zret (v := (0 : Int32)) (ty := .boolean) hx hb hr rfl (fun t ht hW => ⟨_, rfl, (bI0 (hc.trans (crx_end (Nat.le_trans (Nat.min_le_left _ _) c3)))), ht⟩) (fun q h => by cases h) d_Mo_isCrossed_43
  · refine lv_iload_n hx hb d_Mo_isCrossed_15 rfl (lv_at hl 0 rfl) ?_
    refine lv_aload_n hx hb d_Mo_isCrossed_16 rfl (lv_at hl 2 rfl) ?_
    refine va_get (D := (dC, dI)) (ci := 4) (v := .int (nI n)) (C := R_Mo) (T := T_Mo) (N := 18) hx hb hg in_Mo hown hK hP 0 rfl rfl 10 (by decide) (hg _ tw_580) (fun _ h9 => h9) rfl d_Mo_isCrossed_17 ?_
    refine wb_icmp_ge (tgt := 42) hx hb i n rfl rfl (by have h1 := hE24 v; omega) (by have h1 := hE24 v; omega) d_Mo_isCrossed_20 (by decide) (fun c4 => ?_) (fun c4 => ?_)
    · refine lv_iconst (v := 0) hx hb d_Mo_isCrossed_42 (by decide) ?_
      exact W.zret (v := (0 : Int32)) (ty := .boolean) hx hb hr rfl (fun t ht hW => ⟨_, rfl, (bI0 (hc.trans (crx_end (Nat.le_trans (Nat.min_le_right _ _) c4)))), ht⟩) (fun q h => by cases h) d_Mo_isCrossed_43
    · refine lv_aload_n hx hb d_Mo_isCrossed_23 rfl (lv_at hl 2 rfl) ?_
      refine va_get (D := (dC, dI)) (ci := 4) (v := .ref a1) (C := R_Mo) (T := T_Mo) (N := 18) hx hb hg in_Mo hown hK hP 0 rfl rfl 0 (by decide) (hg _ tw_570) (fun _ h9 => h9) rfl d_Mo_isCrossed_24 ?_
      refine lv_iload_n hx hb d_Mo_isCrossed_27 rfl (lv_at hl 0 rfl) ?_
      refine wb_iald hx hb hK hP 1 0 rfl rfl i rfl (Nat.lt_of_lt_of_le c4 hn) (by decide) d_Mo_isCrossed_28 ?_
      refine lv_bipush (v := 7) hx hb d_Mo_isCrossed_29 (by decide) ?_
      refine lv_icmp_ne (tgt := 36) hx hb d_Mo_isCrossed_31 (by decide) (fun c5 => ?_) (fun c5 => ?_)
      · refine lv_iinc (v := (nI (i + 1))) (lv' := [(3, .int (nI (i + 1))), (2, .int (nI (E v))), (0, .ref mo), (1, .int (nI v))]) hx hb d_Mo_isCrossed_36 hl (k := 0) rfl (nI_add _ 1) (by decide) rfl (fun ls hl => ?_)
        refine lv_goto (tgt := 10) hx hb d_Mo_isCrossed_39 (by decide) ?_
        exact ih1 (i + 1) ls ⟨lv_sub hl [0, 1, 2, 3] rfl, (Nat.lt_of_lt_of_le c4 hn), (hc.trans (crx_step (Nat.lt_min.mpr ⟨c3, c4⟩) c5))⟩ (by omega)
      · refine lv_iconst (v := 1) hx hb d_Mo_isCrossed_34 (by decide) ?_
        exact W.zret (v := (1 : Int32)) (ty := .boolean) hx hb hr rfl (fun t ht hW => ⟨_, rfl, (bI1 (hc.trans (crx_hit (Nat.lt_min.mpr ⟨c3, c4⟩) c5))), ht⟩) (fun q h => by cases h) d_Mo_isCrossed_35

set_option maxHeartbeats 4000000 in
set_option maxRecDepth 100000 in
theorem c_Mo_sum (l : Launch) (dC : Nat → ClassId) (dI : Nat → Nat → Nat) (cI : ClassId) (mo : Nat) (a1 : Nat) (a2 : Nat) (a3 : Nat) (a4 : Nat) (a5 : Nat) (a6 : Nat) (a7 : Nat) (a8 : Nat) (a9 : Nat) (a10 : Nat) (ops : Nat → Int32) (lf : Nat → Int32) (rg : Nat → Int32) (dpa : Nat → Int32) (plc : Nat → Int32) (mde : Nat → Int32) (val : Nat → Int32) (cel : Nat → Int32) (sdm : Nat → Int32) (bfr : Nat → Int32) (n : Nat) (evm : Nat) (rgm : Nat) (sm : Nat) (rm : Int32) (tm : Int32) (chm : Nat) (alc : Bool) (P : Nat → Nat) (v : Nat) (hn : n ≤ 24) (hPn : ∀ j, j < n → smI ops lf rg dpa j n = P j) (hv : v < n) : Met l y_Mo_sum ws_Mo_sum (lvR 3 0 0) (va_Pc [.ref mo, .int (nI v)] (PB (dC, dI) vwCl [(mo, .inr (4, [.ref a1, .ref a2, .ref a3, .ref a4, .ref a5, .ref a6, .ref a7, .ref a8, .ref a9, .ref a10, .int (nI n), .int (nI evm), .int (nI rgm), .int (nI sm), .int rm, .int tm, .int (nI chm), .int (bI alc)])), (a1, .inl (cI, 24, .inl ops)), (a2, .inl (cI, 24, .inl lf)), (a3, .inl (cI, 24, .inl rg)), (a4, .inl (cI, 24, .inl dpa)), (a5, .inl (cI, 24, .inl plc)), (a6, .inl (cI, 24, .inl mde)), (a7, .inl (cI, 24, .inl val)), (a8, .inl (cI, 16, .inl cel)), (a9, .inl (cI, 24, .inl sdm)), (a10, .inl (cI, 24, .inl bfr))] [(cI, .int)])) (vp_Si (fun r => r = nI (P v))) 0 0 (fun _ => False) := by
  refine Met.ofW (cc := b_Mo_sum) (maxL := 4) (ret := (some .int)) (by decide) rfl ?_
  intro p e s m args below meth c s₁ B hml hv
  obtain ⟨rfl, hP, hK⟩ := hv
  have hx := B.exec
  have hb := B.bytes
  have hr := B.returns
  have hts := atoms_spec (ws := ws_Mo_sum) B.pre
  have hg : ∀ w ∈ TG, w.before ([.ref mo, .int (nI v)] : List Value).toArray s = true := fun w h => hts w (List.mem_cons_of_mem _ h)
  have hown : s.vm.findClass R_Mo = some m.cls := findClass_of_methodNamed B.named
  have hlocks := B.notSynchronized
  have hl := lv_entry ([.ref mo, .int (nI v)]) (n := 4) (Nat.le_of_ble_eq_true rfl)
  rw [lg_entry_eq]
  generalize (lg_sl ([.ref mo, .int (nI v)]) ++ List.replicate (4 - (lg_sl ([.ref mo, .int (nI v)])).length) Slot.unset).toArray = ls at hl ⊢
  have hl : lv_has ls 4 [(0, .ref mo), (1, .int (nI v))] := hl
  refine lv_aload_n hx hb d_Mo_sum_0 rfl (lv_at hl 0 rfl) ?_
  refine va_get (D := (dC, dI)) (ci := 4) (v := .ref a4) (C := R_Mo) (T := T_Mo) (N := 18) hx hb hg in_Mo hown hK hP 0 rfl rfl 3 (by decide) (hg _ tw_573) (fun _ h9 => h9) rfl d_Mo_sum_1 ?_
  refine lv_iload_n hx hb d_Mo_sum_4 rfl (lv_at hl 1 rfl) ?_
  refine wb_iald hx hb hK hP 4 0 rfl rfl v rfl (Nat.lt_of_lt_of_le hv hn) (by decide) d_Mo_sum_5 ?_
  refine rdS (As := [.int (dpa v)]) (rest := []) ⟨hx, hb, hml, hown, hg⟩ (c_Mo_price l dC dI cI (dpa v)) (va_cwS 1 hg (tg_S tw_699 tw_700 tw_6 tw_701) rfl rfl rfl (by decide +kernel) ⟨Nat.le_of_ble_eq_true rfl, Nat.le_of_ble_eq_true rfl⟩) (hK.sub [0] rfl) (hP.sub [] rfl) rfl hl.1 rfl (lv_room (Nat.le_of_ble_eq_true rfl)) d_Mo_sum_6 ⟨Nat.le_of_ble_eq_true rfl, Nat.le_of_ble_eq_true rfl⟩ ?_
  refine lv_istore_n (lv' := [(2, .int (nI (prI (dpa v)))), (0, .ref mo), (1, .int (nI v))]) hx hb d_Mo_sum_9 rfl hl (by decide) rfl (fun ls hl => ?_)
  refine lv_iload_n hx hb d_Mo_sum_10 rfl (lv_at hl 2 rfl) ?_
  refine lv_iconst (v := 1) hx hb d_Mo_sum_11 (by decide) ?_
  refine wb_iadd hx hb v 1 rfl rfl d_Mo_sum_12 ?_
  refine lv_istore_n (lv' := [(3, .int (nI (v + 1))), (2, .int (nI (prI (dpa v)))), (0, .ref mo), (1, .int (nI v))]) hx hb d_Mo_sum_13 rfl hl (by decide) rfl (fun ls hl => ?_)
  refine wb_loopP (σ := Nat × Nat) 14 (fun x1 ls => lv_has ls 4 [(3, .int (nI x1.2)), (2, .int (nI x1.1)), (0, .ref mo), (1, .int (nI v))] ∧ (v < x1.2) ∧ (x1.2 ≤ n) ∧ (x1.1 = smI ops lf rg dpa v x1.2)) (fun x1 => 25 - x1.2) ?_ (prI (dpa v), v + 1) ls ⟨lv_sub hl [0, 1, 2, 3] rfl, (Nat.lt_succ_self _), hv, (smI_0 _ (Nat.le_refl _))⟩
  clear hl
  intro x1 ls hI3 ih2
  obtain ⟨s9, i⟩ := x1
  obtain ⟨hl, hiv, hi, he⟩ := hI3
  have hl : lv_has ls 4 [(3, .int (nI i)), (2, .int (nI s9)), (0, .ref mo), (1, .int (nI v))] := hl
  have hiv : v < i := hiv
  have hi : i ≤ n := hi
  have he : s9 = smI ops lf rg dpa v i := he
  refine lv_iload_n hx hb d_Mo_sum_14 rfl (lv_at hl 0 rfl) ?_
  refine lv_aload_n hx hb d_Mo_sum_15 rfl (lv_at hl 2 rfl) ?_
  refine va_get (D := (dC, dI)) (ci := 4) (v := .int (nI n)) (C := R_Mo) (T := T_Mo) (N := 18) hx hb hg in_Mo hown hK hP 0 rfl rfl 10 (by decide) (hg _ tw_580) (fun _ h9 => h9) rfl d_Mo_sum_16 ?_
  refine wb_icmp_ge (tgt := 47) hx hb i n rfl rfl (by omega) (by omega) d_Mo_sum_19 (by decide) (fun c4 => ?_) (fun c4 => ?_)
  · refine lv_iload_n hx hb d_Mo_sum_47 rfl (lv_at hl 1 rfl) ?_
    exact W.iret (v := nI s9) hx hb hr (fun t ht hW => ⟨_, rfl, (congrArg nI ((he.trans (congrArg (smI ops lf rg dpa v) (Nat.le_antisymm hi c4))).trans (hPn v hv))), ht⟩) (fun q h => by cases h) d_Mo_sum_48
  · refine lv_iload_n hx hb d_Mo_sum_22 rfl (lv_at hl 1 rfl) ?_
    refine lv_aload_n hx hb d_Mo_sum_23 rfl (lv_at hl 2 rfl) ?_
    refine lv_iload_n hx hb d_Mo_sum_24 rfl (lv_at hl 0 rfl) ?_
    refine lv_iload_n hx hb d_Mo_sum_25 rfl (lv_at hl 3 rfl) ?_
    refine rdV (ci := 4) (q0 := 0) (As := [.int (nI i), .int (nI v)]) (rest := [.int (nI s9)]) ⟨hx, hb, hml, hown, hg⟩ (c_Mo_uses l dC dI cI mo a1 a2 a3 a4 a5 a6 a7 a8 a9 a10 ops lf rg dpa plc mde val cel sdm bfr n evm rgm sm rm tm chm alc i v (Nat.lt_of_lt_of_le c4 hn)) (cwV 2 hg (tg_V tw_663 tw_665 sp_Mo_uses tw_6 tw_666) rfl rfl rfl (by decide +kernel) ⟨Nat.le_of_ble_eq_true rfl, Nat.le_of_ble_eq_true rfl⟩) (hK.sub [0] rfl) (hP.sub [0, 1, 2, 3, 4, 5, 6, 7, 8, 9, 10] rfl) rfl rfl rfl hl.1 rfl (lv_room (Nat.le_of_ble_eq_true rfl)) d_Mo_sum_26 ⟨Nat.le_of_ble_eq_true rfl, Nat.le_of_ble_eq_true rfl⟩ ?_
    refine lv_aload_n hx hb d_Mo_sum_29 rfl (lv_at hl 2 rfl) ?_
    refine va_get (D := (dC, dI)) (ci := 4) (v := .ref a4) (C := R_Mo) (T := T_Mo) (N := 18) hx hb hg in_Mo hown hK hP 0 rfl rfl 3 (by decide) (hg _ tw_573) (fun _ h9 => h9) rfl d_Mo_sum_30 ?_
    refine lv_iload_n hx hb d_Mo_sum_33 rfl (lv_at hl 0 rfl) ?_
    refine wb_iald hx hb hK hP 4 0 rfl rfl i rfl (Nat.lt_of_lt_of_le c4 hn) (by decide) d_Mo_sum_34 ?_
    refine rdS (As := [.int (dpa i)]) (rest := [.int (nI (us ops lf rg i v)), .int (nI s9)]) ⟨hx, hb, hml, hown, hg⟩ (c_Mo_price l dC dI cI (dpa i)) (va_cwS 1 hg (tg_S tw_699 tw_700 tw_6 tw_701) rfl rfl rfl (by decide +kernel) ⟨Nat.le_of_ble_eq_true rfl, Nat.le_of_ble_eq_true rfl⟩) (hK.sub [0] rfl) (hP.sub [] rfl) rfl hl.1 rfl (lv_room (Nat.le_of_ble_eq_true rfl)) d_Mo_sum_35 ⟨Nat.le_of_ble_eq_true rfl, Nat.le_of_ble_eq_true rfl⟩ ?_
    refine wb_imul hx hb (us ops lf rg i v) (prI (dpa i)) rfl rfl d_Mo_sum_38 ?_
    refine wb_iadd hx hb s9 ((us ops lf rg i v) * (prI (dpa i))) rfl rfl d_Mo_sum_39 ?_
    refine lv_istore_n (lv' := [(2, .int (nI (s9 + ((us ops lf rg i v) * (prI (dpa i)))))), (3, .int (nI i)), (0, .ref mo), (1, .int (nI v))]) hx hb d_Mo_sum_40 rfl hl (by decide) rfl (fun ls hl => ?_)
    refine lv_iinc (v := (nI (i + 1))) (lv' := [(3, .int (nI (i + 1))), (2, .int (nI (s9 + ((us ops lf rg i v) * (prI (dpa i)))))), (0, .ref mo), (1, .int (nI v))]) hx hb d_Mo_sum_41 hl (k := 1) rfl (nI_add _ 1) (by decide) rfl (fun ls hl => ?_)
    refine lv_goto (tgt := 14) hx hb d_Mo_sum_44 (by decide) ?_
    exact ih2 (s9 + ((us ops lf rg i v) * (prI (dpa i))), i + 1) ls ⟨lv_sub hl [0, 1, 2, 3] rfl, (Nat.lt_succ_of_lt hiv), c4, (smI_s he hiv)⟩ (by show 25 - (i + 1) < 25 - i; have := c4; omega)

set_option maxHeartbeats 4000000 in
set_option maxRecDepth 100000 in
theorem c_Mo_heavy (l : Launch) (dC : Nat → ClassId) (dI : Nat → Nat → Nat) (cI : ClassId) (mo : Nat) (a1 : Nat) (a2 : Nat) (a3 : Nat) (a4 : Nat) (a5 : Nat) (a6 : Nat) (a7 : Nat) (a8 : Nat) (a9 : Nat) (a10 : Nat) (ops : Nat → Int32) (lf : Nat → Int32) (rg : Nat → Int32) (dpa : Nat → Int32) (plc : Nat → Int32) (mde : Nat → Int32) (val : Nat → Int32) (cel : Nat → Int32) (sdm : Nat → Int32) (bfr : Nat → Int32) (n : Nat) (evm : Nat) (rgm : Nat) (sm : Nat) (rm : Int32) (tm : Int32) (chm : Nat) (alc : Bool) (E : Nat → Nat) (P : Nat → Nat) (v : Nat) (hn : n ≤ 24) (hEn : ∀ j, j < n → enI ops lf rg j n = E j) (hPn : ∀ j, j < n → smI ops lf rg dpa j n = P j) (hwf : ∀ j, j < n → j < E j) (hwa : ∀ j, j < n → vf_n64 (wt P E j)) (hv : v < n) : Met l y_Mo_heavy ws_Mo_heavy (lvR 4 0 0) (va_Pc [.ref mo, .int (nI v)] (PB (dC, dI) vwCl [(mo, .inr (4, [.ref a1, .ref a2, .ref a3, .ref a4, .ref a5, .ref a6, .ref a7, .ref a8, .ref a9, .ref a10, .int (nI n), .int (nI evm), .int (nI rgm), .int (nI sm), .int rm, .int tm, .int (nI chm), .int (bI alc)])), (a1, .inl (cI, 24, .inl ops)), (a2, .inl (cI, 24, .inl lf)), (a3, .inl (cI, 24, .inl rg)), (a4, .inl (cI, 24, .inl dpa)), (a5, .inl (cI, 24, .inl plc)), (a6, .inl (cI, 24, .inl mde)), (a7, .inl (cI, 24, .inl val)), (a8, .inl (cI, 16, .inl cel)), (a9, .inl (cI, 24, .inl sdm)), (a10, .inl (cI, 24, .inl bfr))] [(cI, .int)])) (vp_Sd (fun r => r = wt P E v)) 0 0 (fun _ => False) := by
  refine Met.ofW (cc := b_Mo_heavy) (maxL := 2) (ret := (some .double)) (by decide) rfl ?_
  intro p e s m args below meth c s₁ B hml hv
  obtain ⟨rfl, hP, hK⟩ := hv
  have hx := B.exec
  have hb := B.bytes
  have hr := B.returns
  have hts := atoms_spec (ws := ws_Mo_heavy) B.pre
  have hg : ∀ w ∈ TG, w.before ([.ref mo, .int (nI v)] : List Value).toArray s = true := fun w h => hts w (List.mem_cons_of_mem _ h)
  have hown : s.vm.findClass R_Mo = some m.cls := findClass_of_methodNamed B.named
  have hlocks := B.notSynchronized
  have hl := lv_entry ([.ref mo, .int (nI v)]) (n := 2) (Nat.le_of_ble_eq_true rfl)
  rw [lg_entry_eq]
  generalize (lg_sl ([.ref mo, .int (nI v)]) ++ List.replicate (2 - (lg_sl ([.ref mo, .int (nI v)])).length) Slot.unset).toArray = ls at hl ⊢
  have hl : lv_has ls 2 [(0, .ref mo), (1, .int (nI v))] := hl
  refine lv_aload_n hx hb d_Mo_heavy_0 rfl (lv_at hl 0 rfl) ?_
  refine lv_iload_n hx hb d_Mo_heavy_1 rfl (lv_at hl 1 rfl) ?_
  refine rdV (ci := 4) (q0 := 0) (As := [.int (nI v)]) (rest := []) ⟨hx, hb, hml, hown, hg⟩ (c_Mo_sum l dC dI cI mo a1 a2 a3 a4 a5 a6 a7 a8 a9 a10 ops lf rg dpa plc mde val cel sdm bfr n evm rgm sm rm tm chm alc P v hn hPn hv) (cwV 1 hg (tg_V tw_695 tw_697 sp_Mo_sum tw_6 tw_698) rfl rfl rfl (by decide +kernel) ⟨Nat.le_of_ble_eq_true rfl, Nat.le_of_ble_eq_true rfl⟩) (hK.sub [0] rfl) (hP.sub [0, 1, 2, 3, 4, 5, 6, 7, 8, 9, 10] rfl) rfl rfl rfl hl.1 rfl (lv_room (Nat.le_of_ble_eq_true rfl)) d_Mo_heavy_2 ⟨Nat.le_of_ble_eq_true rfl, Nat.le_of_ble_eq_true rfl⟩ ?_
  refine lv_i2d hx hb d_Mo_heavy_5 ?_
  refine lv_aload_n hx hb d_Mo_heavy_6 rfl (lv_at hl 0 rfl) ?_
  refine lv_iload_n hx hb d_Mo_heavy_7 rfl (lv_at hl 1 rfl) ?_
  refine rdV (ci := 4) (q0 := 0) (As := [.int (nI v)]) (rest := [.double (FP.i2d (nI (P v)))]) ⟨hx, hb, hml, hown, hg⟩ (c_Mo_end l dC dI cI mo a1 a2 a3 a4 a5 a6 a7 a8 a9 a10 ops lf rg dpa plc mde val cel sdm bfr n evm rgm sm rm tm chm alc E v hn hEn hv) (cwV 1 hg (tg_V tw_659 tw_661 sp_Mo_end tw_6 tw_662) rfl rfl rfl (by decide +kernel) ⟨Nat.le_of_ble_eq_true rfl, Nat.le_of_ble_eq_true rfl⟩) (hK.sub [0] rfl) (hP.sub [0, 1, 2, 3, 4, 5, 6, 7, 8, 9, 10] rfl) rfl rfl rfl hl.1 rfl (lv_room (Nat.le_of_ble_eq_true rfl)) d_Mo_heavy_8 ⟨Nat.le_of_ble_eq_true rfl, Nat.le_of_ble_eq_true rfl⟩ ?_
  refine lv_iload_n hx hb d_Mo_heavy_11 rfl (lv_at hl 1 rfl) ?_
  refine wb_isub hx hb (E v) v rfl rfl (Nat.le_of_lt (hwf v hv)) d_Mo_heavy_12 ?_
  refine lv_i2d hx hb d_Mo_heavy_13 ?_
  refine lv_ddiv hx hb d_Mo_heavy_14 (hwa v hv) ?_
  exact W.dret (v := FP.ddiv (FP.i2d (nI (P v))) (FP.i2d (nI ((E v) - v)))) hx hb hr (fun t ht hW => ⟨_, rfl, rfl, ht⟩) (fun q h => by cases h) d_Mo_heavy_15
