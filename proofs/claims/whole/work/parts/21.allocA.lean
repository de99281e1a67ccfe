/-! Arrays.fill; AllocForge$Allocation: what only reads its own homes -/
set_option maxHeartbeats 4000000 in
set_option maxRecDepth 100000 in
theorem c_Ar_fill (l : Launch) (dC : Nat → ClassId) (dI : Nat → Nat → Nat) (cI : ClassId) (a : Nat) (q : Nat) (f : Nat → Int32) (v : Int32) (sz : Nat) (hq : q < 2 ^ 31) : Met l y_Ar_fill ws_Ar_fill (lvR 0 0 0) (va_Pc [.ref a, .int v] (PM (dC, dI) vwCl [(a, .inl (cI, q, .inl f))] [(cI, .int)] sz)) (va_Qv (fun _ : Unit => True) (MB (dC, dI) vwCl (fun _ => [(a, .inl (cI, q, .inl (filF f v q)))]) [(cI, .int)] (va_A [(a, .inl (cI, q, .inl f))] sz)) (va_A [(a, .inl (cI, q, .inl f))] sz)) 0 0 (va_A [(a, .inl (cI, q, .inl f))] sz) := by
  refine Met.ofW (cc := b_Ar_fill) (maxL := 4) (ret := none) (by decide) rfl ?_
  intro p e s m args below meth c s₁ B hml hv
  obtain ⟨rfl, hsz, hP, hK, hD0⟩ := hv
  have hx := B.exec
  have hb := B.bytes
  have hr := B.returns
  have hts := atoms_spec (ws := ws_Ar_fill) B.pre
  have hg : ∀ w ∈ TG, w.before ([.ref a, .int v] : List Value).toArray s = true := fun w h => hts w (List.mem_cons_of_mem _ h)
  have hown : s.vm.findClass R_Ar = some m.cls := findClass_of_methodNamed B.named
  have hlocks := B.notSynchronized
  subst hsz
  have hD := hD0.self (sz := s.heap.size)
  generalize hAe : va_A [(a, .inl (cI, q, .inl f))] s.heap.size = A at hD ⊢
  have hA : ∀ q : Nat, s.heap.size ≤ q → A q := fun q h => by rw [← hAe]; exact Or.inr h
  have hS : va_S A s.heap s.heap [] := va_S.rf
  have hl := lv_entry ([.ref a, .int v]) (n := 4) (Nat.le_of_ble_eq_true rfl)
  rw [lg_entry_eq]
  generalize (lg_sl ([.ref a, .int v]) ++ List.replicate (4 - (lg_sl ([.ref a, .int v])).length) Slot.unset).toArray = ls at hl ⊢
  have hl : lv_has ls 4 [(0, .ref a), (1, .int v)] := hl
  refine lv_iconst (v := 0) hx hb d_Ar_fill_0 (by decide) ?_
  refine lv_istore_n (lv' := [(2, .int ((0 : Int32))), (0, .ref a), (1, .int v)]) hx hb d_Ar_fill_1 rfl hl (by decide) rfl (fun ls hl => ?_)
  refine lv_aload_n hx hb d_Ar_fill_2 rfl (lv_at hl 1 rfl) ?_
  refine va_alen (v := nI q) hx hb hK hP 0 0 rfl rfl rfl d_Ar_fill_3 ?_
  refine lv_istore_n (lv' := [(3, .int (nI q)), (2, .int ((0 : Int32))), (0, .ref a), (1, .int v)]) hx hb d_Ar_fill_4 rfl hl (by decide) rfl (fun ls hl => ?_)
  refine wb_loop (σ := Nat) 5 (fun i H locs ls => lv_has ls 4 [(3, .int (nI q)), (2, .int (nI i)), (0, .ref a), (1, .int v)] ∧ va_P (dC, dI) vwCl [(a, .inl (cI, q, .inl (filF f v i)))] H ∧ va_D A [(a, .inl (cI, q, .inl (filF f v i)))] ∧ va_S A s.heap H locs ∧ (i ≤ q)) (fun i => q - i) ?_ (0) _ _ ls ⟨lv_sub hl [0, 1, 2, 3] rfl, (by rw [filF_0]; exact hP), (by rw [filF_0]; exact hD), hS, (Nat.zero_le _)⟩
  clear hP hD hS hl
  intro i H locs ls hI2 ih1
  obtain ⟨hl, hP, hD, hS, hi⟩ := hI2
  refine lv_iload_n hx hb d_Ar_fill_5 rfl (lv_at hl 1 rfl) ?_
  refine lv_iload_n hx hb d_Ar_fill_6 rfl (lv_at hl 0 rfl) ?_
  refine wb_icmp_ge (tgt := 20) hx hb i q rfl rfl (by first | exact hq | exact Nat.lt_of_le_of_lt hi hq) (by first | exact hq | exact Nat.lt_of_le_of_lt hi hq) d_Ar_fill_7 (by decide) (fun c3 => ?_) (fun c3 => ?_)
  · have ei : filF f v q = filF f v i := by rw [Nat.le_antisymm hi c3]
    have hP9 : va_P (dC, dI) vwCl [(a, .inl (cI, q, .inl (filF f v q)))] _ := (by rw [ei]; exact hP.sub [0] rfl)
    have hD9 : va_D A [(a, .inl (cI, q, .inl (filF f v q)))] := (by rw [ei]; exact hD.sub [0] (by decide) rfl)
    exact W.vret hx hb hr (fun t ht hW => ⟨⟨(), rfl, trivial, by rw [ht]; exact hP9, va_K.moved hW.alike hK, hD9⟩, hS.F ht⟩) hS.2.2 d_Ar_fill_20
  · refine lv_aload_n hx hb d_Ar_fill_10 rfl (lv_at hl 2 rfl) ?_
    refine lv_iload_n hx hb d_Ar_fill_11 rfl (lv_at hl 1 rfl) ?_
    refine lv_iload_n hx hb d_Ar_fill_12 rfl (lv_at hl 3 rfl) ?_
    refine wb_iast hx hb hK hP hD hS 0 0 rfl rfl i rfl c3 hq d_Ar_fill_13 (fun H locs hP hD hS => ?_)
    have hP : va_P (dC, dI) vwCl [(a, .inl (cI, q, .inl (upd (filF f v i) i v)))] H := hP
    have hD : va_D A [(a, .inl (cI, q, .inl (upd (filF f v i) i v)))] := hD
    refine lv_iinc (v := (nI (i + 1))) (lv' := [(2, .int (nI (i + 1))), (3, .int (nI q)), (0, .ref a), (1, .int v)]) hx hb d_Ar_fill_14 hl (k := 1) rfl (nI_add _ 1) (by decide) rfl (fun ls hl => ?_)
    refine lv_goto (tgt := 5) hx hb d_Ar_fill_17 (by decide) ?_
    exact ih1 (i + 1) _ _ ls ⟨lv_sub hl [1, 0, 2, 3] rfl, (by rw [← filF_s]; exact hP), (by rw [← filF_s]; exact hD), hS, c3⟩ (by have := c3; omega)

set_option maxHeartbeats 4000000 in
set_option maxRecDepth 100000 in
theorem c_Al_registers (l : Launch) (dC : Nat → ClassId) (dI : Nat → Nat → Nat) (cI : ClassId) (al : Nat) (ah : Nat) (k : Nat) (ev : Nat) (hm : Nat → Int32) : Met l y_Al_registers ws_Al_registers (lvR 0 0 0) (va_Pc [.ref al] (PB (dC, dI) vwCl [(al, .inr (0, [.ref ah, .int (nI k), .int (nI ev)])), (ah, .inl (cI, 24, .inl hm))] [(cI, .int)])) (vp_Si (fun r => r = nI k)) 0 0 (fun _ => False) := by
  refine Met.ofW (cc := b_Al_registers) (maxL := 1) (ret := (some .int)) (by decide) rfl ?_
  intro p e s m args below meth c s₁ B hml hv
  obtain ⟨rfl, hP, hK⟩ := hv
  have hx := B.exec
  have hb := B.bytes
  have hr := B.returns
  have hts := atoms_spec (ws := ws_Al_registers) B.pre
  have hg : ∀ w ∈ TG, w.before ([.ref al] : List Value).toArray s = true := fun w h => hts w (List.mem_cons_of_mem _ h)
  have hown : s.vm.findClass R_Al = some m.cls := findClass_of_methodNamed B.named
  have hlocks := B.notSynchronized
  have hl := lv_entry ([.ref al]) (n := 1) (Nat.le_of_ble_eq_true rfl)
  rw [lg_entry_eq]
  generalize (lg_sl ([.ref al]) ++ List.replicate (1 - (lg_sl ([.ref al])).length) Slot.unset).toArray = ls at hl ⊢
  have hl : lv_has ls 1 [(0, .ref al)] := hl
  refine lv_aload_n hx hb d_Al_registers_0 rfl (lv_at hl 0 rfl) ?_
  refine va_get (D := (dC, dI)) (ci := 0) (v := .int (nI k)) (C := R_Al) (T := T_Al) (N := 3) hx hb hg in_Al hown hK hP 0 rfl rfl 1 (by decide) (hg _ tw_90) (fun _ h9 => h9) rfl d_Al_registers_1 ?_
  exact W.iret (v := nI k) hx hb hr (fun t ht hW => ⟨_, rfl, rfl, ht⟩) (fun q h => by cases h) d_Al_registers_4

set_option maxHeartbeats 4000000 in
set_option maxRecDepth 100000 in
theorem c_Al_evictions (l : Launch) (dC : Nat → ClassId) (dI : Nat → Nat → Nat) (cI : ClassId) (al : Nat) (ah : Nat) (k : Nat) (ev : Nat) (hm : Nat → Int32) : Met l y_Al_evictions ws_Al_evictions (lvR 0 0 0) (va_Pc [.ref al] (PB (dC, dI) vwCl [(al, .inr (0, [.ref ah, .int (nI k), .int (nI ev)])), (ah, .inl (cI, 24, .inl hm))] [(cI, .int)])) (vp_Si (fun r => r = nI ev)) 0 0 (fun _ => False) := by
  refine Met.ofW (cc := b_Al_evictions) (maxL := 1) (ret := (some .int)) (by decide) rfl ?_
  intro p e s m args below meth c s₁ B hml hv
  obtain ⟨rfl, hP, hK⟩ := hv
  have hx := B.exec
  have hb := B.bytes
  have hr := B.returns
  have hts := atoms_spec (ws := ws_Al_evictions) B.pre
  have hg : ∀ w ∈ TG, w.before ([.ref al] : List Value).toArray s = true := fun w h => hts w (List.mem_cons_of_mem _ h)
  have hown : s.vm.findClass R_Al = some m.cls := findClass_of_methodNamed B.named
  have hlocks := B.notSynchronized
  have hl := lv_entry ([.ref al]) (n := 1) (Nat.le_of_ble_eq_true rfl)
  rw [lg_entry_eq]
  generalize (lg_sl ([.ref al]) ++ List.replicate (1 - (lg_sl ([.ref al])).length) Slot.unset).toArray = ls at hl ⊢
  have hl : lv_has ls 1 [(0, .ref al)] := hl
  refine lv_aload_n hx hb d_Al_evictions_0 rfl (lv_at hl 0 rfl) ?_
  refine va_get (D := (dC, dI)) (ci := 0) (v := .int (nI ev)) (C := R_Al) (T := T_Al) (N := 3) hx hb hg in_Al hown hK hP 0 rfl rfl 2 (by decide) (hg _ tw_91) (fun _ h9 => h9) rfl d_Al_evictions_1 ?_
  exact W.iret (v := nI ev) hx hb hr (fun t ht hW => ⟨_, rfl, rfl, ht⟩) (fun q h => by cases h) d_Al_evictions_4

set_option maxHeartbeats 4000000 in
set_option maxRecDepth 100000 in
theorem c_Al_homes (l : Launch) (dC : Nat → ClassId) (dI : Nat → Nat → Nat) (cI : ClassId) (al : Nat) (ah : Nat) (k : Nat) (ev : Nat) (hm : Nat → Int32) : Met l y_Al_homes ws_Al_homes (lvR 0 0 0) (va_Pc [.ref al] (PB (dC, dI) vwCl [(al, .inr (0, [.ref ah, .int (nI k), .int (nI ev)])), (ah, .inl (cI, 24, .inl hm))] [(cI, .int)])) (k2_QcV (.ref ah)) 0 0 (fun _ => False) := by
  refine Met.ofW (cc := b_Al_homes) (maxL := 1) (ret := (some (.array .int))) (by decide) rfl ?_
  intro p e s m args below meth c s₁ B hml hv
  obtain ⟨rfl, hP, hK⟩ := hv
  have hx := B.exec
  have hb := B.bytes
  have hr := B.returns
  have hts := atoms_spec (ws := ws_Al_homes) B.pre
  have hg : ∀ w ∈ TG, w.before ([.ref al] : List Value).toArray s = true := fun w h => hts w (List.mem_cons_of_mem _ h)
  have hown : s.vm.findClass R_Al = some m.cls := findClass_of_methodNamed B.named
  have hlocks := B.notSynchronized
  have hl := lv_entry ([.ref al]) (n := 1) (Nat.le_of_ble_eq_true rfl)
  rw [lg_entry_eq]
  generalize (lg_sl ([.ref al]) ++ List.replicate (1 - (lg_sl ([.ref al])).length) Slot.unset).toArray = ls at hl ⊢
  have hl : lv_has ls 1 [(0, .ref al)] := hl
  refine lv_aload_n hx hb d_Al_homes_0 rfl (lv_at hl 0 rfl) ?_
  refine va_get (D := (dC, dI)) (ci := 0) (v := .ref ah) (C := R_Al) (T := T_Al) (N := 3) hx hb hg in_Al hown hK hP 0 rfl rfl 0 (by decide) (hg _ tw_89) (fun _ h9 => h9) rfl d_Al_homes_1 ?_
  exact W.aret (v := .ref ah) (rt := .array .int) hx hb hr (Or.inr ⟨_, rfl⟩) (Or.inr ⟨_, rfl⟩) (fun t ht hW => ⟨rfl, ht⟩) (fun q h => by cases h) d_Al_homes_4

set_option maxHeartbeats 4000000 in
set_option maxRecDepth 100000 in
theorem c_Al_homeOf (l : Launch) (dC : Nat → ClassId) (dI : Nat → Nat → Nat) (cI : ClassId) (al : Nat) (ah : Nat) (k : Nat) (ev : Nat) (hm : Nat → Int32) (i : Nat) (hi : i < 24) : Met l y_Al_homeOf ws_Al_homeOf (lvR 0 0 0) (va_Pc [.ref al, .int (nI i)] (PB (dC, dI) vwCl [(al, .inr (0, [.ref ah, .int (nI k), .int (nI ev)])), (ah, .inl (cI, 24, .inl hm))] [(cI, .int)])) (vp_Si (fun r => r = hm i)) 0 0 (fun _ => False) := by
  refine Met.ofW (cc := b_Al_homeOf) (maxL := 2) (ret := (some .int)) (by decide) rfl ?_
  intro p e s m args below meth c s₁ B hml hv
  obtain ⟨rfl, hP, hK⟩ := hv
  have hx := B.exec
  have hb := B.bytes
  have hr := B.returns
  have hts := atoms_spec (ws := ws_Al_homeOf) B.pre
  have hg : ∀ w ∈ TG, w.before ([.ref al, .int (nI i)] : List Value).toArray s = true := fun w h => hts w (List.mem_cons_of_mem _ h)
  have hown : s.vm.findClass R_Al = some m.cls := findClass_of_methodNamed B.named
  have hlocks := B.notSynchronized
  have hl := lv_entry ([.ref al, .int (nI i)]) (n := 2) (Nat.le_of_ble_eq_true rfl)
  rw [lg_entry_eq]
  generalize (lg_sl ([.ref al, .int (nI i)]) ++ List.replicate (2 - (lg_sl ([.ref al, .int (nI i)])).length) Slot.unset).toArray = ls at hl ⊢
  have hl : lv_has ls 2 [(0, .ref al), (1, .int (nI i))] := hl
  refine lv_aload_n hx hb d_Al_homeOf_0 rfl (lv_at hl 0 rfl) ?_
  refine va_get (D := (dC, dI)) (ci := 0) (v := .ref ah) (C := R_Al) (T := T_Al) (N := 3) hx hb hg in_Al hown hK hP 0 rfl rfl 0 (by decide) (hg _ tw_89) (fun _ h9 => h9) rfl d_Al_homeOf_1 ?_
  refine lv_iload_n hx hb d_Al_homeOf_4 rfl (lv_at hl 1 rfl) ?_
  refine wb_iald hx hb hK hP 1 0 rfl rfl i rfl hi (by decide) d_Al_homeOf_5 ?_
  exact W.iret (v := hm i) hx hb hr (fun t ht hW => ⟨_, rfl, rfl, ht⟩) (fun q h => by cases h) d_Al_homeOf_6

set_option maxHeartbeats 4000000 in
set_option maxRecDepth 100000 in
theorem c_Al_forget (l : Launch) (dC : Nat → ClassId) (dI : Nat → Nat → Nat) (cI : ClassId) (al : Nat) (ah : Nat) (k : Nat) (ev : Nat) (hm : Nat → Int32) (sz : Nat) : Met l y_Al_forget ws_Al_forget (lvR 1 0 0) (va_Pc [.ref al] (PM (dC, dI) vwCl [(al, .inr (0, [.ref ah, .int (nI k), .int (nI ev)])), (ah, .inl (cI, 24, .inl hm))] [(cI, .int)] sz)) (va_Qv (fun _ : Unit => True) (MB (dC, dI) vwCl (fun _ => [(al, .inr (0, [.ref ah, .int ((0 : Int32)), .int ((0 : Int32))])), (ah, .inl (cI, 24, .inl (filF hm (-1) 24)))]) [(cI, .int)] (va_A [(al, .inr (0, [.ref ah, .int (nI k), .int (nI ev)])), (ah, .inl (cI, 24, .inl hm))] sz)) (va_A [(al, .inr (0, [.ref ah, .int (nI k), .int (nI ev)])), (ah, .inl (cI, 24, .inl hm))] sz)) 0 0 (va_A [(al, .inr (0, [.ref ah, .int (nI k), .int (nI ev)])), (ah, .inl (cI, 24, .inl hm))] sz) := by
  refine Met.ofW (cc := b_Al_forget) (maxL := 1) (ret := none) (by decide) rfl ?_
  intro p e s m args below meth c s₁ B hml hv
  obtain ⟨rfl, hsz, hP, hK, hD0⟩ := hv
  have hx := B.exec
  have hb := B.bytes
  have hr := B.returns
  have hts := atoms_spec (ws := ws_Al_forget) B.pre
  have hg : ∀ w ∈ TG, w.before ([.ref al] : List Value).toArray s = true := fun w h => hts w (List.mem_cons_of_mem _ h)
  have hown : s.vm.findClass R_Al = some m.cls := findClass_of_methodNamed B.named
  have hlocks := B.notSynchronized
  subst hsz
  have hD := hD0.self (sz := s.heap.size)
  generalize hAe : va_A [(al, .inr (0, [.ref ah, .int (nI k), .int (nI ev)])), (ah, .inl (cI, 24, .inl hm))] s.heap.size = A at hD ⊢
  have hA : ∀ q : Nat, s.heap.size ≤ q → A q := fun q h => by rw [← hAe]; exact Or.inr h
  have hS : va_S A s.heap s.heap [] := va_S.rf
  have hl := lv_entry ([.ref al]) (n := 1) (Nat.le_of_ble_eq_true rfl)
  rw [lg_entry_eq]
  generalize (lg_sl ([.ref al]) ++ List.replicate (1 - (lg_sl ([.ref al])).length) Slot.unset).toArray = ls at hl ⊢
  have hl : lv_has ls 1 [(0, .ref al)] := hl
  refine lv_aload_n hx hb d_Al_forget_0 rfl (lv_at hl 0 rfl) ?_
  refine va_get (D := (dC, dI)) (ci := 0) (v := .ref ah) (C := R_Al) (T := T_Al) (N := 3) hx hb hg in_Al hown hK hP 0 rfl rfl 0 (by decide) (hg _ tw_89) (fun _ h9 => h9) rfl d_Al_forget_1 ?_
  refine lv_iconst (v := -1) hx hb d_Al_forget_4 (by decide) ?_
  refine chSv (wr := [(al, .inr (0, [.ref ah, .int (nI k), .int (nI ev)]))]) (As := [.ref ah, .int ((-1 : Int32))]) (rest := []) ⟨hx, hb, hml, hown, hg⟩ (c_Ar_fill l dC dI cI ah 24 hm ((-1 : Int32)) _ (by decide)) (va_cwS 2 hg (tg_S tw_86 tw_87 tw_5 tw_88) rfl rfl rfl (by decide +kernel) ⟨Nat.le_of_ble_eq_true rfl, Nat.le_of_ble_eq_true rfl⟩) (hK.sub [0] rfl) hP hD hS hA [1] [0] rfl rfl (by decide) (by decide) (by decide) rfl hl.1 rfl (lv_room (Nat.le_of_ble_eq_true rfl)) d_Al_forget_5 ⟨Nat.le_of_ble_eq_true rfl, Nat.le_of_ble_eq_true rfl⟩ (fun u1 H locs w2 hP hD hS => ?_)
  have hP : va_P (dC, dI) vwCl [(al, .inr (0, [.ref ah, .int (nI k), .int (nI ev)])), (ah, .inl (cI, 24, .inl (filF hm ((-1 : Int32)) 24)))] H := hP
  have hD : va_D A [(al, .inr (0, [.ref ah, .int (nI k), .int (nI ev)])), (ah, .inl (cI, 24, .inl (filF hm ((-1 : Int32)) 24)))] := hD
  refine lv_aload_n hx hb d_Al_forget_8 rfl (lv_at hl 0 rfl) ?_
  refine lv_iconst (v := 0) hx hb d_Al_forget_9 (by decide) ?_
  refine va_put (D := (dC, dI)) (ci := 0) (v := .int ((0 : Int32))) (ty := .int) (C := R_Al) (T := T_Al) (N := 3) hx hb hg in_Al ty_Al tyok_Al nm_Al hown hK hP hD hS 0 rfl rfl 1 (by decide) (hg _ tw_90) (fun _ h9 => h9) rfl (by decide +kernel) rfl rfl (Nat.le_of_ble_eq_true rfl) d_Al_forget_10 (fun H locs hP hD hS => ?_)
  have hP : va_P (dC, dI) vwCl [(al, .inr (0, [.ref ah, .int ((0 : Int32)), .int (nI ev)])), (ah, .inl (cI, 24, .inl (filF hm ((-1 : Int32)) 24)))] H := hP
  have hD : va_D A [(al, .inr (0, [.ref ah, .int ((0 : Int32)), .int (nI ev)])), (ah, .inl (cI, 24, .inl (filF hm ((-1 : Int32)) 24)))] := hD
  refine lv_aload_n hx hb d_Al_forget_13 rfl (lv_at hl 0 rfl) ?_
  refine lv_iconst (v := 0) hx hb d_Al_forget_14 (by decide) ?_
  refine va_put (D := (dC, dI)) (ci := 0) (v := .int ((0 : Int32))) (ty := .int) (C := R_Al) (T := T_Al) (N := 3) hx hb hg in_Al ty_Al tyok_Al nm_Al hown hK hP hD hS 0 rfl rfl 2 (by decide) (hg _ tw_91) (fun _ h9 => h9) rfl (by decide +kernel) rfl rfl (Nat.le_of_ble_eq_true rfl) d_Al_forget_15 (fun H locs hP hD hS => ?_)
  have hP : va_P (dC, dI) vwCl [(al, .inr (0, [.ref ah, .int ((0 : Int32)), .int ((0 : Int32))])), (ah, .inl (cI, 24, .inl (filF hm ((-1 : Int32)) 24)))] H := hP
  have hD : va_D A [(al, .inr (0, [.ref ah, .int ((0 : Int32)), .int ((0 : Int32))])), (ah, .inl (cI, 24, .inl (filF hm ((-1 : Int32)) 24)))] := hD
  have hP9 : va_P (dC, dI) vwCl [(al, .inr (0, [.ref ah, .int ((0 : Int32)), .int ((0 : Int32))])), (ah, .inl (cI, 24, .inl (filF hm (-1) 24)))] _ := hP.sub [0, 1] rfl
  have hD9 : va_D A [(al, .inr (0, [.ref ah, .int ((0 : Int32)), .int ((0 : Int32))])), (ah, .inl (cI, 24, .inl (filF hm (-1) 24)))] := hD.sub [0, 1] (by decide) rfl
  exact W.vret hx hb hr (fun t ht hW => ⟨⟨(), rfl, trivial, by rw [ht]; exact hP9, va_K.moved hW.alike hK, hD9⟩, hS.F ht⟩) hS.2.2 d_Al_forget_18

set_option maxHeartbeats 4000000 in
set_option maxRecDepth 100000 in
theorem c_Al_init (l : Launch) (dC : Nat → ClassId) (dI : Nat → Nat → Nat) (cI : ClassId) (al : Nat) (sz : Nat) : Met l y_Al_init ws_Al_init (lvR 1 1 24) (va_Pc [.ref al] (PM (dC, dI) vwCl [(al, .inr (0, [.null, .int ((0 : Int32)), .int ((0 : Int32))]))] [(cI, .int)] sz)) (va_Qv (fun _ : Nat => True) (MB (dC, dI) vwCl (fun (u9 : Nat) => [(al, .inr (0, [.ref u9, .int ((0 : Int32)), .int ((0 : Int32))])), (u9, .inl (cI, 24, .inl (filF (fun _ => 0) (-1) 24)))]) [(cI, .int)] (va_A [(al, .inr (0, [.null, .int ((0 : Int32)), .int ((0 : Int32))]))] sz)) (va_A [(al, .inr (0, [.null, .int ((0 : Int32)), .int ((0 : Int32))]))] sz)) 1 24 (va_A [(al, .inr (0, [.null, .int ((0 : Int32)), .int ((0 : Int32))]))] sz) := by
  refine Met.ofW (cc := b_Al_init) (maxL := 1) (ret := none) (by decide) rfl ?_
  intro p e s m args below meth c s₁ B hml hv
  obtain ⟨rfl, hsz, hP, hK, hD0⟩ := hv
  have hx := B.exec
  have hb := B.bytes
  have hr := B.returns
  have hts := atoms_spec (ws := ws_Al_init) B.pre
  have hg : ∀ w ∈ TG, w.before ([.ref al] : List Value).toArray s = true := fun w h => hts w (List.mem_cons_of_mem _ h)
  have hown : s.vm.findClass R_Al = some m.cls := findClass_of_methodNamed B.named
  have hlocks := B.notSynchronized
  have hin : meth.name = "<init>" := (name_of_methodNamed B.named B.method).1
  subst hsz
  have hD := hD0.self (sz := s.heap.size)
  generalize hAe : va_A [(al, .inr (0, [.null, .int ((0 : Int32)), .int ((0 : Int32))]))] s.heap.size = A at hD ⊢
  have hA : ∀ q : Nat, s.heap.size ≤ q → A q := fun q h => by rw [← hAe]; exact Or.inr h
  have hS : va_S A s.heap s.heap [] := va_S.rf
  have hl := lv_entry ([.ref al]) (n := 1) (Nat.le_of_ble_eq_true rfl)
  rw [lg_entry_eq]
  generalize (lg_sl ([.ref al]) ++ List.replicate (1 - (lg_sl ([.ref al])).length) Slot.unset).toArray = ls at hl ⊢
  have hl : lv_has ls 1 [(0, .ref al)] := hl
  refine lv_aload_n hx hb d_Al_init_0 rfl (lv_at hl 0 rfl) ?_
  refine W.objInit hx hb hown (hg _ tw_85) (hg _ tw_21) (hg _ tw_22) rfl (by rw [hml]; exact hl.1) rfl d_Al_init_1 (Nat.le_of_ble_eq_true rfl) (Nat.le_of_ble_eq_true rfl) ?_
  refine W.eq (g2 := F0 m 4 ls []) rfl ?_
  refine lv_aload_n hx hb d_Al_init_4 rfl (lv_at hl 0 rfl) ?_
  refine lv_bipush (v := 24) hx hb d_Al_init_5 (by decide) ?_
  refine wb_newI hx hb (hg _ tw_54) hK hP hD hS hA 24 rfl (by decide) (Nat.le_of_ble_eq_true rfl) (Nat.le_of_ble_eq_true rfl) d_Al_init_7 (fun q1 H hP hD hS => ?_)
  have hP : va_P (dC, dI) vwCl [(al, .inr (0, [.null, .int ((0 : Int32)), .int ((0 : Int32))])), (q1, .inl (cI, 24, .inl (fun _ => 0)))] H := hP
  have hD : va_D A [(al, .inr (0, [.null, .int ((0 : Int32)), .int ((0 : Int32))])), (q1, .inl (cI, 24, .inl (fun _ => 0)))] := hD
  refine W.widen (k := 1) (n := 24) (Nat.le_of_ble_eq_true rfl) (Nat.le_of_ble_eq_true rfl) ?_
  refine va_putF (D := (dC, dI)) (ci := 0) (v := .ref q1) (ty := .array .int) (C := R_Al) (T := T_Al) (N := 3) hx hb hg in_Al ty_Al tyok_Al nm_Al hown hK hP hD hS 0 rfl rfl 0 (by decide) (hg _ tw_89) (fun _ h9 => h9) rfl hin rfl (by decide +kernel) rfl rfl (Nat.le_of_ble_eq_true rfl) d_Al_init_9 (fun H locs hP hD hS => ?_)
  have hP : va_P (dC, dI) vwCl [(al, .inr (0, [.ref q1, .int ((0 : Int32)), .int ((0 : Int32))])), (q1, .inl (cI, 24, .inl (fun _ => 0)))] H := hP
  have hD : va_D A [(al, .inr (0, [.ref q1, .int ((0 : Int32)), .int ((0 : Int32))])), (q1, .inl (cI, 24, .inl (fun _ => 0)))] := hD
  refine lv_aload_n hx hb d_Al_init_12 rfl (lv_at hl 0 rfl) ?_
  refine va_get (D := (dC, dI)) (ci := 0) (v := .ref q1) (C := R_Al) (T := T_Al) (N := 3) hx hb hg in_Al hown hK hP 0 rfl rfl 0 (by decide) (hg _ tw_89) (fun _ h9 => h9) rfl d_Al_init_13 ?_
  refine lv_iconst (v := -1) hx hb d_Al_init_16 (by decide) ?_
  refine chSv (wr := [(al, .inr (0, [.ref q1, .int ((0 : Int32)), .int ((0 : Int32))]))]) (As := [.ref q1, .int ((-1 : Int32))]) (rest := []) ⟨hx, hb, hml, hown, hg⟩ (c_Ar_fill l dC dI cI q1 24 (fun _ => 0) ((-1 : Int32)) _ (by decide)) (va_cwS 2 hg (tg_S tw_86 tw_87 tw_5 tw_88) rfl rfl rfl (by decide +kernel) ⟨Nat.le_of_ble_eq_true rfl, Nat.le_of_ble_eq_true rfl⟩) (hK.sub [0] rfl) hP hD hS hA [1] [0] rfl rfl (by decide) (by decide) (by decide) rfl hl.1 rfl (lv_room (Nat.le_of_ble_eq_true rfl)) d_Al_init_17 ⟨Nat.le_of_ble_eq_true rfl, Nat.le_of_ble_eq_true rfl⟩ (fun u2 H locs w3 hP hD hS => ?_)
  have hP : va_P (dC, dI) vwCl [(al, .inr (0, [.ref q1, .int ((0 : Int32)), .int ((0 : Int32))])), (q1, .inl (cI, 24, .inl (filF (fun _ => 0) ((-1 : Int32)) 24)))] H := hP
  have hD : va_D A [(al, .inr (0, [.ref q1, .int ((0 : Int32)), .int ((0 : Int32))])), (q1, .inl (cI, 24, .inl (filF (fun _ => 0) ((-1 : Int32)) 24)))] := hD
  have hP9 : va_P (dC, dI) vwCl [(al, .inr (0, [.ref q1, .int ((0 : Int32)), .int ((0 : Int32))])), (q1, .inl (cI, 24, .inl (filF (fun _ => 0) (-1) 24)))] _ := hP.sub [0, 1] rfl
  have hD9 : va_D A [(al, .inr (0, [.ref q1, .int ((0 : Int32)), .int ((0 : Int32))])), (q1, .inl (cI, 24, .inl (filF (fun _ => 0) (-1) 24)))] := hD.sub [0, 1] (by decide) rfl
  refine W.widen (k := 1) (n := 24) (Nat.le_of_ble_eq_true rfl) (Nat.le_of_ble_eq_true rfl) ?_
  exact W.vret hx hb hr (fun t ht hW => ⟨⟨q1, rfl, trivial, by rw [ht]; exact hP9, va_K.moved hW.alike hK, hD9⟩, hS.F ht⟩) hS.2.2 d_Al_init_20
