/-! AllocForge$Allocation: counts over the homes, the price of slots -/
set_option maxHeartbeats 4000000 in
set_option maxRecDepth 100000 in
theorem c_Al_valuesAt (l : Launch) (dC : Nat → ClassId) (dI : Nat → Nat → Nat) (cI : ClassId) (al : Nat) (ah : Nat) (k : Nat) (ev : Nat) (hm : Nat → Int32) (x : Int32) : Met l y_Al_valuesAt ws_Al_valuesAt (lvR 0 0 0) (va_Pc [.ref al, .int x] (PB (dC, dI) vwCl [(al, .inr (0, [.ref ah, .int (nI k), .int (nI ev)])), (ah, .inl (cI, 24, .inl hm))] [(cI, .int)])) (vp_Si (fun r => r = nI (cnt hm x 24))) 0 0 (fun _ => False) := by
  refine Met.ofW (cc := b_Al_valuesAt) (maxL := 4) (ret := (some .int)) (by decide) rfl ?_
  intro p e s m args below meth c s₁ B hml hv
  obtain ⟨rfl, hP, hK⟩ := hv
  have hx := B.exec
  have hb := B.bytes
  have hr := B.returns
  have hts := atoms_spec (ws := ws_Al_valuesAt) B.pre
  have hg : ∀ w ∈ TG, w.before ([.ref al, .int x] : List Value).toArray s = true := fun w h => hts w (List.mem_cons_of_mem _ h)
  have hown : s.vm.findClass R_Al = some m.cls := findClass_of_methodNamed B.named
  have hlocks := B.notSynchronized
  have hl := lv_entry ([.ref al, .int x]) (n := 4) (Nat.le_of_ble_eq_true rfl)
  rw [lg_entry_eq]
  generalize (lg_sl ([.ref al, .int x]) ++ List.replicate (4 - (lg_sl ([.ref al, .int x])).length) Slot.unset).toArray = ls at hl ⊢
  have hl : lv_has ls 4 [(0, .ref al), (1, .int x)] := hl
  refine lv_iconst (v := 0) hx hb d_Al_valuesAt_0 (by decide) ?_
  refine lv_istore_n (lv' := [(2, .int ((0 : Int32))), (0, .ref al), (1, .int x)]) hx hb d_Al_valuesAt_1 rfl hl (by decide) rfl (fun ls hl => ?_)
  refine lv_iconst (v := 0) hx hb d_Al_valuesAt_2 (by decide) ?_
  refine lv_istore_n (lv' := [(3, .int ((0 : Int32))), (2, .int ((0 : Int32))), (0, .ref al), (1, .int x)]) hx hb d_Al_valuesAt_3 rfl hl (by decide) rfl (fun ls hl => ?_)
  refine wb_loopP (σ := Nat × Nat) 4 (fun x1 ls => lv_has ls 4 [(3, .int (nI x1.2)), (2, .int (nI x1.1)), (0, .ref al), (1, .int x)] ∧ (x1.2 ≤ 24) ∧ (x1.1 = cnt hm x x1.2)) (fun x1 => 25 - x1.2) ?_ (0, 0) ls ⟨lv_sub hl [0, 1, 2, 3] rfl, (by decide), rfl⟩
  clear hl
  intro x1 ls hI3 ih2
  obtain ⟨a, v⟩ := x1
  obtain ⟨hl, hv, ha⟩ := hI3
  have hl : lv_has ls 4 [(3, .int (nI v)), (2, .int (nI a)), (0, .ref al), (1, .int x)] := hl
  have hv : v ≤ 24 := hv
  have ha : a = cnt hm x v := ha
  refine lv_iload_n hx hb d_Al_valuesAt_4 rfl (lv_at hl 0 rfl) ?_
  refine lv_aload_n hx hb d_Al_valuesAt_5 rfl (lv_at hl 2 rfl) ?_
  refine va_get (D := (dC, dI)) (ci := 0) (v := .ref ah) (C := R_Al) (T := T_Al) (N := 3) hx hb hg in_Al hown hK hP 0 rfl rfl 0 (by decide) (hg _ tw_89) (fun _ h9 => h9) rfl d_Al_valuesAt_6 ?_
  refine va_alen (v := nI 24) hx hb hK hP 1 0 rfl rfl rfl d_Al_valuesAt_9 ?_
  refine wb_icmp_ge (tgt := 32) hx hb v 24 rfl rfl (by first | decide | exact Nat.lt_of_le_of_lt hv (by decide)) (by first | decide | exact Nat.lt_of_le_of_lt hv (by decide)) d_Al_valuesAt_10 (by decide) (fun c4 => ?_) (fun c4 => ?_)
  · refine lv_iload_n hx hb d_Al_valuesAt_32 rfl (lv_at hl 1 rfl) ?_
    exact W.iret (v := nI a) hx hb hr (fun t ht hW => ⟨_, rfl, (congrArg nI (ha.trans (congrArg (cnt hm x) (Nat.le_antisymm hv c4)))), ht⟩) (fun q h => by cases h) d_Al_valuesAt_33
  · refine lv_aload_n hx hb d_Al_valuesAt_13 rfl (lv_at hl 2 rfl) ?_
    refine va_get (D := (dC, dI)) (ci := 0) (v := .ref ah) (C := R_Al) (T := T_Al) (N := 3) hx hb hg in_Al hown hK hP 0 rfl rfl 0 (by decide) (hg _ tw_89) (fun _ h9 => h9) rfl d_Al_valuesAt_14 ?_
    refine lv_iload_n hx hb d_Al_valuesAt_17 rfl (lv_at hl 0 rfl) ?_
    refine wb_iald hx hb hK hP 1 0 rfl rfl v rfl c4 (by decide) d_Al_valuesAt_18 ?_
    refine lv_iload_n hx hb d_Al_valuesAt_19 rfl (lv_at hl 3 rfl) ?_
    refine lv_icmp_ne (tgt := 26) hx hb d_Al_valuesAt_20 (by decide) (fun c5 => ?_) (fun c5 => ?_)
    · refine lv_iinc (v := (nI (v + 1))) (lv' := [(3, .int (nI (v + 1))), (2, .int (nI a)), (0, .ref al), (1, .int x)]) hx hb d_Al_valuesAt_26 hl (k := 0) rfl (nI_add _ 1) (by decide) rfl (fun ls hl => ?_)
      refine lv_goto (tgt := 4) hx hb d_Al_valuesAt_29 (by decide) ?_
      exact ih2 (a, v + 1) ls ⟨lv_sub hl [0, 1, 2, 3] rfl, c4, (cnt_n ha c5)⟩ (by show 25 - (v + 1) < 25 - v; omega)
    · refine lv_iinc (v := (nI (a + 1))) (lv' := [(2, .int (nI (a + 1))), (3, .int (nI v)), (0, .ref al), (1, .int x)]) hx hb d_Al_valuesAt_23 hl (k := 1) rfl (nI_add _ 1) (by decide) rfl (fun ls hl => ?_)
      refine lv_iinc (v := (nI (v + 1))) (lv' := [(3, .int (nI (v + 1))), (2, .int (nI (a + 1))), (0, .ref al), (1, .int x)]) hx hb d_Al_valuesAt_26 hl (k := 1) rfl (nI_add _ 1) (by decide) rfl (fun ls hl => ?_)
      refine lv_goto (tgt := 4) hx hb d_Al_valuesAt_29 (by decide) ?_
      exact ih2 (a + 1, v + 1) ls ⟨lv_sub hl [0, 1, 2, 3] rfl, c4, (cnt_y ha c5)⟩ (by show 25 - (v + 1) < 25 - v; omega)

set_option maxHeartbeats 4000000 in
set_option maxRecDepth 100000 in
theorem c_Al_valuesFrom (l : Launch) (dC : Nat → ClassId) (dI : Nat → Nat → Nat) (cI : ClassId) (al : Nat) (ah : Nat) (k : Nat) (ev : Nat) (hm : Nat → Int32) (f : Nat) (g : Nat) (hfg : f + g ≤ 1000) : Met l y_Al_valuesFrom ws_Al_valuesFrom (lvR 1 0 0) (va_Pc [.ref al, .int (nI f), .int (nI g)] (PB (dC, dI) vwCl [(al, .inr (0, [.ref ah, .int (nI k), .int (nI ev)])), (ah, .inl (cI, 24, .inl hm))] [(cI, .int)])) (vp_Si (fun r => r = nI (vF hm f g))) 0 0 (fun _ => False) := by
  refine Met.ofW (cc := b_Al_valuesFrom) (maxL := 5) (ret := (some .int)) (by decide) rfl ?_
  intro p e s m args below meth c s₁ B hml hv
  obtain ⟨rfl, hP, hK⟩ := hv
  have hx := B.exec
  have hb := B.bytes
  have hr := B.returns
  have hts := atoms_spec (ws := ws_Al_valuesFrom) B.pre
  have hg : ∀ w ∈ TG, w.before ([.ref al, .int (nI f), .int (nI g)] : List Value).toArray s = true := fun w h => hts w (List.mem_cons_of_mem _ h)
  have hown : s.vm.findClass R_Al = some m.cls := findClass_of_methodNamed B.named
  have hlocks := B.notSynchronized
  have hl := lv_entry ([.ref al, .int (nI f), .int (nI g)]) (n := 5) (Nat.le_of_ble_eq_true rfl)
  rw [lg_entry_eq]
  generalize (lg_sl ([.ref al, .int (nI f), .int (nI g)]) ++ List.replicate (5 - (lg_sl ([.ref al, .int (nI f), .int (nI g)])).length) Slot.unset).toArray = ls at hl ⊢
  have hl : lv_has ls 5 [(0, .ref al), (1, .int (nI f)), (2, .int (nI g))] := hl
  refine lv_iconst (v := 0) hx hb d_Al_valuesFrom_0 (by decide) ?_
  refine lv_istore_n (lv' := [(3, .int ((0 : Int32))), (0, .ref al), (1, .int (nI f)), (2, .int (nI g))]) hx hb d_Al_valuesFrom_1 rfl hl (by decide) rfl (fun ls hl => ?_)
  refine lv_iload_n hx hb d_Al_valuesFrom_2 rfl (lv_at hl 2 rfl) ?_
  refine lv_istore (lv' := [(4, .int (nI f)), (3, .int ((0 : Int32))), (0, .ref al), (1, .int (nI f)), (2, .int (nI g))]) hx hb d_Al_valuesFrom_3 hl (by decide) rfl (fun ls hl => ?_)
  refine wb_loopP (σ := Nat × Nat) 5 (fun x1 ls => lv_has ls 5 [(4, .int (nI (f + x1.2))), (3, .int (nI x1.1)), (0, .ref al), (1, .int (nI f)), (2, .int (nI g))] ∧ (x1.2 ≤ g) ∧ (x1.1 = vF hm f x1.2)) (fun x1 => g - x1.2) ?_ (0, 0) ls ⟨lv_sub hl [0, 1, 2, 3, 4] rfl, (Nat.zero_le _), rfl⟩
  clear hl
  intro x1 ls hI3 ih2
  obtain ⟨a, i⟩ := x1
  obtain ⟨hl, hi, ha⟩ := hI3
  have hl : lv_has ls 5 [(4, .int (nI (f + i))), (3, .int (nI a)), (0, .ref al), (1, .int (nI f)), (2, .int (nI g))] := hl
  have hi : i ≤ g := hi
  have ha : a = vF hm f i := ha
  refine lv_iload hx hb d_Al_valuesFrom_5 (lv_at hl 0 rfl) ?_
  refine lv_iload_n hx hb d_Al_valuesFrom_7 rfl (lv_at hl 3 rfl) ?_
  refine lv_iload_n hx hb d_Al_valuesFrom_8 rfl (lv_at hl 4 rfl) ?_
  refine wb_iadd hx hb f g rfl rfl d_Al_valuesFrom_9 ?_
  refine wb_icmp_ge (tgt := 28) hx hb (f + i) (f + g) rfl rfl (by omega) (by omega) d_Al_valuesFrom_10 (by decide) (fun c4 => ?_) (fun c4 => ?_)
  · refine lv_iload_n hx hb d_Al_valuesFrom_28 rfl (lv_at hl 1 rfl) ?_
    exact W.iret (v := nI a) hx hb hr (fun t ht hW => ⟨_, rfl, (congrArg nI (ha.trans (congrArg (vF hm f) (Nat.le_antisymm hi (Nat.le_of_add_le_add_left c4))))), ht⟩) (fun q h => by cases h) d_Al_valuesFrom_29
  · refine lv_iload_n hx hb d_Al_valuesFrom_13 rfl (lv_at hl 1 rfl) ?_
    refine lv_aload_n hx hb d_Al_valuesFrom_14 rfl (lv_at hl 2 rfl) ?_
    refine lv_iload hx hb d_Al_valuesFrom_15 (lv_at hl 0 rfl) ?_
    refine rdV (ci := 0) (q0 := 0) (As := [.int (nI (f + i))]) (rest := [.int (nI a)]) ⟨hx, hb, hml, hown, hg⟩ (c_Al_valuesAt l dC dI cI al ah k ev hm (nI (f + i))) (cwV 1 hg (tg_V tw_320 tw_322 sp_Al_valuesAt tw_4 tw_323) rfl rfl rfl (by decide +kernel) ⟨Nat.le_of_ble_eq_true rfl, Nat.le_of_ble_eq_true rfl⟩) (hK.sub [0] rfl) (hP.sub [0, 1] rfl) rfl rfl rfl hl.1 rfl (lv_room (Nat.le_of_ble_eq_true rfl)) d_Al_valuesFrom_17 ⟨Nat.le_of_ble_eq_true rfl, Nat.le_of_ble_eq_true rfl⟩ ?_
    refine wb_iadd hx hb a (cnt hm (nI (f + i)) 24) rfl rfl d_Al_valuesFrom_20 ?_
    refine lv_istore_n (lv' := [(3, .int (nI (a + (cnt hm (nI (f + i)) 24)))), (4, .int (nI (f + i))), (0, .ref al), (1, .int (nI f)), (2, .int (nI g))]) hx hb d_Al_valuesFrom_21 rfl hl (by decide) rfl (fun ls hl => ?_)
    refine lv_iinc (v := (nI (f + i + 1))) (lv' := [(4, .int (nI (f + i + 1))), (3, .int (nI (a + (cnt hm (nI (f + i)) 24)))), (0, .ref al), (1, .int (nI f)), (2, .int (nI g))]) hx hb d_Al_valuesFrom_22 hl (k := 1) rfl (nI_add _ 1) (by decide) rfl (fun ls hl => ?_)
    refine lv_goto (tgt := 5) hx hb d_Al_valuesFrom_25 (by decide) ?_
    exact ih2 (a + (cnt hm (nI (f + i)) 24), i + 1) ls ⟨lv_sub hl [0, 1, 2, 3, 4] rfl, (Nat.lt_of_add_lt_add_left c4), (by rw [ha]; rfl)⟩ (by show g - (i + 1) < g - i; have := c4; omega)

set_option maxHeartbeats 4000000 in
set_option maxRecDepth 100000 in
theorem c_Al_homesUsed (l : Launch) (dC : Nat → ClassId) (dI : Nat → Nat → Nat) (cI : ClassId) (al : Nat) (ah : Nat) (k : Nat) (ev : Nat) (hm : Nat → Int32) (f : Nat) (g : Nat) (hfg : f + g ≤ 1000) : Met l y_Al_homesUsed ws_Al_homesUsed (lvR 1 0 0) (va_Pc [.ref al, .int (nI f), .int (nI g)] (PB (dC, dI) vwCl [(al, .inr (0, [.ref ah, .int (nI k), .int (nI ev)])), (ah, .inl (cI, 24, .inl hm))] [(cI, .int)])) (vp_Si (fun r => r = nI (hU hm f g))) 0 0 (fun _ => False) := by
  refine Met.ofW (cc := b_Al_homesUsed) (maxL := 5) (ret := (some .int)) (by decide) rfl ?_
  intro p e s m args below meth c s₁ B hml hv
  obtain ⟨rfl, hP, hK⟩ := hv
  have hx := B.exec
  have hb := B.bytes
  have hr := B.returns
  have hts := atoms_spec (ws := ws_Al_homesUsed) B.pre
  have hg : ∀ w ∈ TG, w.before ([.ref al, .int (nI f), .int (nI g)] : List Value).toArray s = true := fun w h => hts w (List.mem_cons_of_mem _ h)
  have hown : s.vm.findClass R_Al = some m.cls := findClass_of_methodNamed B.named
  have hlocks := B.notSynchronized
  have hl := lv_entry ([.ref al, .int (nI f), .int (nI g)]) (n := 5) (Nat.le_of_ble_eq_true rfl)
  rw [lg_entry_eq]
  generalize (lg_sl ([.ref al, .int (nI f), .int (nI g)]) ++ List.replicate (5 - (lg_sl ([.ref al, .int (nI f), .int (nI g)])).length) Slot.unset).toArray = ls at hl ⊢
  have hl : lv_has ls 5 [(0, .ref al), (1, .int (nI f)), (2, .int (nI g))] := hl
  refine lv_iconst (v := 0) hx hb d_Al_homesUsed_0 (by decide) ?_
  refine lv_istore_n (lv' := [(3, .int ((0 : Int32))), (0, .ref al), (1, .int (nI f)), (2, .int (nI g))]) hx hb d_Al_homesUsed_1 rfl hl (by decide) rfl (fun ls hl => ?_)
  refine lv_iload_n hx hb d_Al_homesUsed_2 rfl (lv_at hl 2 rfl) ?_
  refine lv_istore (lv' := [(4, .int (nI f)), (3, .int ((0 : Int32))), (0, .ref al), (1, .int (nI f)), (2, .int (nI g))]) hx hb d_Al_homesUsed_3 hl (by decide) rfl (fun ls hl => ?_)
  refine wb_loopP (σ := Nat × Nat) 5 (fun x1 ls => lv_has ls 5 [(4, .int (nI (f + x1.2))), (3, .int (nI x1.1)), (0, .ref al), (1, .int (nI f)), (2, .int (nI g))] ∧ (x1.2 ≤ g) ∧ (x1.1 = hU hm f x1.2)) (fun x1 => g - x1.2) ?_ (0, 0) ls ⟨lv_sub hl [0, 1, 2, 3, 4] rfl, (Nat.zero_le _), rfl⟩
  clear hl
  intro x1 ls hI3 ih2
  obtain ⟨a, i⟩ := x1
  obtain ⟨hl, hi, ha⟩ := hI3
  have hl : lv_has ls 5 [(4, .int (nI (f + i))), (3, .int (nI a)), (0, .ref al), (1, .int (nI f)), (2, .int (nI g))] := hl
  have hi : i ≤ g := hi
  have ha : a = hU hm f i := ha
  refine lv_iload hx hb d_Al_homesUsed_5 (lv_at hl 0 rfl) ?_
  refine lv_iload_n hx hb d_Al_homesUsed_7 rfl (lv_at hl 3 rfl) ?_
  refine lv_iload_n hx hb d_Al_homesUsed_8 rfl (lv_at hl 4 rfl) ?_
  refine wb_iadd hx hb f g rfl rfl d_Al_homesUsed_9 ?_
  refine wb_icmp_ge (tgt := 31) hx hb (f + i) (f + g) rfl rfl (by omega) (by omega) d_Al_homesUsed_10 (by decide) (fun c4 => ?_) (fun c4 => ?_)
  · refine lv_iload_n hx hb d_Al_homesUsed_31 rfl (lv_at hl 1 rfl) ?_
    exact W.iret (v := nI a) hx hb hr (fun t ht hW => ⟨_, rfl, (congrArg nI (ha.trans (congrArg (hU hm f) (Nat.le_antisymm hi (Nat.le_of_add_le_add_left c4))))), ht⟩) (fun q h => by cases h) d_Al_homesUsed_32
  · refine lv_aload_n hx hb d_Al_homesUsed_13 rfl (lv_at hl 2 rfl) ?_
    refine lv_iload hx hb d_Al_homesUsed_14 (lv_at hl 0 rfl) ?_
    refine rdV (ci := 0) (q0 := 0) (As := [.int (nI (f + i))]) (rest := []) ⟨hx, hb, hml, hown, hg⟩ (c_Al_valuesAt l dC dI cI al ah k ev hm (nI (f + i))) (cwV 1 hg (tg_V tw_320 tw_322 sp_Al_valuesAt tw_4 tw_323) rfl rfl rfl (by decide +kernel) ⟨Nat.le_of_ble_eq_true rfl, Nat.le_of_ble_eq_true rfl⟩) (hK.sub [0] rfl) (hP.sub [0, 1] rfl) rfl rfl rfl hl.1 rfl (lv_room (Nat.le_of_ble_eq_true rfl)) d_Al_homesUsed_16 ⟨Nat.le_of_ble_eq_true rfl, Nat.le_of_ble_eq_true rfl⟩ ?_
    refine lv_if_le (tgt := 25) hx hb d_Al_homesUsed_19 (by decide) (fun c5 => ?_) (fun c5 => ?_)
    · refine lv_iinc (v := (nI (f + i + 1))) (lv' := [(4, .int (nI (f + i + 1))), (3, .int (nI a)), (0, .ref al), (1, .int (nI f)), (2, .int (nI g))]) hx hb d_Al_homesUsed_25 hl (k := 0) rfl (nI_add _ 1) (by decide) rfl (fun ls hl => ?_)
      refine lv_goto (tgt := 5) hx hb d_Al_homesUsed_28 (by decide) ?_
      exact ih2 (a, i + 1) ls ⟨lv_sub hl [0, 1, 2, 3, 4] rfl, (Nat.lt_of_add_lt_add_left c4), (hU_n ha (fun q => absurd c5 (nI_nle q (Nat.lt_of_le_of_lt (cnt_le _ _ _) (by decide)))))⟩ (by show g - (i + 1) < g - i; have := c4; omega)
    · refine lv_iinc (v := (nI (a + 1))) (lv' := [(3, .int (nI (a + 1))), (4, .int (nI (f + i))), (0, .ref al), (1, .int (nI f)), (2, .int (nI g))]) hx hb d_Al_homesUsed_22 hl (k := 1) rfl (nI_add _ 1) (by decide) rfl (fun ls hl => ?_)
      refine lv_iinc (v := (nI (f + i + 1))) (lv' := [(4, .int (nI (f + i + 1))), (3, .int (nI (a + 1))), (0, .ref al), (1, .int (nI f)), (2, .int (nI g))]) hx hb d_Al_homesUsed_25 hl (k := 1) rfl (nI_add _ 1) (by decide) rfl (fun ls hl => ?_)
      refine lv_goto (tgt := 5) hx hb d_Al_homesUsed_28 (by decide) ?_
      exact ih2 (a + 1, i + 1) ls ⟨lv_sub hl [0, 1, 2, 3, 4] rfl, (Nat.lt_of_add_lt_add_left c4), (hU_y ha (Nat.pos_of_ne_zero (fun q => c5 (by rw [q]; decide))))⟩ (by show g - (i + 1) < g - i; have := c4; omega)

set_option maxHeartbeats 4000000 in
set_option maxRecDepth 100000 in
theorem c_Al_valuesInRegisters (l : Launch) (dC : Nat → ClassId) (dI : Nat → Nat → Nat) (cI : ClassId) (al : Nat) (ah : Nat) (k : Nat) (ev : Nat) (hm : Nat → Int32) : Met l y_Al_valuesInRegisters ws_Al_valuesInRegisters (lvR 2 0 0) (va_Pc [.ref al] (PB (dC, dI) vwCl [(al, .inr (0, [.ref ah, .int (nI k), .int (nI ev)])), (ah, .inl (cI, 24, .inl hm))] [(cI, .int)])) (vp_Si (fun r => r = nI (vF hm 0 5))) 0 0 (fun _ => False) := by
  refine Met.ofW (cc := b_Al_valuesInRegisters) (maxL := 1) (ret := (some .int)) (by decide) rfl ?_
  intro p e s m args below meth c s₁ B hml hv
  obtain ⟨rfl, hP, hK⟩ := hv
  have hx := B.exec
  have hb := B.bytes
  have hr := B.returns
  have hts := atoms_spec (ws := ws_Al_valuesInRegisters) B.pre
  have hg : ∀ w ∈ TG, w.before ([.ref al] : List Value).toArray s = true := fun w h => hts w (List.mem_cons_of_mem _ h)
  have hown : s.vm.findClass R_Al = some m.cls := findClass_of_methodNamed B.named
  have hlocks := B.notSynchronized
  have hl := lv_entry ([.ref al]) (n := 1) (Nat.le_of_ble_eq_true rfl)
  rw [lg_entry_eq]
  generalize (lg_sl ([.ref al]) ++ List.replicate (1 - (lg_sl ([.ref al])).length) Slot.unset).toArray = ls at hl ⊢
  have hl : lv_has ls 1 [(0, .ref al)] := hl
  refine lv_aload_n hx hb d_Al_valuesInRegisters_0 rfl (lv_at hl 0 rfl) ?_
  refine lv_iconst (v := 0) hx hb d_Al_valuesInRegisters_1 (by decide) ?_
  refine lv_iconst (v := 5) hx hb d_Al_valuesInRegisters_2 (by decide) ?_
  refine rdV (ci := 0) (q0 := 0) (As := [.int ((0 : Int32)), .int ((5 : Int32))]) (rest := []) ⟨hx, hb, hml, hown, hg⟩ (c_Al_valuesFrom l dC dI cI al ah k ev hm 0 5 (by decide)) (cwV 2 hg (tg_V tw_316 tw_318 sp_Al_valuesFrom tw_4 tw_319) rfl rfl rfl (by decide +kernel) ⟨Nat.le_of_ble_eq_true rfl, Nat.le_of_ble_eq_true rfl⟩) (hK.sub [0] rfl) (hP.sub [0, 1] rfl) rfl rfl rfl hl.1 rfl (lv_room (Nat.le_of_ble_eq_true rfl)) d_Al_valuesInRegisters_3 ⟨Nat.le_of_ble_eq_true rfl, Nat.le_of_ble_eq_true rfl⟩ ?_
  exact W.iret (v := nI (vF hm 0 5)) hx hb hr (fun t ht hW => ⟨_, rfl, rfl, ht⟩) (fun q h => by cases h) d_Al_valuesInRegisters_6

set_option maxHeartbeats 4000000 in
set_option maxRecDepth 100000 in
theorem c_Al_valuesInSlots (l : Launch) (dC : Nat → ClassId) (dI : Nat → Nat → Nat) (cI : ClassId) (al : Nat) (ah : Nat) (k : Nat) (ev : Nat) (hm : Nat → Int32) : Met l y_Al_valuesInSlots ws_Al_valuesInSlots (lvR 2 0 0) (va_Pc [.ref al] (PB (dC, dI) vwCl [(al, .inr (0, [.ref ah, .int (nI k), .int (nI ev)])), (ah, .inl (cI, 24, .inl hm))] [(cI, .int)])) (vp_Si (fun r => r = nI (vF hm 10 6))) 0 0 (fun _ => False) := by
  refine Met.ofW (cc := b_Al_valuesInSlots) (maxL := 1) (ret := (some .int)) (by decide) rfl ?_
  intro p e s m args below meth c s₁ B hml hv
  obtain ⟨rfl, hP, hK⟩ := hv
  have hx := B.exec
  have hb := B.bytes
  have hr := B.returns
  have hts := atoms_spec (ws := ws_Al_valuesInSlots) B.pre
  have hg : ∀ w ∈ TG, w.before ([.ref al] : List Value).toArray s = true := fun w h => hts w (List.mem_cons_of_mem _ h)
  have hown : s.vm.findClass R_Al = some m.cls := findClass_of_methodNamed B.named
  have hlocks := B.notSynchronized
  have hl := lv_entry ([.ref al]) (n := 1) (Nat.le_of_ble_eq_true rfl)
  rw [lg_entry_eq]
  generalize (lg_sl ([.ref al]) ++ List.replicate (1 - (lg_sl ([.ref al])).length) Slot.unset).toArray = ls at hl ⊢
  have hl : lv_has ls 1 [(0, .ref al)] := hl
  refine lv_aload_n hx hb d_Al_valuesInSlots_0 rfl (lv_at hl 0 rfl) ?_
  refine lv_bipush (v := 10) hx hb d_Al_valuesInSlots_1 (by decide) ?_
  refine lv_bipush (v := 6) hx hb d_Al_valuesInSlots_3 (by decide) ?_
  refine rdV (ci := 0) (q0 := 0) (As := [.int ((10 : Int32)), .int ((6 : Int32))]) (rest := []) ⟨hx, hb, hml, hown, hg⟩ (c_Al_valuesFrom l dC dI cI al ah k ev hm 10 6 (by decide)) (cwV 2 hg (tg_V tw_316 tw_318 sp_Al_valuesFrom tw_4 tw_319) rfl rfl rfl (by decide +kernel) ⟨Nat.le_of_ble_eq_true rfl, Nat.le_of_ble_eq_true rfl⟩) (hK.sub [0] rfl) (hP.sub [0, 1] rfl) rfl rfl rfl hl.1 rfl (lv_room (Nat.le_of_ble_eq_true rfl)) d_Al_valuesInSlots_5 ⟨Nat.le_of_ble_eq_true rfl, Nat.le_of_ble_eq_true rfl⟩ ?_
  exact W.iret (v := nI (vF hm 10 6)) hx hb hr (fun t ht hW => ⟨_, rfl, rfl, ht⟩) (fun q h => by cases h) d_Al_valuesInSlots_8

set_option maxHeartbeats 4000000 in
set_option maxRecDepth 100000 in
theorem c_Al_registersUsed (l : Launch) (dC : Nat → ClassId) (dI : Nat → Nat → Nat) (cI : ClassId) (al : Nat) (ah : Nat) (k : Nat) (ev : Nat) (hm : Nat → Int32) : Met l y_Al_registersUsed ws_Al_registersUsed (lvR 2 0 0) (va_Pc [.ref al] (PB (dC, dI) vwCl [(al, .inr (0, [.ref ah, .int (nI k), .int (nI ev)])), (ah, .inl (cI, 24, .inl hm))] [(cI, .int)])) (vp_Si (fun r => r = nI (hU hm 0 5))) 0 0 (fun _ => False) := by
  refine Met.ofW (cc := b_Al_registersUsed) (maxL := 1) (ret := (some .int)) (by decide) rfl ?_
  intro p e s m args below meth c s₁ B hml hv
  obtain ⟨rfl, hP, hK⟩ := hv
  have hx := B.exec
  have hb := B.bytes
  have hr := B.returns
  have hts := atoms_spec (ws := ws_Al_registersUsed) B.pre
  have hg : ∀ w ∈ TG, w.before ([.ref al] : List Value).toArray s = true := fun w h => hts w (List.mem_cons_of_mem _ h)
  have hown : s.vm.findClass R_Al = some m.cls := findClass_of_methodNamed B.named
  have hlocks := B.notSynchronized
  have hl := lv_entry ([.ref al]) (n := 1) (Nat.le_of_ble_eq_true rfl)
  rw [lg_entry_eq]
  generalize (lg_sl ([.ref al]) ++ List.replicate (1 - (lg_sl ([.ref al])).length) Slot.unset).toArray = ls at hl ⊢
  have hl : lv_has ls 1 [(0, .ref al)] := hl
  refine lv_aload_n hx hb d_Al_registersUsed_0 rfl (lv_at hl 0 rfl) ?_
  refine lv_iconst (v := 0) hx hb d_Al_registersUsed_1 (by decide) ?_
  refine lv_iconst (v := 5) hx hb d_Al_registersUsed_2 (by decide) ?_
  refine rdV (ci := 0) (q0 := 0) (As := [.int ((0 : Int32)), .int ((5 : Int32))]) (rest := []) ⟨hx, hb, hml, hown, hg⟩ (c_Al_homesUsed l dC dI cI al ah k ev hm 0 5 (by decide)) (cwV 2 hg (tg_V tw_555 tw_557 sp_Al_homesUsed tw_4 tw_558) rfl rfl rfl (by decide +kernel) ⟨Nat.le_of_ble_eq_true rfl, Nat.le_of_ble_eq_true rfl⟩) (hK.sub [0] rfl) (hP.sub [0, 1] rfl) rfl rfl rfl hl.1 rfl (lv_room (Nat.le_of_ble_eq_true rfl)) d_Al_registersUsed_3 ⟨Nat.le_of_ble_eq_true rfl, Nat.le_of_ble_eq_true rfl⟩ ?_
  exact W.iret (v := nI (hU hm 0 5)) hx hb hr (fun t ht hW => ⟨_, rfl, rfl, ht⟩) (fun q h => by cases h) d_Al_registersUsed_6

set_option maxHeartbeats 4000000 in
set_option maxRecDepth 100000 in
theorem c_Al_slotsUsed (l : Launch) (dC : Nat → ClassId) (dI : Nat → Nat → Nat) (cI : ClassId) (al : Nat) (ah : Nat) (k : Nat) (ev : Nat) (hm : Nat → Int32) : Met l y_Al_slotsUsed ws_Al_slotsUsed (lvR 2 0 0) (va_Pc [.ref al] (PB (dC, dI) vwCl [(al, .inr (0, [.ref ah, .int (nI k), .int (nI ev)])), (ah, .inl (cI, 24, .inl hm))] [(cI, .int)])) (vp_Si (fun r => r = nI (hU hm 10 6))) 0 0 (fun _ => False) := by
  refine Met.ofW (cc := b_Al_slotsUsed) (maxL := 1) (ret := (some .int)) (by decide) rfl ?_
  intro p e s m args below meth c s₁ B hml hv
  obtain ⟨rfl, hP, hK⟩ := hv
  have hx := B.exec
  have hb := B.bytes
  have hr := B.returns
  have hts := atoms_spec (ws := ws_Al_slotsUsed) B.pre
  have hg : ∀ w ∈ TG, w.before ([.ref al] : List Value).toArray s = true := fun w h => hts w (List.mem_cons_of_mem _ h)
  have hown : s.vm.findClass R_Al = some m.cls := findClass_of_methodNamed B.named
  have hlocks := B.notSynchronized
  have hl := lv_entry ([.ref al]) (n := 1) (Nat.le_of_ble_eq_true rfl)
  rw [lg_entry_eq]
  generalize (lg_sl ([.ref al]) ++ List.replicate (1 - (lg_sl ([.ref al])).length) Slot.unset).toArray = ls at hl ⊢
  have hl : lv_has ls 1 [(0, .ref al)] := hl
  refine lv_aload_n hx hb d_Al_slotsUsed_0 rfl (lv_at hl 0 rfl) ?_
  refine lv_bipush (v := 10) hx hb d_Al_slotsUsed_1 (by decide) ?_
  refine lv_bipush (v := 6) hx hb d_Al_slotsUsed_3 (by decide) ?_
  refine rdV (ci := 0) (q0 := 0) (As := [.int ((10 : Int32)), .int ((6 : Int32))]) (rest := []) ⟨hx, hb, hml, hown, hg⟩ (c_Al_homesUsed l dC dI cI al ah k ev hm 10 6 (by decide)) (cwV 2 hg (tg_V tw_555 tw_557 sp_Al_homesUsed tw_4 tw_558) rfl rfl rfl (by decide +kernel) ⟨Nat.le_of_ble_eq_true rfl, Nat.le_of_ble_eq_true rfl⟩) (hK.sub [0] rfl) (hP.sub [0, 1] rfl) rfl rfl rfl hl.1 rfl (lv_room (Nat.le_of_ble_eq_true rfl)) d_Al_slotsUsed_5 ⟨Nat.le_of_ble_eq_true rfl, Nat.le_of_ble_eq_true rfl⟩ ?_
  exact W.iret (v := nI (hU hm 10 6)) hx hb hr (fun t ht hW => ⟨_, rfl, rfl, ht⟩) (fun q h => by cases h) d_Al_slotsUsed_8
