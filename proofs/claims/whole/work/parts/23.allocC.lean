/-! AllocForge$Allocation with a code: longestWaiting, heaviestMeeting, priceOfSlots -/
set_option maxHeartbeats 4000000 in
set_option maxRecDepth 100000 in
theorem c_Al_priceOfSlots (l : Launch) (dC : Nat → ClassId) (dI : Nat → Nat → Nat) (cI : ClassId) (al : Nat) (ah : Nat) (k : Nat) (ev : Nat) (hm : Nat → Int32) (h : Nat) (o1 : Nat) (o2 : Nat) (o3 : Nat) (o4 : Nat) (o5 : Nat) (o6 : Nat) (n : Nat) (vc : Nat) (ops : Nat → Int32) (lf : Nat → Int32) (rg : Nat → Int32) (E : Nat → Nat) (U : Nat → Nat) (P : Nat → Nat) (hn : n ≤ 24) (hnn : ∀ j, j < n → ¬ hm j < 10 → vf_n64 (FP.dadd (ps P hm j) (FP.i2d (nI (P j))))) : Met l y_Al_priceOfSlots ws_Al_priceOfSlots (lvR 1 0 0) (va_Pc [.ref al, .ref h] (PB (dC, dI) vwCl [(al, .inr (0, [.ref ah, .int (nI k), .int (nI ev)])), (ah, .inl (cI, 24, .inl hm)), (h, .inr (1, [.ref o1, .ref o2, .ref o3, .ref o4, .ref o5, .ref o6, .int (nI n), .int (nI vc)])), (o1, .inl (cI, 24, .inl ops)), (o2, .inl (cI, 24, .inl lf)), (o3, .inl (cI, 24, .inl rg)), (o4, .inl (cI, 24, .inl (fun z9 => nI (E z9)))), (o5, .inl (cI, 24, .inl (fun z9 => nI (U z9)))), (o6, .inl (cI, 24, .inl (fun z9 => nI (P z9))))] [(cI, .int)])) (vp_Sd (fun r => r = ps P hm n)) 0 0 (fun _ => False) := by
  refine Met.ofW (cc := b_Al_priceOfSlots) (maxL := 5) (ret := (some .double)) (by decide) rfl ?_
  intro p e s m args below meth c s₁ B hml hv
  obtain ⟨rfl, hP, hK⟩ := hv
  have hx := B.exec
  have hb := B.bytes
  have hr := B.returns
  have hts := atoms_spec (ws := ws_Al_priceOfSlots) B.pre
  have hg : ∀ w ∈ TG, w.before ([.ref al, .ref h] : List Value).toArray s = true := fun w h => hts w (List.mem_cons_of_mem _ h)
  have hown : s.vm.findClass R_Al = some m.cls := findClass_of_methodNamed B.named
  have hlocks := B.notSynchronized
  have hl := lv_entry ([.ref al, .ref h]) (n := 5) (Nat.le_of_ble_eq_true rfl)
  rw [lg_entry_eq]
  generalize (lg_sl ([.ref al, .ref h]) ++ List.replicate (5 - (lg_sl ([.ref al, .ref h])).length) Slot.unset).toArray = ls at hl ⊢
  have hl : lv_has ls 5 [(0, .ref al), (1, .ref h)] := hl
  refine lv_dconst0 hx hb d_Al_priceOfSlots_0 ?_
  refine lv_dstore_n (lv' := [(2, .double FP.dconst0), (0, .ref al), (1, .ref h)]) hx hb d_Al_priceOfSlots_1 rfl hl (by decide) rfl (fun ls hl => ?_)
  refine lv_iconst (v := 0) hx hb d_Al_priceOfSlots_2 (by decide) ?_
  refine lv_istore (lv' := [(4, .int ((0 : Int32))), (2, .double FP.dconst0), (0, .ref al), (1, .ref h)]) hx hb d_Al_priceOfSlots_3 hl (by decide) rfl (fun ls hl => ?_)
  refine wb_loopP (σ := UInt64 × Nat) 5 (fun x1 ls => lv_has ls 5 [(4, .int (nI x1.2)), (2, .double x1.1), (0, .ref al), (1, .ref h)] ∧ (x1.2 ≤ n) ∧ (x1.1 = ps P hm x1.2)) (fun x1 => 25 - x1.2) ?_ (FP.dconst0, 0) ls ⟨lv_sub hl [0, 1, 2, 3] rfl, (Nat.zero_le _), rfl⟩
  clear hl
  intro x1 ls hI3 ih2
  obtain ⟨a, w⟩ := x1
  obtain ⟨hl, hw1, ha⟩ := hI3
  have hl : lv_has ls 5 [(4, .int (nI w)), (2, .double a), (0, .ref al), (1, .ref h)] := hl
  have hw1 : w ≤ n := hw1
  have ha : a = ps P hm w := ha
  refine lv_iload hx hb d_Al_priceOfSlots_5 (lv_at hl 0 rfl) ?_
  refine lv_aload_n hx hb d_Al_priceOfSlots_7 rfl (lv_at hl 3 rfl) ?_
  refine rdV (ci := 1) (q0 := 0) (As := []) (rest := [.int (nI w)]) ⟨hx, hb, hml, hown, hg⟩ (c_Co_size l dC dI cI h o1 o2 o3 o4 o5 o6 n vc ops lf rg E U P) (cwV 0 hg (tg_V tw_273 tw_126 tw_127 tw_2 tw_128) rfl rfl rfl (by decide +kernel) ⟨Nat.le_of_ble_eq_true rfl, Nat.le_of_ble_eq_true rfl⟩) (hK.sub [0] rfl) (hP.sub [2, 3, 4, 5, 6, 7, 8] rfl) rfl rfl rfl hl.1 rfl (lv_room (Nat.le_of_ble_eq_true rfl)) d_Al_priceOfSlots_8 ⟨Nat.le_of_ble_eq_true rfl, Nat.le_of_ble_eq_true rfl⟩ ?_
  refine wb_icmp_ge (tgt := 42) hx hb w n rfl rfl (by omega) (by omega) d_Al_priceOfSlots_11 (by decide) (fun c4 => ?_) (fun c4 => ?_)
  · refine lv_dload_n hx hb d_Al_priceOfSlots_42 rfl (lv_at hl 1 rfl) ?_
    exact W.dret (v := a) hx hb hr (fun t ht hW => ⟨_, rfl, (ha.trans (congrArg (ps P hm) (Nat.le_antisymm hw1 c4))), ht⟩) (fun q h => by cases h) d_Al_priceOfSlots_43
  · refine lv_aload_n hx hb d_Al_priceOfSlots_14 rfl (lv_at hl 2 rfl) ?_
    refine va_get (D := (dC, dI)) (ci := 0) (v := .ref ah) (C := R_Al) (T := T_Al) (N := 3) hx hb hg in_Al hown hK hP 0 rfl rfl 0 (by decide) (hg _ tw_89) (fun _ h9 => h9) rfl d_Al_priceOfSlots_15 ?_
    refine lv_iload hx hb d_Al_priceOfSlots_18 (lv_at hl 0 rfl) ?_
    refine wb_iald hx hb hK hP 1 0 rfl rfl w rfl (Nat.lt_of_lt_of_le c4 hn) (by decide) d_Al_priceOfSlots_20 ?_
    refine lv_bipush (v := 10) hx hb d_Al_priceOfSlots_21 (by decide) ?_
    refine lv_icmp_lt (tgt := 36) hx hb d_Al_priceOfSlots_23 (by decide) (fun c5 => ?_) (fun c5 => ?_)
    · refine lv_iinc (v := (nI (w + 1))) (lv' := [(4, .int (nI (w + 1))), (2, .double a), (0, .ref al), (1, .ref h)]) hx hb d_Al_priceOfSlots_36 hl (k := 0) rfl (nI_add _ 1) (by decide) rfl (fun ls hl => ?_)
      refine lv_goto (tgt := 5) hx hb d_Al_priceOfSlots_39 (by decide) ?_
      exact ih2 (a, w + 1) ls ⟨lv_sub hl [0, 1, 2, 3] rfl, c4, (ps_n ha c5)⟩ (by show 25 - (w + 1) < 25 - w; omega)
    · refine lv_dload_n hx hb d_Al_priceOfSlots_26 rfl (lv_at hl 1 rfl) ?_
      refine lv_aload_n hx hb d_Al_priceOfSlots_27 rfl (lv_at hl 3 rfl) ?_
      refine lv_iload hx hb d_Al_priceOfSlots_28 (lv_at hl 0 rfl) ?_
      refine rdV (ci := 1) (q0 := 0) (As := [.int (nI w)]) (rest := [.double a]) ⟨hx, hb, hml, hown, hg⟩ (c_Co_priceOf l dC dI cI h o1 o2 o3 o4 o5 o6 n vc ops lf rg E U P w (Nat.lt_of_lt_of_le c4 hn)) (cwV 1 hg (tg_V tw_407 tw_408 tw_409 tw_2 tw_410) rfl rfl rfl (by decide +kernel) ⟨Nat.le_of_ble_eq_true rfl, Nat.le_of_ble_eq_true rfl⟩) (hK.sub [0] rfl) (hP.sub [2, 3, 4, 5, 6, 7, 8] rfl) rfl rfl rfl hl.1 rfl (lv_room (Nat.le_of_ble_eq_true rfl)) d_Al_priceOfSlots_30 ⟨Nat.le_of_ble_eq_true rfl, Nat.le_of_ble_eq_true rfl⟩ ?_
      refine lv_i2d hx hb d_Al_priceOfSlots_33 ?_
      refine lv_dadd hx hb d_Al_priceOfSlots_34 (ha ▸ hnn w c4 c5) ?_
      refine lv_dstore_n (lv' := [(2, .double (FP.dadd a (FP.i2d (nI (P w))))), (4, .int (nI w)), (0, .ref al), (1, .ref h)]) hx hb d_Al_priceOfSlots_35 rfl hl (by decide) rfl (fun ls hl => ?_)
      refine lv_iinc (v := (nI (w + 1))) (lv' := [(4, .int (nI (w + 1))), (2, .double (FP.dadd a (FP.i2d (nI (P w))))), (0, .ref al), (1, .ref h)]) hx hb d_Al_priceOfSlots_36 hl (k := 1) rfl (nI_add _ 1) (by decide) rfl (fun ls hl => ?_)
      refine lv_goto (tgt := 5) hx hb d_Al_priceOfSlots_39 (by decide) ?_
      exact ih2 (FP.dadd a (FP.i2d (nI (P w))), w + 1) ls ⟨lv_sub hl [0, 1, 2, 3] rfl, c4, (ps_y ha c5)⟩ (by show 25 - (w + 1) < 25 - w; omega)

set_option maxHeartbeats 4000000 in
set_option maxRecDepth 100000 in
theorem c_Al_heaviestMeeting (l : Launch) (dC : Nat → ClassId) (dI : Nat → Nat → Nat) (cI : ClassId) (al : Nat) (ah : Nat) (k : Nat) (ev : Nat) (hm : Nat → Int32) (h : Nat) (o1 : Nat) (o2 : Nat) (o3 : Nat) (o4 : Nat) (o5 : Nat) (o6 : Nat) (n : Nat) (vc : Nat) (ops : Nat → Int32) (lf : Nat → Int32) (rg : Nat → Int32) (E : Nat → Nat) (U : Nat → Nat) (P : Nat → Nat) (v : Nat) (x : Int32) (hn : n ≤ 24) (hE24 : ∀ j, E j ≤ 24) (hwf : ∀ j, j < n → j < E j) (hv24 : v < 24) (hwn : ∀ j, j < n → hm j = x → vf_n64 (wt P E j)) : Met l y_Al_heaviestMeeting ws_Al_heaviestMeeting (lvR 2 0 0) (va_Pc [.ref al, .ref h, .int (nI v), .int x] (PB (dC, dI) vwCl [(al, .inr (0, [.ref ah, .int (nI k), .int (nI ev)])), (ah, .inl (cI, 24, .inl hm)), (h, .inr (1, [.ref o1, .ref o2, .ref o3, .ref o4, .ref o5, .ref o6, .int (nI n), .int (nI vc)])), (o1, .inl (cI, 24, .inl ops)), (o2, .inl (cI, 24, .inl lf)), (o3, .inl (cI, 24, .inl rg)), (o4, .inl (cI, 24, .inl (fun z9 => nI (E z9)))), (o5, .inl (cI, 24, .inl (fun z9 => nI (U z9)))), (o6, .inl (cI, 24, .inl (fun z9 => nI (P z9))))] [(cI, .int)])) (vp_Sd (fun r => r = hv E P hm v x n)) 0 0 (fun _ => False) := by
  refine Met.ofW (cc := b_Al_heaviestMeeting) (maxL := 7) (ret := (some .double)) (by decide) rfl ?_
  intro p e s m args below meth c s₁ B hml hv
  obtain ⟨rfl, hP, hK⟩ := hv
  have hx := B.exec
  have hb := B.bytes
  have hr := B.returns
  have hts := atoms_spec (ws := ws_Al_heaviestMeeting) B.pre
  have hg : ∀ w ∈ TG, w.before ([.ref al, .ref h, .int (nI v), .int x] : List Value).toArray s = true := fun w h => hts w (List.mem_cons_of_mem _ h)
  have hown : s.vm.findClass R_Al = some m.cls := findClass_of_methodNamed B.named
  have hlocks := B.notSynchronized
  have hl := lv_entry ([.ref al, .ref h, .int (nI v), .int x]) (n := 7) (Nat.le_of_ble_eq_true rfl)
  rw [lg_entry_eq]
  generalize (lg_sl ([.ref al, .ref h, .int (nI v), .int x]) ++ List.replicate (7 - (lg_sl ([.ref al, .ref h, .int (nI v), .int x])).length) Slot.unset).toArray = ls at hl ⊢
  have hl : lv_has ls 7 [(0, .ref al), (1, .ref h), (2, .int (nI v)), (3, .int x)] := hl
  refine lv_dconst0 hx hb d_Al_heaviestMeeting_0 ?_
  refine lv_dstore (lv' := [(4, .double FP.dconst0), (0, .ref al), (1, .ref h), (2, .int (nI v)), (3, .int x)]) hx hb d_Al_heaviestMeeting_1 hl (by decide) rfl (fun ls hl => ?_)
  refine lv_iconst (v := 0) hx hb d_Al_heaviestMeeting_3 (by decide) ?_
  refine lv_istore (lv' := [(6, .int ((0 : Int32))), (4, .double FP.dconst0), (0, .ref al), (1, .ref h), (2, .int (nI v)), (3, .int x)]) hx hb d_Al_heaviestMeeting_4 hl (by decide) rfl (fun ls hl => ?_)
  refine wb_loopP (σ := UInt64 × Nat) 6 (fun x1 ls => lv_has ls 7 [(6, .int (nI x1.2)), (4, .double x1.1), (0, .ref al), (1, .ref h), (2, .int (nI v)), (3, .int x)] ∧ (x1.2 ≤ n) ∧ (x1.1 = hv E P hm v x x1.2)) (fun x1 => 25 - x1.2) ?_ (FP.dconst0, 0) ls ⟨lv_sub hl [0, 1, 2, 3, 4, 5] rfl, (Nat.zero_le _), rfl⟩
  clear hl
  intro x1 ls hI3 ih2
  obtain ⟨a, w⟩ := x1
  obtain ⟨hl, hw1, ha⟩ := hI3
  have hl : lv_has ls 7 [(6, .int (nI w)), (4, .double a), (0, .ref al), (1, .ref h), (2, .int (nI v)), (3, .int x)] := hl
  have hw1 : w ≤ n := hw1
  have ha : a = hv E P hm v x w := ha
  refine lv_iload hx hb d_Al_heaviestMeeting_6 (lv_at hl 0 rfl) ?_
  refine lv_aload_n hx hb d_Al_heaviestMeeting_8 rfl (lv_at hl 3 rfl) ?_
  refine rdV (ci := 1) (q0 := 0) (As := []) (rest := [.int (nI w)]) ⟨hx, hb, hml, hown, hg⟩ (c_Co_size l dC dI cI h o1 o2 o3 o4 o5 o6 n vc ops lf rg E U P) (cwV 0 hg (tg_V tw_273 tw_126 tw_127 tw_2 tw_128) rfl rfl rfl (by decide +kernel) ⟨Nat.le_of_ble_eq_true rfl, Nat.le_of_ble_eq_true rfl⟩) (hK.sub [0] rfl) (hP.sub [2, 3, 4, 5, 6, 7, 8] rfl) rfl rfl rfl hl.1 rfl (lv_room (Nat.le_of_ble_eq_true rfl)) d_Al_heaviestMeeting_9 ⟨Nat.le_of_ble_eq_true rfl, Nat.le_of_ble_eq_true rfl⟩ ?_
  refine wb_icmp_ge (tgt := 62) hx hb w n rfl rfl (by omega) (by omega) d_Al_heaviestMeeting_12 (by decide) (fun c4 => ?_) (fun c4 => ?_)
  · refine lv_dload hx hb d_Al_heaviestMeeting_62 (lv_at hl 1 rfl) ?_
    exact W.dret (v := a) hx hb hr (fun t ht hW => ⟨_, rfl, (ha.trans (congrArg (hv E P hm v x) (Nat.le_antisymm hw1 c4))), ht⟩) (fun q h => by cases h) d_Al_heaviestMeeting_64
  · refine lv_aload_n hx hb d_Al_heaviestMeeting_15 rfl (lv_at hl 2 rfl) ?_
    refine va_get (D := (dC, dI)) (ci := 0) (v := .ref ah) (C := R_Al) (T := T_Al) (N := 3) hx hb hg in_Al hown hK hP 0 rfl rfl 0 (by decide) (hg _ tw_89) (fun _ h9 => h9) rfl d_Al_heaviestMeeting_16 ?_
    refine lv_iload hx hb d_Al_heaviestMeeting_19 (lv_at hl 0 rfl) ?_
    refine wb_iald hx hb hK hP 1 0 rfl rfl w rfl (Nat.lt_of_lt_of_le c4 hn) (by decide) d_Al_heaviestMeeting_21 ?_
    refine lv_iload_n hx hb d_Al_heaviestMeeting_22 rfl (lv_at hl 5 rfl) ?_
    refine lv_icmp_ne (tgt := 56) hx hb d_Al_heaviestMeeting_23 (by decide) (fun c5 => ?_) (fun c5 => ?_)
    · refine lv_iinc (v := (nI (w + 1))) (lv' := [(6, .int (nI (w + 1))), (4, .double a), (0, .ref al), (1, .ref h), (2, .int (nI v)), (3, .int x)]) hx hb d_Al_heaviestMeeting_56 hl (k := 0) rfl (nI_add _ 1) (by decide) rfl (fun ls hl => ?_)
      refine lv_goto (tgt := 6) hx hb d_Al_heaviestMeeting_59 (by decide) ?_
      exact ih2 (a, w + 1) ls ⟨lv_sub hl [0, 1, 2, 3, 4, 5] rfl, c4, (hv_n ha (Or.inl c5))⟩ (by show 25 - (w + 1) < 25 - w; omega)
    · refine lv_aload_n hx hb d_Al_heaviestMeeting_26 rfl (lv_at hl 3 rfl) ?_
      refine lv_iload_n hx hb d_Al_heaviestMeeting_27 rfl (lv_at hl 4 rfl) ?_
      refine lv_iload hx hb d_Al_heaviestMeeting_28 (lv_at hl 0 rfl) ?_
      refine rdV (ci := 1) (q0 := 0) (As := [.int (nI v), .int (nI w)]) (rest := []) ⟨hx, hb, hml, hown, hg⟩ (c_Co_meet l dC dI cI h o1 o2 o3 o4 o5 o6 n vc ops lf rg E U P v w hv24 (Nat.lt_of_lt_of_le c4 hn) (hE24 _) (hE24 _)) (cwV 2 hg (tg_V tw_299 tw_300 tw_301 tw_2 tw_302) rfl rfl rfl (by decide +kernel) ⟨Nat.le_of_ble_eq_true rfl, Nat.le_of_ble_eq_true rfl⟩) (hK.sub [0] rfl) (hP.sub [2, 3, 4, 5, 6, 7, 8] rfl) rfl rfl rfl hl.1 rfl (lv_room (Nat.le_of_ble_eq_true rfl)) d_Al_heaviestMeeting_30 ⟨Nat.le_of_ble_eq_true rfl, Nat.le_of_ble_eq_true rfl⟩ ?_
      refine wb_if_eqb (tgt := 56) hx hb (mt E v w) rfl d_Al_heaviestMeeting_33 (by decide) (fun c6 => ?_) (fun c6 => ?_)
      · refine lv_iinc (v := (nI (w + 1))) (lv' := [(6, .int (nI (w + 1))), (4, .double a), (0, .ref al), (1, .ref h), (2, .int (nI v)), (3, .int x)]) hx hb d_Al_heaviestMeeting_56 hl (k := 0) rfl (nI_add _ 1) (by decide) rfl (fun ls hl => ?_)
        refine lv_goto (tgt := 6) hx hb d_Al_heaviestMeeting_59 (by decide) ?_
        exact ih2 (a, w + 1) ls ⟨lv_sub hl [0, 1, 2, 3, 4, 5] rfl, c4, (hv_n ha (Or.inr (Or.inl c6)))⟩ (by show 25 - (w + 1) < 25 - w; omega)
      · refine lv_aload_n hx hb d_Al_heaviestMeeting_36 rfl (lv_at hl 3 rfl) ?_
        refine lv_iload hx hb d_Al_heaviestMeeting_37 (lv_at hl 0 rfl) ?_
        refine rdVd (ci := 1) (q0 := 0) (As := [.int (nI w)]) (rest := []) ⟨hx, hb, hml, hown, hg⟩ (c_Co_weightOf l dC dI cI h o1 o2 o3 o4 o5 o6 n vc ops lf rg E U P w (Nat.lt_of_lt_of_le c4 hn) (Nat.le_of_lt (hwf w c4)) (hwn w c4 c5)) (cwV 1 hg (tg_V tw_290 tw_291 tw_292 tw_2 tw_293) rfl rfl rfl (by decide +kernel) ⟨Nat.le_of_ble_eq_true rfl, Nat.le_of_ble_eq_true rfl⟩) (hK.sub [0] rfl) (hP.sub [2, 3, 4, 5, 6, 7, 8] rfl) rfl rfl rfl hl.1 rfl (lv_room (Nat.le_of_ble_eq_true rfl)) d_Al_heaviestMeeting_39 ⟨Nat.le_of_ble_eq_true rfl, Nat.le_of_ble_eq_true rfl⟩ ?_
        refine lv_dload hx hb d_Al_heaviestMeeting_42 (lv_at hl 1 rfl) ?_
        refine lv_dcmp hx hb d_Al_heaviestMeeting_44 ?_
        refine lv_if_le (tgt := 56) hx hb d_Al_heaviestMeeting_45 (by decide) (fun c7 => ?_) (fun c7 => ?_)
        · refine lv_iinc (v := (nI (w + 1))) (lv' := [(6, .int (nI (w + 1))), (4, .double a), (0, .ref al), (1, .ref h), (2, .int (nI v)), (3, .int x)]) hx hb d_Al_heaviestMeeting_56 hl (k := 0) rfl (nI_add _ 1) (by decide) rfl (fun ls hl => ?_)
          refine lv_goto (tgt := 6) hx hb d_Al_heaviestMeeting_59 (by decide) ?_
          exact ih2 (a, w + 1) ls ⟨lv_sub hl [0, 1, 2, 3, 4, 5] rfl, c4, (hv_n ha (Or.inr (Or.inr (dgt_n c7))))⟩ (by show 25 - (w + 1) < 25 - w; omega)
        · refine lv_aload_n hx hb d_Al_heaviestMeeting_48 rfl (lv_at hl 3 rfl) ?_
          refine lv_iload hx hb d_Al_heaviestMeeting_49 (lv_at hl 0 rfl) ?_
          refine rdVd (ci := 1) (q0 := 0) (As := [.int (nI w)]) (rest := []) ⟨hx, hb, hml, hown, hg⟩ (c_Co_weightOf l dC dI cI h o1 o2 o3 o4 o5 o6 n vc ops lf rg E U P w (Nat.lt_of_lt_of_le c4 hn) (Nat.le_of_lt (hwf w c4)) (hwn w c4 c5)) (cwV 1 hg (tg_V tw_290 tw_291 tw_292 tw_2 tw_293) rfl rfl rfl (by decide +kernel) ⟨Nat.le_of_ble_eq_true rfl, Nat.le_of_ble_eq_true rfl⟩) (hK.sub [0] rfl) (hP.sub [2, 3, 4, 5, 6, 7, 8] rfl) rfl rfl rfl hl.1 rfl (lv_room (Nat.le_of_ble_eq_true rfl)) d_Al_heaviestMeeting_51 ⟨Nat.le_of_ble_eq_true rfl, Nat.le_of_ble_eq_true rfl⟩ ?_
          refine lv_dstore (lv' := [(4, .double (wt P E w)), (6, .int (nI w)), (0, .ref al), (1, .ref h), (2, .int (nI v)), (3, .int x)]) hx hb d_Al_heaviestMeeting_54 hl (by decide) rfl (fun ls hl => ?_)
          refine lv_iinc (v := (nI (w + 1))) (lv' := [(6, .int (nI (w + 1))), (4, .double (wt P E w)), (0, .ref al), (1, .ref h), (2, .int (nI v)), (3, .int x)]) hx hb d_Al_heaviestMeeting_56 hl (k := 1) rfl (nI_add _ 1) (by decide) rfl (fun ls hl => ?_)
          refine lv_goto (tgt := 6) hx hb d_Al_heaviestMeeting_59 (by decide) ?_
          exact ih2 (wt P E w, w + 1) ls ⟨lv_sub hl [0, 1, 2, 3, 4, 5] rfl, c4, (hv_y ha c5 c6 (dgt_of c7))⟩ (by show 25 - (w + 1) < 25 - w; omega)
