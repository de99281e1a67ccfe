/-! AllocForge$Code: weightOf, isCrossed, othersMeeting -/
set_option maxHeartbeats 4000000 in
set_option maxRecDepth 100000 in
theorem c_Co_weightOf (l : Launch) (dC : Nat → ClassId) (dI : Nat → Nat → Nat) (cI : ClassId) (h : Nat) (o1 : Nat) (o2 : Nat) (o3 : Nat) (o4 : Nat) (o5 : Nat) (o6 : Nat) (n : Nat) (vc : Nat) (ops : Nat → Int32) (lf : Nat → Int32) (rg : Nat → Int32) (E : Nat → Nat) (U : Nat → Nat) (P : Nat → Nat) (i : Nat) (hi : i < 24) (hE : i ≤ E i) (hw : vf_n64 (wt P E i)) : Met l y_Co_weightOf ws_Co_weightOf (lvR 1 0 0) (va_Pc [.ref h, .int (nI i)] (PB (dC, dI) vwCl [(h, .inr (1, [.ref o1, .ref o2, .ref o3, .ref o4, .ref o5, .ref o6, .int (nI n), .int (nI vc)])), (o1, .inl (cI, 24, .inl ops)), (o2, .inl (cI, 24, .inl lf)), (o3, .inl (cI, 24, .inl rg)), (o4, .inl (cI, 24, .inl (fun z9 => nI (E z9)))), (o5, .inl (cI, 24, .inl (fun z9 => nI (U z9)))), (o6, .inl (cI, 24, .inl (fun z9 => nI (P z9))))] [(cI, .int)])) (vp_Sd (fun r => r = wt P E i)) 0 0 (fun _ => False) := by
  refine Met.ofW (cc := b_Co_weightOf) (maxL := 2) (ret := (some .double)) (by decide) rfl ?_
  intro p e s m args below meth c s₁ B hml hv
  obtain ⟨rfl, hP, hK⟩ := hv
  have hx := B.exec
  have hb := B.bytes
  have hr := B.returns
  have hts := atoms_spec (ws := ws_Co_weightOf) B.pre
  have hg : ∀ w ∈ TG, w.before ([.ref h, .int (nI i)] : List Value).toArray s = true := fun w h => hts w (List.mem_cons_of_mem _ h)
  have hown : s.vm.findClass R_Co = some m.cls := findClass_of_methodNamed B.named
  have hlocks := B.notSynchronized
  have hl := lv_entry ([.ref h, .int (nI i)]) (n := 2) (Nat.le_of_ble_eq_true rfl)
  rw [lg_entry_eq]
  generalize (lg_sl ([.ref h, .int (nI i)]) ++ List.replicate (2 - (lg_sl ([.ref h, .int (nI i)])).length) Slot.unset).toArray = ls at hl ⊢
  have hl : lv_has ls 2 [(0, .ref h), (1, .int (nI i))] := hl
  refine lv_aload_n hx hb d_Co_weightOf_0 rfl (lv_at hl 0 rfl) ?_
  refine va_get (D := (dC, dI)) (ci := 1) (v := .ref o6) (C := R_Co) (T := T_Co) (N := 8) hx hb hg in_Co hown hK hP 0 rfl rfl 5 (by decide) (hg _ tw_34) (fun _ h9 => h9) rfl d_Co_weightOf_1 ?_
  refine lv_iload_n hx hb d_Co_weightOf_4 rfl (lv_at hl 1 rfl) ?_
  refine wb_iald hx hb hK hP 6 0 rfl rfl i rfl hi (by decide) d_Co_weightOf_5 ?_
  refine lv_i2d hx hb d_Co_weightOf_6 ?_
  refine lv_aload_n hx hb d_Co_weightOf_7 rfl (lv_at hl 0 rfl) ?_
  refine lv_iload_n hx hb d_Co_weightOf_8 rfl (lv_at hl 1 rfl) ?_
  refine rdV (ci := 1) (q0 := 0) (As := [.int (nI i)]) (rest := [.double (FP.i2d (nI (P i)))]) ⟨hx, hb, hml, hown, hg⟩ (c_Co_lengthOf l dC dI cI h o1 o2 o3 o4 o5 o6 n vc ops lf rg E U P i hi hE) (cwV 1 hg (tg_V tw_294 tw_276 tw_277 tw_2 tw_278) rfl rfl rfl (by decide +kernel) ⟨Nat.le_of_ble_eq_true rfl, Nat.le_of_ble_eq_true rfl⟩) (hK.sub [0] rfl) (hP.sub [0, 1, 2, 3, 4, 5, 6] rfl) rfl rfl rfl hl.1 rfl (lv_room (Nat.le_of_ble_eq_true rfl)) d_Co_weightOf_9 ⟨Nat.le_of_ble_eq_true rfl, Nat.le_of_ble_eq_true rfl⟩ ?_
  refine lv_i2d hx hb d_Co_weightOf_12 ?_
  refine lv_ddiv hx hb d_Co_weightOf_13 hw ?_
  exact W.dret (v := FP.ddiv (FP.i2d (nI (P i))) (FP.i2d (nI (E i - i)))) hx hb hr (fun t ht hW => ⟨_, rfl, rfl, ht⟩) (fun q h => by cases h) d_Co_weightOf_14

set_option maxHeartbeats 4000000 in
set_option maxRecDepth 100000 in
theorem c_Co_isCrossed (l : Launch) (dC : Nat → ClassId) (dI : Nat → Nat → Nat) (cI : ClassId) (h : Nat) (o1 : Nat) (o2 : Nat) (o3 : Nat) (o4 : Nat) (o5 : Nat) (o6 : Nat) (n : Nat) (vc : Nat) (ops : Nat → Int32) (lf : Nat → Int32) (rg : Nat → Int32) (E : Nat → Nat) (U : Nat → Nat) (P : Nat → Nat) (v : Nat) (hn : n ≤ 24) (hE24 : ∀ j, E j ≤ 24) (hv : v < 24) : Met l y_Co_isCrossed ws_Co_isCrossed (lvR 0 0 0) (va_Pc [.ref h, .int (nI v)] (PB (dC, dI) vwCl [(h, .inr (1, [.ref o1, .ref o2, .ref o3, .ref o4, .ref o5, .ref o6, .int (nI n), .int (nI vc)])), (o1, .inl (cI, 24, .inl ops)), (o2, .inl (cI, 24, .inl lf)), (o3, .inl (cI, 24, .inl rg)), (o4, .inl (cI, 24, .inl (fun z9 => nI (E z9)))), (o5, .inl (cI, 24, .inl (fun z9 => nI (U z9)))), (o6, .inl (cI, 24, .inl (fun z9 => nI (P z9))))] [(cI, .int)])) (vp_Si (fun r => r = bI (cr ops E n v))) 0 0 (fun _ => False) := by
  refine Met.ofW (cc := b_Co_isCrossed) (maxL := 3) (ret := (some .boolean)) (by decide) rfl ?_
  intro p e s m args below meth c s₁ B hml hv
  obtain ⟨rfl, hP, hK⟩ := hv
  have hx := B.exec
  have hb := B.bytes
  have hr := B.returns
  have hts := atoms_spec (ws := ws_Co_isCrossed) B.pre
  have hg : ∀ w ∈ TG, w.before ([.ref h, .int (nI v)] : List Value).toArray s = true := fun w h => hts w (List.mem_cons_of_mem _ h)
  have hown : s.vm.findClass R_Co = some m.cls := findClass_of_methodNamed B.named
  have hlocks := B.notSynchronized
  have hl := lv_entry ([.ref h, .int (nI v)]) (n := 3) (Nat.le_of_ble_eq_true rfl)
  rw [lg_entry_eq]
  generalize (lg_sl ([.ref h, .int (nI v)]) ++ List.replicate (3 - (lg_sl ([.ref h, .int (nI v)])).length) Slot.unset).toArray = ls at hl ⊢
  have hl : lv_has ls 3 [(0, .ref h), (1, .int (nI v))] := hl
  refine lv_iload_n hx hb d_Co_isCrossed_0 rfl (lv_at hl 1 rfl) ?_
  refine lv_iconst (v := 1) hx hb d_Co_isCrossed_1 (by decide) ?_
  refine wb_iadd hx hb v 1 rfl rfl d_Co_isCrossed_2 ?_
  refine lv_istore_n (lv' := [(2, .int (nI (v + 1))), (0, .ref h), (1, .int (nI v))]) hx hb d_Co_isCrossed_3 rfl hl (by decide) rfl (fun ls hl => ?_)
  refine wb_loopP (σ := Nat) 4 (fun i ls => lv_has ls 3 [(2, .int (nI i)), (0, .ref h), (1, .int (nI v))] ∧ (i ≤ 24) ∧ (crx ops (v + 1) (min (E v) n - (v + 1)) = crx ops i (min (E v) n - i))) (fun i => 25 - i) ?_ ((v + 1)) ls ⟨lv_sub hl [0, 1, 2] rfl, hv, rfl⟩
  clear hl
  intro i ls hI2 ih1
  obtain ⟨hl, hi2, hc⟩ := hI2
  refine lv_iload_n hx hb d_Co_isCrossed_4 rfl (lv_at hl 0 rfl) ?_
  refine lv_aload_n hx hb d_Co_isCrossed_5 rfl (lv_at hl 1 rfl) ?_
  refine va_get (D := (dC, dI)) (ci := 1) (v := .ref o4) (C := R_Co) (T := T_Co) (N := 8) hx hb hg in_Co hown hK hP 0 rfl rfl 3 (by decide) (hg _ tw_32) (fun _ h9 => h9) rfl d_Co_isCrossed_6 ?_
  refine lv_iload_n hx hb d_Co_isCrossed_9 rfl (lv_at hl 2 rfl) ?_
  refine wb_iald hx hb hK hP 4 0 rfl rfl v rfl hv (by decide) d_Co_isCrossed_10 ?_
  refine wb_icmp_ge (tgt := 41) hx hb i (E v) rfl rfl (by first | exact Nat.lt_of_le_of_lt hi2 (by decide) | exact Nat.lt_of_le_of_lt hn (by decide) | exact Nat.lt_of_le_of_lt (hE24 _) (by decide)) (by first | exact Nat.lt_of_le_of_lt hi2 (by decide) | exact Nat.lt_of_le_of_lt hn (by decide) | exact Nat.lt_of_le_of_lt (hE24 _) (by decide)) d_Co_isCrossed_11 (by decide) (fun c3 => ?_) (fun c3 => ?_)
  · refine lv_iconst (v := 0) hx hb d_Co_isCrossed_41 (by decide) ?_
    exact W.zret (v := (0 : Int32)) (ty := .boolean) hx hb hr rfl (fun t ht hW => ⟨_, rfl, (bI0 (hc.trans (crx_end (Nat.le_trans (Nat.min_le_left _ _) c3)))), ht⟩) (fun q h => by cases h) d_Co_isCrossed_42
  · refine lv_iload_n hx hb d_Co_isCrossed_14 rfl (lv_at hl 0 rfl) ?_
    refine lv_aload_n hx hb d_Co_isCrossed_15 rfl (lv_at hl 1 rfl) ?_
    refine va_get (D := (dC, dI)) (ci := 1) (v := .int (nI n)) (C := R_Co) (T := T_Co) (N := 8) hx hb hg in_Co hown hK hP 0 rfl rfl 6 (by decide) (hg _ tw_35) (fun _ h9 => h9) rfl d_Co_isCrossed_16 ?_
    refine wb_icmp_ge (tgt := 41) hx hb i n rfl rfl (by first | exact Nat.lt_of_le_of_lt hi2 (by decide) | exact Nat.lt_of_le_of_lt hn (by decide) | exact Nat.lt_of_le_of_lt (hE24 _) (by decide)) (by first | exact Nat.lt_of_le_of_lt hi2 (by decide) | exact Nat.lt_of_le_of_lt hn (by decide) | exact Nat.lt_of_le_of_lt (hE24 _) (by decide)) d_Co_isCrossed_19 (by decide) (fun c4 => ?_) (fun c4 => ?_)
    · refine lv_iconst (v := 0) hx hb d_Co_isCrossed_41 (by decide) ?_
      exact W.zret (v := (0 : Int32)) (ty := .boolean) hx hb hr rfl (fun t ht hW => ⟨_, rfl, (bI0 (hc.trans (crx_end (Nat.le_trans (Nat.min_le_right _ _) c4)))), ht⟩) (fun q h => by cases h) d_Co_isCrossed_42
    · refine lv_aload_n hx hb d_Co_isCrossed_22 rfl (lv_at hl 1 rfl) ?_
      refine va_get (D := (dC, dI)) (ci := 1) (v := .ref o1) (C := R_Co) (T := T_Co) (N := 8) hx hb hg in_Co hown hK hP 0 rfl rfl 0 (by decide) (hg _ tw_29) (fun _ h9 => h9) rfl d_Co_isCrossed_23 ?_
      refine lv_iload_n hx hb d_Co_isCrossed_26 rfl (lv_at hl 0 rfl) ?_
      refine wb_iald hx hb hK hP 1 0 rfl rfl i rfl (Nat.lt_of_lt_of_le c4 hn) (by decide) d_Co_isCrossed_27 ?_
      refine lv_bipush (v := 7) hx hb d_Co_isCrossed_28 (by decide) ?_
      refine lv_icmp_ne (tgt := 35) hx hb d_Co_isCrossed_30 (by decide) (fun c5 => ?_) (fun c5 => ?_)
      · refine lv_iinc (v := (nI (i + 1))) (lv' := [(2, .int (nI (i + 1))), (0, .ref h), (1, .int (nI v))]) hx hb d_Co_isCrossed_35 hl (k := 0) rfl (nI_add _ 1) (by decide) rfl (fun ls hl => ?_)
        refine lv_goto (tgt := 4) hx hb d_Co_isCrossed_38 (by decide) ?_
        exact ih1 (i + 1) ls ⟨lv_sub hl [0, 1, 2] rfl, (Nat.lt_of_lt_of_le c4 hn), (hc.trans (crx_step (Nat.lt_min.mpr ⟨c3, c4⟩) c5))⟩ (by omega)
      · refine lv_iconst (v := 1) hx hb d_Co_isCrossed_33 (by decide) ?_
        exact W.zret (v := (1 : Int32)) (ty := .boolean) hx hb hr rfl (fun t ht hW => ⟨_, rfl, (bI1 (hc.trans (crx_hit (Nat.lt_min.mpr ⟨c3, c4⟩) c5))), ht⟩) (fun q h => by cases h) d_Co_isCrossed_34

set_option maxHeartbeats 4000000 in
set_option maxRecDepth 100000 in
theorem c_Co_othersMeeting (l : Launch) (dC : Nat → ClassId) (dI : Nat → Nat → Nat) (cI : ClassId) (h : Nat) (o1 : Nat) (o2 : Nat) (o3 : Nat) (o4 : Nat) (o5 : Nat) (o6 : Nat) (n : Nat) (vc : Nat) (ops : Nat → Int32) (lf : Nat → Int32) (rg : Nat → Int32) (E : Nat → Nat) (U : Nat → Nat) (P : Nat → Nat) (v : Nat) (hn : n ≤ 24) (hE24 : ∀ j, E j ≤ 24) (hv : v < 24) : Met l y_Co_othersMeeting ws_Co_othersMeeting (lvR 1 0 0) (va_Pc [.ref h, .int (nI v)] (PB (dC, dI) vwCl [(h, .inr (1, [.ref o1, .ref o2, .ref o3, .ref o4, .ref o5, .ref o6, .int (nI n), .int (nI vc)])), (o1, .inl (cI, 24, .inl ops)), (o2, .inl (cI, 24, .inl lf)), (o3, .inl (cI, 24, .inl rg)), (o4, .inl (cI, 24, .inl (fun z9 => nI (E z9)))), (o5, .inl (cI, 24, .inl (fun z9 => nI (U z9)))), (o6, .inl (cI, 24, .inl (fun z9 => nI (P z9))))] [(cI, .int)])) (vp_Si (fun r => r = nI (om ops E n v n))) 0 0 (fun _ => False) := by
  refine Met.ofW (cc := b_Co_othersMeeting) (maxL := 4) (ret := (some .int)) (by decide) rfl ?_
  intro p e s m args below meth c s₁ B hml hv
  obtain ⟨rfl, hP, hK⟩ := hv
  have hx := B.exec
  have hb := B.bytes
  have hr := B.returns
  have hts := atoms_spec (ws := ws_Co_othersMeeting) B.pre
  have hg : ∀ w ∈ TG, w.before ([.ref h, .int (nI v)] : List Value).toArray s = true := fun w h => hts w (List.mem_cons_of_mem _ h)
  have hown : s.vm.findClass R_Co = some m.cls := findClass_of_methodNamed B.named
  have hlocks := B.notSynchronized
  have hl := lv_entry ([.ref h, .int (nI v)]) (n := 4) (Nat.le_of_ble_eq_true rfl)
  rw [lg_entry_eq]
  generalize (lg_sl ([.ref h, .int (nI v)]) ++ List.replicate (4 - (lg_sl ([.ref h, .int (nI v)])).length) Slot.unset).toArray = ls at hl ⊢
  have hl : lv_has ls 4 [(0, .ref h), (1, .int (nI v))] := hl
  refine lv_iconst (v := 0) hx hb d_Co_othersMeeting_0 (by decide) ?_
  refine lv_istore_n (lv' := [(2, .int ((0 : Int32))), (0, .ref h), (1, .int (nI v))]) hx hb d_Co_othersMeeting_1 rfl hl (by decide) rfl (fun ls hl => ?_)
  refine lv_iconst (v := 0) hx hb d_Co_othersMeeting_2 (by decide) ?_
  refine lv_istore_n (lv' := [(3, .int ((0 : Int32))), (2, .int ((0 : Int32))), (0, .ref h), (1, .int (nI v))]) hx hb d_Co_othersMeeting_3 rfl hl (by decide) rfl (fun ls hl => ?_)
  refine wb_loopP (σ := Nat × Nat) 4 (fun x1 ls => lv_has ls 4 [(3, .int (nI x1.2)), (2, .int (nI x1.1)), (0, .ref h), (1, .int (nI v))] ∧ (x1.2 ≤ n) ∧ (x1.1 = om ops E n v x1.2)) (fun x1 => 25 - x1.2) ?_ (0, 0) ls ⟨lv_sub hl [0, 1, 2, 3] rfl, (Nat.zero_le _), rfl⟩
  clear hl
  intro x1 ls hI3 ih2
  obtain ⟨a, w⟩ := x1
  obtain ⟨hl, hw1, ha⟩ := hI3
  have hl : lv_has ls 4 [(3, .int (nI w)), (2, .int (nI a)), (0, .ref h), (1, .int (nI v))] := hl
  have hw1 : w ≤ n := hw1
  have ha : a = om ops E n v w := ha
  refine lv_iload_n hx hb d_Co_othersMeeting_4 rfl (lv_at hl 0 rfl) ?_
  refine lv_aload_n hx hb d_Co_othersMeeting_5 rfl (lv_at hl 2 rfl) ?_
  refine va_get (D := (dC, dI)) (ci := 1) (v := .int (nI n)) (C := R_Co) (T := T_Co) (N := 8) hx hb hg in_Co hown hK hP 0 rfl rfl 6 (by decide) (hg _ tw_35) (fun _ h9 => h9) rfl d_Co_othersMeeting_6 ?_
  refine wb_icmp_ge (tgt := 43) hx hb w n rfl rfl (by first | exact Nat.lt_of_le_of_lt (Nat.le_trans hw1 hn) (by decide) | exact Nat.lt_of_le_of_lt hn (by decide) | exact Nat.lt_trans hv (by decide)) (by first | exact Nat.lt_of_le_of_lt (Nat.le_trans hw1 hn) (by decide) | exact Nat.lt_of_le_of_lt hn (by decide) | exact Nat.lt_trans hv (by decide)) d_Co_othersMeeting_9 (by decide) (fun c4 => ?_) (fun c4 => ?_)
  · refine lv_iload_n hx hb d_Co_othersMeeting_43 rfl (lv_at hl 1 rfl) ?_
    exact W.iret (v := nI a) hx hb hr (fun t ht hW => ⟨_, rfl, (congrArg nI (ha.trans (congrArg (om ops E n v) (Nat.le_antisymm hw1 c4)))), ht⟩) (fun q h => by cases h) d_Co_othersMeeting_44
  · refine lv_iload_n hx hb d_Co_othersMeeting_12 rfl (lv_at hl 0 rfl) ?_
    refine lv_iload_n hx hb d_Co_othersMeeting_13 rfl (lv_at hl 3 rfl) ?_
    refine wb_icmp_eq (tgt := 37) hx hb w v rfl rfl (by first | exact Nat.lt_of_le_of_lt (Nat.le_trans hw1 hn) (by decide) | exact Nat.lt_of_le_of_lt hn (by decide) | exact Nat.lt_trans hv (by decide)) (by first | exact Nat.lt_of_le_of_lt (Nat.le_trans hw1 hn) (by decide) | exact Nat.lt_of_le_of_lt hn (by decide) | exact Nat.lt_trans hv (by decide)) d_Co_othersMeeting_14 (by decide) (fun c5 => ?_) (fun c5 => ?_)
    · refine lv_iinc (v := (nI (w + 1))) (lv' := [(3, .int (nI (w + 1))), (2, .int (nI a)), (0, .ref h), (1, .int (nI v))]) hx hb d_Co_othersMeeting_37 hl (k := 0) rfl (nI_add _ 1) (by decide) rfl (fun ls hl => ?_)
      refine lv_goto (tgt := 4) hx hb d_Co_othersMeeting_40 (by decide) ?_
      exact ih2 (a, w + 1) ls ⟨lv_sub hl [0, 1, 2, 3] rfl, c4, (om_n ha (Or.inl c5))⟩ (by show 25 - (w + 1) < 25 - w; omega)
    · refine lv_aload_n hx hb d_Co_othersMeeting_17 rfl (lv_at hl 2 rfl) ?_
      refine lv_iload_n hx hb d_Co_othersMeeting_18 rfl (lv_at hl 0 rfl) ?_
      refine rdV (ci := 1) (q0 := 0) (As := [.int (nI w)]) (rest := []) ⟨hx, hb, hml, hown, hg⟩ (c_Co_isValue l dC dI cI h o1 o2 o3 o4 o5 o6 n vc ops lf rg E U P (nI w) hn) (cwV 1 hg (tg_V tw_155 tw_156 tw_157 tw_2 tw_158) rfl rfl rfl (by decide +kernel) ⟨Nat.le_of_ble_eq_true rfl, Nat.le_of_ble_eq_true rfl⟩) (hK.sub [0] rfl) (hP.sub [0, 1, 2, 3, 4, 5, 6] rfl) rfl rfl rfl hl.1 rfl (lv_room (Nat.le_of_ble_eq_true rfl)) d_Co_othersMeeting_19 ⟨Nat.le_of_ble_eq_true rfl, Nat.le_of_ble_eq_true rfl⟩ ?_
      refine wb_if_eqb (tgt := 37) hx hb (iv ops n (nI w)) rfl d_Co_othersMeeting_22 (by decide) (fun c6 => ?_) (fun c6 => ?_)
      · refine lv_iinc (v := (nI (w + 1))) (lv' := [(3, .int (nI (w + 1))), (2, .int (nI a)), (0, .ref h), (1, .int (nI v))]) hx hb d_Co_othersMeeting_37 hl (k := 0) rfl (nI_add _ 1) (by decide) rfl (fun ls hl => ?_)
        refine lv_goto (tgt := 4) hx hb d_Co_othersMeeting_40 (by decide) ?_
        exact ih2 (a, w + 1) ls ⟨lv_sub hl [0, 1, 2, 3] rfl, c4, (om_n ha (Or.inr (Or.inl c6)))⟩ (by show 25 - (w + 1) < 25 - w; omega)
      · refine lv_aload_n hx hb d_Co_othersMeeting_25 rfl (lv_at hl 2 rfl) ?_
        refine lv_iload_n hx hb d_Co_othersMeeting_26 rfl (lv_at hl 3 rfl) ?_
        refine lv_iload_n hx hb d_Co_othersMeeting_27 rfl (lv_at hl 0 rfl) ?_
        refine rdV (ci := 1) (q0 := 0) (As := [.int (nI v), .int (nI w)]) (rest := []) ⟨hx, hb, hml, hown, hg⟩ (c_Co_meet l dC dI cI h o1 o2 o3 o4 o5 o6 n vc ops lf rg E U P v w hv (Nat.lt_of_lt_of_le c4 hn) (hE24 _) (hE24 _)) (cwV 2 hg (tg_V tw_395 tw_300 tw_301 tw_2 tw_302) rfl rfl rfl (by decide +kernel) ⟨Nat.le_of_ble_eq_true rfl, Nat.le_of_ble_eq_true rfl⟩) (hK.sub [0] rfl) (hP.sub [0, 1, 2, 3, 4, 5, 6] rfl) rfl rfl rfl hl.1 rfl (lv_room (Nat.le_of_ble_eq_true rfl)) d_Co_othersMeeting_28 ⟨Nat.le_of_ble_eq_true rfl, Nat.le_of_ble_eq_true rfl⟩ ?_
        refine wb_if_eqb (tgt := 37) hx hb (mt E v w) rfl d_Co_othersMeeting_31 (by decide) (fun c7 => ?_) (fun c7 => ?_)
        · refine lv_iinc (v := (nI (w + 1))) (lv' := [(3, .int (nI (w + 1))), (2, .int (nI a)), (0, .ref h), (1, .int (nI v))]) hx hb d_Co_othersMeeting_37 hl (k := 0) rfl (nI_add _ 1) (by decide) rfl (fun ls hl => ?_)
          refine lv_goto (tgt := 4) hx hb d_Co_othersMeeting_40 (by decide) ?_
          exact ih2 (a, w + 1) ls ⟨lv_sub hl [0, 1, 2, 3] rfl, c4, (om_n ha (Or.inr (Or.inr c7)))⟩ (by show 25 - (w + 1) < 25 - w; omega)
        · refine lv_iinc (v := (nI (a + 1))) (lv' := [(2, .int (nI (a + 1))), (3, .int (nI w)), (0, .ref h), (1, .int (nI v))]) hx hb d_Co_othersMeeting_34 hl (k := 1) rfl (nI_add _ 1) (by decide) rfl (fun ls hl => ?_)
          refine lv_iinc (v := (nI (w + 1))) (lv' := [(3, .int (nI (w + 1))), (2, .int (nI (a + 1))), (0, .ref h), (1, .int (nI v))]) hx hb d_Co_othersMeeting_37 hl (k := 1) rfl (nI_add _ 1) (by decide) rfl (fun ls hl => ?_)
          refine lv_goto (tgt := 4) hx hb d_Co_othersMeeting_40 (by decide) ?_
          exact ih2 (a + 1, w + 1) ls ⟨lv_sub hl [0, 1, 2, 3] rfl, c4, (om_y ha c5 c6 c7)⟩ (by show 25 - (w + 1) < 25 - w; omega)
