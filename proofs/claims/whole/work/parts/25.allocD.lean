/-! AllocForge$Allocation: longestWaiting -/
set_option maxHeartbeats 4000000 in
set_option maxRecDepth 100000 in
theorem c_Al_longestWaiting (l : Launch) (dC : Nat → ClassId) (dI : Nat → Nat → Nat) (cI : ClassId) (al : Nat) (ah : Nat) (k : Nat) (ev : Nat) (hm : Nat → Int32) (h : Nat) (o1 : Nat) (o2 : Nat) (o3 : Nat) (o4 : Nat) (o5 : Nat) (o6 : Nat) (n : Nat) (vc : Nat) (ops : Nat → Int32) (lf : Nat → Int32) (rg : Nat → Int32) (E : Nat → Nat) (U : Nat → Nat) (P : Nat → Nat) (hn : n ≤ 24) (hE24 : ∀ j, E j ≤ 24) (hwf : ∀ j, j < n → j < E j) : Met l y_Al_longestWaiting ws_Al_longestWaiting (lvR 1 0 0) (va_Pc [.ref al, .ref h] (PB (dC, dI) vwCl [(al, .inr (0, [.ref ah, .int (nI k), .int (nI ev)])), (ah, .inl (cI, 24, .inl hm)), (h, .inr (1, [.ref o1, .ref o2, .ref o3, .ref o4, .ref o5, .ref o6, .int (nI n), .int (nI vc)])), (o1, .inl (cI, 24, .inl ops)), (o2, .inl (cI, 24, .inl lf)), (o3, .inl (cI, 24, .inl rg)), (o4, .inl (cI, 24, .inl (fun z9 => nI (E z9)))), (o5, .inl (cI, 24, .inl (fun z9 => nI (U z9)))), (o6, .inl (cI, 24, .inl (fun z9 => nI (P z9))))] [(cI, .int)])) (vp_Si (fun r => r = oI (lw ops E n hm n))) 0 0 (fun _ => False) := by
  refine Met.ofW (cc := b_Al_longestWaiting) (maxL := 5) (ret := (some .int)) (by decide) rfl ?_
  intro p e s m args below meth c s₁ B hml hv
  obtain ⟨rfl, hP, hK⟩ := hv
  have hx := B.exec
  have hb := B.bytes
  have hr := B.returns
  have hts := atoms_spec (ws := ws_Al_longestWaiting) B.pre
  have hg : ∀ w ∈ TG, w.before ([.ref al, .ref h] : List Value).toArray s = true := fun w h => hts w (List.mem_cons_of_mem _ h)
  have hown : s.vm.findClass R_Al = some m.cls := findClass_of_methodNamed B.named
  have hlocks := B.notSynchronized
  have hl := lv_entry ([.ref al, .ref h]) (n := 5) (Nat.le_of_ble_eq_true rfl)
  rw [lg_entry_eq]
  generalize (lg_sl ([.ref al, .ref h]) ++ List.replicate (5 - (lg_sl ([.ref al, .ref h])).length) Slot.unset).toArray = ls at hl ⊢
  have hl : lv_has ls 5 [(0, .ref al), (1, .ref h)] := hl
  refine lv_iconst (v := -1) hx hb d_Al_longestWaiting_0 (by decide) ?_
  refine lv_istore_n (lv' := [(2, .int ((-1 : Int32))), (0, .ref al), (1, .ref h)]) hx hb d_Al_longestWaiting_1 rfl hl (by decide) rfl (fun ls hl => ?_)
  refine lv_iconst (v := 0) hx hb d_Al_longestWaiting_2 (by decide) ?_
  refine lv_istore_n (lv' := [(3, .int ((0 : Int32))), (2, .int ((-1 : Int32))), (0, .ref al), (1, .ref h)]) hx hb d_Al_longestWaiting_3 rfl hl (by decide) rfl (fun ls hl => ?_)
  refine wb_loopP (σ := (Option Nat) × Nat) 4 (fun x1 ls => lv_has ls 5 [(3, .int (nI x1.2)), (2, .int (oI x1.1)), (0, .ref al), (1, .ref h)] ∧ (x1.2 ≤ n) ∧ (x1.1 = lw ops E n hm x1.2)) (fun x1 => 25 - x1.2) ?_ (none, 0) ls ⟨lv_sub hl [0, 1, 2, 3] rfl, (Nat.zero_le _), rfl⟩
  clear hl
  intro x1 ls hI3 ih2
  obtain ⟨o, w⟩ := x1
  obtain ⟨hl, hw1, ho⟩ := hI3
  have hl : lv_has ls 5 [(3, .int (nI w)), (2, .int (oI o)), (0, .ref al), (1, .ref h)] := hl
  have hw1 : w ≤ n := hw1
  have ho : o = lw ops E n hm w := ho
  refine lv_iload_n hx hb d_Al_longestWaiting_4 rfl (lv_at hl 0 rfl) ?_
  refine lv_aload_n hx hb d_Al_longestWaiting_5 rfl (lv_at hl 3 rfl) ?_
  refine rdV (ci := 1) (q0 := 0) (As := []) (rest := [.int (nI w)]) ⟨hx, hb, hml, hown, hg⟩ (c_Co_size l dC dI cI h o1 o2 o3 o4 o5 o6 n vc ops lf rg E U P) (cwV 0 hg (tg_V tw_273 tw_126 tw_127 tw_2 tw_128) rfl rfl rfl (by decide +kernel) ⟨Nat.le_of_ble_eq_true rfl, Nat.le_of_ble_eq_true rfl⟩) (hK.sub [0] rfl) (hP.sub [2, 3, 4, 5, 6, 7, 8] rfl) rfl rfl rfl hl.1 rfl (lv_room (Nat.le_of_ble_eq_true rfl)) d_Al_longestWaiting_6 ⟨Nat.le_of_ble_eq_true rfl, Nat.le_of_ble_eq_true rfl⟩ ?_
  refine wb_icmp_ge (tgt := 68) hx hb w n rfl rfl (by first | omega | (have h1 := hE24 w; have h2 := hE24 b; omega)) (by first | omega | (have h1 := hE24 w; have h2 := hE24 b; omega)) d_Al_longestWaiting_9 (by decide) (fun c4 => ?_) (fun c4 => ?_)
  · refine lv_iload_n hx hb d_Al_longestWaiting_68 rfl (lv_at hl 1 rfl) ?_
    exact W.iret (v := oI o) hx hb hr (fun t ht hW => ⟨_, rfl, (congrArg oI (ho.trans (congrArg (lw ops E n hm) (Nat.le_antisymm hw1 c4)))), ht⟩) (fun q h => by cases h) d_Al_longestWaiting_69
  · refine lv_aload_n hx hb d_Al_longestWaiting_12 rfl (lv_at hl 3 rfl) ?_
    refine lv_iload_n hx hb d_Al_longestWaiting_13 rfl (lv_at hl 0 rfl) ?_
    refine rdV (ci := 1) (q0 := 0) (As := [.int (nI w)]) (rest := []) ⟨hx, hb, hml, hown, hg⟩ (c_Co_isValue l dC dI cI h o1 o2 o3 o4 o5 o6 n vc ops lf rg E U P (nI w) hn) (cwV 1 hg (tg_V tw_274 tw_156 tw_157 tw_2 tw_158) rfl rfl rfl (by decide +kernel) ⟨Nat.le_of_ble_eq_true rfl, Nat.le_of_ble_eq_true rfl⟩) (hK.sub [0] rfl) (hP.sub [2, 3, 4, 5, 6, 7, 8] rfl) rfl rfl rfl hl.1 rfl (lv_room (Nat.le_of_ble_eq_true rfl)) d_Al_longestWaiting_14 ⟨Nat.le_of_ble_eq_true rfl, Nat.le_of_ble_eq_true rfl⟩ ?_
    refine wb_if_eqb (tgt := 34) hx hb (iv ops n (nI w)) rfl d_Al_longestWaiting_17 (by decide) (fun c5 => ?_) (fun c5 => ?_)
    · refine lv_iconst (v := 0) hx hb d_Al_longestWaiting_34 (by decide) ?_
      refine lv_istore (lv' := [(4, .int ((0 : Int32))), (3, .int (nI w)), (2, .int (oI o)), (0, .ref al), (1, .ref h)]) hx hb d_Al_longestWaiting_35 hl (by decide) rfl (fun ls hl => ?_)
      refine lv_iload hx hb d_Al_longestWaiting_37 (lv_at hl 0 rfl) ?_
      refine wb_if_eqb (tgt := 62) hx hb false rfl d_Al_longestWaiting_39 (by decide) (fun _ => ?_) (fun c6 => by cases c6)
      refine lv_iinc (v := (nI (w + 1))) (lv' := [(3, .int (nI (w + 1))), (4, .int ((0 : Int32))), (2, .int (oI o)), (0, .ref al), (1, .ref h)]) hx hb d_Al_longestWaiting_62 hl (k := 1) rfl (nI_add _ 1) (by decide) rfl (fun ls hl => ?_)
      refine lv_goto (tgt := 4) hx hb d_Al_longestWaiting_65 (by decide) ?_
      exact ih2 (o, w + 1) ls ⟨lv_sub hl [0, 2, 3, 4] rfl, c4, (lw_n ho (Or.inl c5))⟩ (by show 25 - (w + 1) < 25 - w; omega)
    · refine lv_aload_n hx hb d_Al_longestWaiting_20 rfl (lv_at hl 2 rfl) ?_
      refine va_get (D := (dC, dI)) (ci := 0) (v := .ref ah) (C := R_Al) (T := T_Al) (N := 3) hx hb hg in_Al hown hK hP 0 rfl rfl 0 (by decide) (hg _ tw_89) (fun _ h9 => h9) rfl d_Al_longestWaiting_21 ?_
      refine lv_iload_n hx hb d_Al_longestWaiting_24 rfl (lv_at hl 0 rfl) ?_
      refine wb_iald hx hb hK hP 1 0 rfl rfl w rfl (Nat.lt_of_lt_of_le c4 hn) (by decide) d_Al_longestWaiting_25 ?_
      refine lv_iconst (v := -1) hx hb d_Al_longestWaiting_26 (by decide) ?_
      refine lv_icmp_ne (tgt := 34) hx hb d_Al_longestWaiting_27 (by decide) (fun c7 => ?_) (fun c7 => ?_)
      · refine lv_iconst (v := 0) hx hb d_Al_longestWaiting_34 (by decide) ?_
        refine lv_istore (lv' := [(4, .int ((0 : Int32))), (3, .int (nI w)), (2, .int (oI o)), (0, .ref al), (1, .ref h)]) hx hb d_Al_longestWaiting_35 hl (by decide) rfl (fun ls hl => ?_)
        refine lv_iload hx hb d_Al_longestWaiting_37 (lv_at hl 0 rfl) ?_
        refine wb_if_eqb (tgt := 62) hx hb false rfl d_Al_longestWaiting_39 (by decide) (fun _ => ?_) (fun c8 => by cases c8)
        refine lv_iinc (v := (nI (w + 1))) (lv' := [(3, .int (nI (w + 1))), (4, .int ((0 : Int32))), (2, .int (oI o)), (0, .ref al), (1, .ref h)]) hx hb d_Al_longestWaiting_62 hl (k := 1) rfl (nI_add _ 1) (by decide) rfl (fun ls hl => ?_)
        refine lv_goto (tgt := 4) hx hb d_Al_longestWaiting_65 (by decide) ?_
        exact ih2 (o, w + 1) ls ⟨lv_sub hl [0, 2, 3, 4] rfl, c4, (lw_n ho (Or.inr (Or.inl c7)))⟩ (by show 25 - (w + 1) < 25 - w; omega)
      · refine lv_iconst (v := 1) hx hb d_Al_longestWaiting_30 (by decide) ?_
        refine lv_goto (tgt := 35) hx hb d_Al_longestWaiting_31 (by decide) ?_
        refine lv_istore (lv' := [(4, .int ((1 : Int32))), (3, .int (nI w)), (2, .int (oI o)), (0, .ref al), (1, .ref h)]) hx hb d_Al_longestWaiting_35 hl (by decide) rfl (fun ls hl => ?_)
        refine lv_iload hx hb d_Al_longestWaiting_37 (lv_at hl 0 rfl) ?_
        refine wb_if_eqb (tgt := 62) hx hb true rfl d_Al_longestWaiting_39 (by decide) (fun c9 => by cases c9) (fun _ => ?_)
        refine lv_iload_n hx hb d_Al_longestWaiting_42 rfl (lv_at hl 2 rfl) ?_
        refine lv_iconst (v := -1) hx hb d_Al_longestWaiting_43 (by decide) ?_
        refine lv_icmp_eq (tgt := 60) hx hb d_Al_longestWaiting_44 (by decide) (fun c10 => ?_) (fun c10 => ?_)
        · refine lv_iload_n hx hb d_Al_longestWaiting_60 rfl (lv_at hl 1 rfl) ?_
          refine lv_istore_n (lv' := [(2, .int (nI w)), (4, .int ((1 : Int32))), (3, .int (nI w)), (0, .ref al), (1, .ref h)]) hx hb d_Al_longestWaiting_61 rfl hl (by decide) rfl (fun ls hl => ?_)
          refine lv_iinc (v := (nI (w + 1))) (lv' := [(3, .int (nI (w + 1))), (2, .int (nI w)), (4, .int ((1 : Int32))), (0, .ref al), (1, .ref h)]) hx hb d_Al_longestWaiting_62 hl (k := 2) rfl (nI_add _ 1) (by decide) rfl (fun ls hl => ?_)
          refine lv_goto (tgt := 4) hx hb d_Al_longestWaiting_65 (by decide) ?_
          exact ih2 (some w, w + 1) ls ⟨lv_sub hl [0, 1, 3, 4] rfl, c4, (lw_y ho c5 c7 (lwB_n (oI_m1 c10 (fun b q => Nat.lt_of_lt_of_le (lw_lt (ho.symm.trans q)) (Nat.le_trans hw1 (Nat.le_trans hn (by decide)))))))⟩ (by show 25 - (w + 1) < 25 - w; omega)
        · obtain ⟨b, rfl⟩ := oI_some c10
          have hbw := lw_lt ho.symm
          have hl : lv_has ls 5 [(4, .int ((1 : Int32))), (3, .int (nI w)), (2, .int (nI b)), (0, .ref al), (1, .ref h)] := hl
          refine lv_aload_n hx hb d_Al_longestWaiting_47 rfl (lv_at hl 4 rfl) ?_
          refine lv_iload_n hx hb d_Al_longestWaiting_48 rfl (lv_at hl 1 rfl) ?_
          refine rdV (ci := 1) (q0 := 0) (As := [.int (nI w)]) (rest := []) ⟨hx, hb, hml, hown, hg⟩ (c_Co_lengthOf l dC dI cI h o1 o2 o3 o4 o5 o6 n vc ops lf rg E U P w (Nat.lt_of_lt_of_le c4 hn) (Nat.le_of_lt (hwf w c4))) (cwV 1 hg (tg_V tw_275 tw_276 tw_277 tw_2 tw_278) rfl rfl rfl (by decide +kernel) ⟨Nat.le_of_ble_eq_true rfl, Nat.le_of_ble_eq_true rfl⟩) (hK.sub [0] rfl) (hP.sub [2, 3, 4, 5, 6, 7, 8] rfl) rfl rfl rfl hl.1 rfl (lv_room (Nat.le_of_ble_eq_true rfl)) d_Al_longestWaiting_49 ⟨Nat.le_of_ble_eq_true rfl, Nat.le_of_ble_eq_true rfl⟩ ?_
          refine lv_aload_n hx hb d_Al_longestWaiting_52 rfl (lv_at hl 4 rfl) ?_
          refine lv_iload_n hx hb d_Al_longestWaiting_53 rfl (lv_at hl 2 rfl) ?_
          refine rdV (ci := 1) (q0 := 0) (As := [.int (nI b)]) (rest := [.int (nI (E w - w))]) ⟨hx, hb, hml, hown, hg⟩ (c_Co_lengthOf l dC dI cI h o1 o2 o3 o4 o5 o6 n vc ops lf rg E U P b (Nat.lt_trans hbw (Nat.lt_of_lt_of_le c4 hn)) (Nat.le_of_lt (hwf b (Nat.lt_trans hbw c4)))) (cwV 1 hg (tg_V tw_275 tw_276 tw_277 tw_2 tw_278) rfl rfl rfl (by decide +kernel) ⟨Nat.le_of_ble_eq_true rfl, Nat.le_of_ble_eq_true rfl⟩) (hK.sub [0] rfl) (hP.sub [2, 3, 4, 5, 6, 7, 8] rfl) rfl rfl rfl hl.1 rfl (lv_room (Nat.le_of_ble_eq_true rfl)) d_Al_longestWaiting_54 ⟨Nat.le_of_ble_eq_true rfl, Nat.le_of_ble_eq_true rfl⟩ ?_
          refine wb_icmp_le (tgt := 62) hx hb (E w - w) (E b - b) rfl rfl (by first | omega | (have h1 := hE24 w; have h2 := hE24 b; omega)) (by first | omega | (have h1 := hE24 w; have h2 := hE24 b; omega)) d_Al_longestWaiting_57 (by decide) (fun c11 => ?_) (fun c11 => ?_)
          · refine lv_iinc (v := (nI (w + 1))) (lv' := [(3, .int (nI (w + 1))), (4, .int ((1 : Int32))), (2, .int (nI b)), (0, .ref al), (1, .ref h)]) hx hb d_Al_longestWaiting_62 hl (k := 1) rfl (nI_add _ 1) (by decide) rfl (fun ls hl => ?_)
            refine lv_goto (tgt := 4) hx hb d_Al_longestWaiting_65 (by decide) ?_
            exact ih2 (some b, w + 1) ls ⟨lv_sub hl [0, 2, 3, 4] rfl, c4, (lw_n ho (Or.inr (Or.inr (lwB_f c11))))⟩ (by show 25 - (w + 1) < 25 - w; omega)
          · refine lv_iload_n hx hb d_Al_longestWaiting_60 rfl (lv_at hl 1 rfl) ?_
            refine lv_istore_n (lv' := [(2, .int (nI w)), (4, .int ((1 : Int32))), (3, .int (nI w)), (0, .ref al), (1, .ref h)]) hx hb d_Al_longestWaiting_61 rfl hl (by decide) rfl (fun ls hl => ?_)
            refine lv_iinc (v := (nI (w + 1))) (lv' := [(3, .int (nI (w + 1))), (2, .int (nI w)), (4, .int ((1 : Int32))), (0, .ref al), (1, .ref h)]) hx hb d_Al_longestWaiting_62 hl (k := 2) rfl (nI_add _ 1) (by decide) rfl (fun ls hl => ?_)
            refine lv_goto (tgt := 4) hx hb d_Al_longestWaiting_65 (by decide) ?_
            exact ih2 (some w, w + 1) ls ⟨lv_sub hl [0, 1, 3, 4] rfl, c4, (lw_y ho c5 c7 (lwB_t c11))⟩ (by show 25 - (w + 1) < 25 - w; omega)
