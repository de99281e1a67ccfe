/-! AllocForge$Allocation: takeRegister -/
set_option maxHeartbeats 4000000 in
set_option maxRecDepth 100000 in
theorem c_Al_takeRegister (l : Launch) (dC : Nat → ClassId) (dI : Nat → Nat → Nat) (cI : ClassId) (al : Nat) (ah : Nat) (k : Nat) (ev : Nat) (hm : Nat → Int32) (h : Nat) (o1 : Nat) (o2 : Nat) (o3 : Nat) (o4 : Nat) (o5 : Nat) (o6 : Nat) (n : Nat) (vc : Nat) (ops : Nat → Int32) (lf : Nat → Int32) (rg : Nat → Int32) (E : Nat → Nat) (U : Nat → Nat) (P : Nat → Nat) (v : Nat) (sz : Nat) (hn : n ≤ 24) (hE24 : ∀ j, E j ≤ 24) (hwf : ∀ j, j < n → j < E j) (hwa : ∀ j, j < n → vf_n64 (wt P E j)) (hvn : v < n) (hk5 : k ≤ 5) : Met l y_Al_takeRegister ws_Al_takeRegister (lvR 3 0 0) (va_Pc [.ref al, .ref h, .int (nI v)] (PM (dC, dI) vwCl [(al, .inr (0, [.ref ah, .int (nI k), .int (nI ev)])), (ah, .inl (cI, 24, .inl hm)), (h, .inr (1, [.ref o1, .ref o2, .ref o3, .ref o4, .ref o5, .ref o6, .int (nI n), .int (nI vc)])), (o1, .inl (cI, 24, .inl ops)), (o2, .inl (cI, 24, .inl lf)), (o3, .inl (cI, 24, .inl rg)), (o4, .inl (cI, 24, .inl (fun z9 => nI (E z9)))), (o5, .inl (cI, 24, .inl (fun z9 => nI (U z9)))), (o6, .inl (cI, 24, .inl (fun z9 => nI (P z9))))] [(cI, .int)] sz)) (va_Qi (fun (r : Int32) (_ : Unit) => r = bI (trF E P hm n v (mayR ops E n v k)).1.isSome) (MB (dC, dI) vwCl (fun _ => [(al, .inr (0, [.ref ah, .int (nI k), .int (nI (ev + tkC E hm n v (trF E P hm n v (mayR ops E n v k)).1))])), (ah, .inl (cI, 24, .inl (tkH E hm n v (trF E P hm n v (mayR ops E n v k)).1))), (h, .inr (1, [.ref o1, .ref o2, .ref o3, .ref o4, .ref o5, .ref o6, .int (nI n), .int (nI vc)])), (o1, .inl (cI, 24, .inl ops)), (o2, .inl (cI, 24, .inl lf)), (o3, .inl (cI, 24, .inl rg)), (o4, .inl (cI, 24, .inl (fun z9 => nI (E z9)))), (o5, .inl (cI, 24, .inl (fun z9 => nI (U z9)))), (o6, .inl (cI, 24, .inl (fun z9 => nI (P z9))))]) [(cI, .int)] (va_A [(al, .inr (0, [.ref ah, .int (nI k), .int (nI ev)])), (ah, .inl (cI, 24, .inl hm)), (h, .inr (1, [.ref o1, .ref o2, .ref o3, .ref o4, .ref o5, .ref o6, .int (nI n), .int (nI vc)])), (o1, .inl (cI, 24, .inl ops)), (o2, .inl (cI, 24, .inl lf)), (o3, .inl (cI, 24, .inl rg)), (o4, .inl (cI, 24, .inl (fun z9 => nI (E z9)))), (o5, .inl (cI, 24, .inl (fun z9 => nI (U z9)))), (o6, .inl (cI, 24, .inl (fun z9 => nI (P z9))))] sz)) (va_A [(al, .inr (0, [.ref ah, .int (nI k), .int (nI ev)])), (ah, .inl (cI, 24, .inl hm)), (h, .inr (1, [.ref o1, .ref o2, .ref o3, .ref o4, .ref o5, .ref o6, .int (nI n), .int (nI vc)])), (o1, .inl (cI, 24, .inl ops)), (o2, .inl (cI, 24, .inl lf)), (o3, .inl (cI, 24, .inl rg)), (o4, .inl (cI, 24, .inl (fun z9 => nI (E z9)))), (o5, .inl (cI, 24, .inl (fun z9 => nI (U z9)))), (o6, .inl (cI, 24, .inl (fun z9 => nI (P z9))))] sz)) 0 0 (va_A [(al, .inr (0, [.ref ah, .int (nI k), .int (nI ev)])), (ah, .inl (cI, 24, .inl hm)), (h, .inr (1, [.ref o1, .ref o2, .ref o3, .ref o4, .ref o5, .ref o6, .int (nI n), .int (nI vc)])), (o1, .inl (cI, 24, .inl ops)), (o2, .inl (cI, 24, .inl lf)), (o3, .inl (cI, 24, .inl rg)), (o4, .inl (cI, 24, .inl (fun z9 => nI (E z9)))), (o5, .inl (cI, 24, .inl (fun z9 => nI (U z9)))), (o6, .inl (cI, 24, .inl (fun z9 => nI (P z9))))] sz) := by
  refine Met.ofW (cc := b_Al_takeRegister) (maxL := 10) (ret := (some .boolean)) (by decide) rfl ?_
  intro p e s m args below meth c s₁ B hml hv
  obtain ⟨rfl, hsz, hP, hK, hD0⟩ := hv
  have hx := B.exec
  have hb := B.bytes
  have hr := B.returns
  have hts := atoms_spec (ws := ws_Al_takeRegister) B.pre
  have hg : ∀ w ∈ TG, w.before ([.ref al, .ref h, .int (nI v)] : List Value).toArray s = true := fun w h => hts w (List.mem_cons_of_mem _ h)
  have hown : s.vm.findClass R_Al = some m.cls := findClass_of_methodNamed B.named
  have hlocks := B.notSynchronized
  subst hsz
  have hD := hD0.self (sz := s.heap.size)
  generalize hAe : va_A [(al, .inr (0, [.ref ah, .int (nI k), .int (nI ev)])), (ah, .inl (cI, 24, .inl hm)), (h, .inr (1, [.ref o1, .ref o2, .ref o3, .ref o4, .ref o5, .ref o6, .int (nI n), .int (nI vc)])), (o1, .inl (cI, 24, .inl ops)), (o2, .inl (cI, 24, .inl lf)), (o3, .inl (cI, 24, .inl rg)), (o4, .inl (cI, 24, .inl (fun z9 => nI (E z9)))), (o5, .inl (cI, 24, .inl (fun z9 => nI (U z9)))), (o6, .inl (cI, 24, .inl (fun z9 => nI (P z9))))] s.heap.size = A at hD ⊢
  have hA : ∀ q : Nat, s.heap.size ≤ q → A q := fun q h => by rw [← hAe]; exact Or.inr h
  have hS : va_S A s.heap s.heap [] := va_S.rf
  have hl := lv_entry ([.ref al, .ref h, .int (nI v)]) (n := 10) (Nat.le_of_ble_eq_true rfl)
  rw [lg_entry_eq]
  generalize (lg_sl ([.ref al, .ref h, .int (nI v)]) ++ List.replicate (10 - (lg_sl ([.ref al, .ref h, .int (nI v)])).length) Slot.unset).toArray = ls at hl ⊢
  have hl : lv_has ls 10 [(0, .ref al), (1, .ref h), (2, .int (nI v))] := hl
  have hv24 : v < 24 := Nat.lt_of_lt_of_le hvn hn
  refine lv_aload_n hx hb d_Al_takeRegister_0 rfl (lv_at hl 1 rfl) ?_
  refine lv_iload_n hx hb d_Al_takeRegister_1 rfl (lv_at hl 2 rfl) ?_
  refine rdV (ci := 1) (q0 := 0) (As := [.int (nI v)]) (rest := []) ⟨hx, hb, hml, hown, hg⟩ (c_Co_isCrossed l dC dI cI h o1 o2 o3 o4 o5 o6 n vc ops lf rg E U P v hn hE24 hv24) (cwV 1 hg (tg_V tw_283 tw_284 tw_285 tw_2 tw_286) rfl rfl rfl (by decide +kernel) ⟨Nat.le_of_ble_eq_true rfl, Nat.le_of_ble_eq_true rfl⟩) (hK.sub [0] rfl) (hP.sub [2, 3, 4, 5, 6, 7, 8] rfl) rfl rfl rfl hl.1 rfl (lv_room (Nat.le_of_ble_eq_true rfl)) d_Al_takeRegister_2 ⟨Nat.le_of_ble_eq_true rfl, Nat.le_of_ble_eq_true rfl⟩ ?_
  refine wb_if_eqb (tgt := 19) hx hb (cr ops E n v) rfl d_Al_takeRegister_5 (by decide) (fun c1 => ?_) (fun c1 => ?_)
  · refine lv_aload_n hx hb d_Al_takeRegister_19 rfl (lv_at hl 0 rfl) ?_
    refine va_get (D := (dC, dI)) (ci := 0) (v := .int (nI k)) (C := R_Al) (T := T_Al) (N := 3) hx hb hg in_Al hown hK hP 0 rfl rfl 1 (by decide) (hg _ tw_90) (fun _ h9 => h9) rfl d_Al_takeRegister_20 ?_
    refine wb_top (mayR_f c1) ?_
    refine lv_istore_n (lv' := [(3, .int (nI (mayR ops E n v k))), (0, .ref al), (1, .ref h), (2, .int (nI v))]) hx hb d_Al_takeRegister_23 rfl hl (by decide) rfl (fun ls hl => ?_)
    refine lv_iconst (v := -1) hx hb d_Al_takeRegister_24 (by decide) ?_
    refine lv_istore (lv' := [(4, .int ((-1 : Int32))), (3, .int (nI (mayR ops E n v k))), (0, .ref al), (1, .ref h), (2, .int (nI v))]) hx hb d_Al_takeRegister_25 hl (by decide) rfl (fun ls hl => ?_)
    refine lv_aload_n hx hb d_Al_takeRegister_27 rfl (lv_at hl 3 rfl) ?_
    refine lv_iload_n hx hb d_Al_takeRegister_28 rfl (lv_at hl 4 rfl) ?_
    refine rdVd (ci := 1) (q0 := 0) (As := [.int (nI v)]) (rest := []) ⟨hx, hb, hml, hown, hg⟩ (c_Co_weightOf l dC dI cI h o1 o2 o3 o4 o5 o6 n vc ops lf rg E U P v hv24 (Nat.le_of_lt (hwf v hvn)) (hwa v hvn)) (cwV 1 hg (tg_V tw_290 tw_291 tw_292 tw_2 tw_293) rfl rfl rfl (by decide +kernel) ⟨Nat.le_of_ble_eq_true rfl, Nat.le_of_ble_eq_true rfl⟩) (hK.sub [0] rfl) (hP.sub [2, 3, 4, 5, 6, 7, 8] rfl) rfl rfl rfl hl.1 rfl (lv_room (Nat.le_of_ble_eq_true rfl)) d_Al_takeRegister_29 ⟨Nat.le_of_ble_eq_true rfl, Nat.le_of_ble_eq_true rfl⟩ ?_
    refine lv_dstore (lv' := [(5, .double (wt P E v)), (4, .int ((-1 : Int32))), (3, .int (nI (mayR ops E n v k))), (0, .ref al), (1, .ref h), (2, .int (nI v))]) hx hb d_Al_takeRegister_32 hl (by decide) rfl (fun ls hl => ?_)
    refine lv_iconst (v := 0) hx hb d_Al_takeRegister_34 (by decide) ?_
    refine lv_istore (lv' := [(7, .int ((0 : Int32))), (5, .double (wt P E v)), (4, .int ((-1 : Int32))), (3, .int (nI (mayR ops E n v k))), (0, .ref al), (1, .ref h), (2, .int (nI v))]) hx hb d_Al_takeRegister_35 hl (by decide) rfl (fun ls hl => ?_)
    refine wb_loopP (σ := (Option Nat) × UInt64 × Nat) 37 (fun x2 ls => lv_has ls 10 [(7, .int (nI x2.2.2)), (5, .double x2.2.1), (4, .int (oI x2.1)), (3, .int (nI (mayR ops E n v k))), (0, .ref al), (1, .ref h), (2, .int (nI v))] ∧ (x2.2.2 ≤ mayR ops E n v k) ∧ ((x2.1, x2.2.1) = trF E P hm n v x2.2.2)) (fun x2 => 6 - x2.2.2) ?_ (none, wt P E v, 0) ls ⟨lv_sub hl [0, 1, 2, 3, 4, 5, 6] rfl, (Nat.zero_le _), rfl⟩
    clear hl
    intro x2 ls hI4 ih3
    obtain ⟨b, d, r⟩ := x2
    obtain ⟨hl, hr1, hbd⟩ := hI4
    have hl : lv_has ls 10 [(7, .int (nI r)), (5, .double d), (4, .int (oI b)), (3, .int (nI (mayR ops E n v k))), (0, .ref al), (1, .ref h), (2, .int (nI v))] := hl
    have hr1 : r ≤ mayR ops E n v k := hr1
    have hbd : (b, d) = trF E P hm n v r := hbd
    refine lv_iload hx hb d_Al_takeRegister_37 (lv_at hl 0 rfl) ?_
    refine lv_iload_n hx hb d_Al_takeRegister_39 rfl (lv_at hl 3 rfl) ?_
    refine wb_icmp_ge (tgt := 75) hx hb r (mayR ops E n v k) rfl rfl (by have := mayR_le ops E n v k; omega) (by have := mayR_le ops E n v k; omega) d_Al_takeRegister_40 (by decide) (fun c5 => ?_) (fun c5 => ?_)
    · refine lv_iload hx hb d_Al_takeRegister_75 (lv_at hl 2 rfl) ?_
      refine lv_iconst (v := -1) hx hb d_Al_takeRegister_77 (by decide) ?_
      refine lv_icmp_ne (tgt := 83) hx hb d_Al_takeRegister_78 (by decide) (fun c6 => ?_) (fun c6 => ?_)
      · obtain ⟨x, rfl⟩ := oI_some c6
        have eb : (trF E P hm n v (mayR ops E n v k)).1 = some x := (congrArg Prod.fst (hbd.trans (congrArg (trF E P hm n v) (Nat.le_antisymm hr1 c5)))).symm
        have hl : lv_has ls 10 [(7, .int (nI r)), (5, .double d), (4, .int (nI x)), (3, .int (nI (mayR ops E n v k))), (0, .ref al), (1, .ref h), (2, .int (nI v))] := hl
        refine lv_aload_n hx hb d_Al_takeRegister_83 rfl (lv_at hl 4 rfl) ?_
        refine lv_aload_n hx hb d_Al_takeRegister_84 rfl (lv_at hl 5 rfl) ?_
        refine lv_iload_n hx hb d_Al_takeRegister_85 rfl (lv_at hl 6 rfl) ?_
        refine lv_iload hx hb d_Al_takeRegister_86 (lv_at hl 2 rfl) ?_
        refine chVv (ci := 0) (q0 := 0) (wr := []) (As := [.ref h, .int (nI v), .int (nI x)]) (rest := []) ⟨hx, hb, hml, hown, hg⟩ (c_Al_evictMeeting l dC dI cI al ah k ev hm h o1 o2 o3 o4 o5 o6 n vc ops lf rg E U P v (nI x) _ hn hE24 hv24) (cwV 3 hg (tg_V tw_303 tw_305 sp_Al_evictMeeting tw_4 tw_306) rfl rfl rfl (by decide +kernel) ⟨Nat.le_of_ble_eq_true rfl, Nat.le_of_ble_eq_true rfl⟩) (hK.sub [0] rfl) hP hD hS hA [0, 1, 2, 3, 4, 5, 6, 7, 8] [] rfl rfl (by decide) (by decide) (by decide) rfl rfl rfl hl.1 rfl (lv_room (Nat.le_of_ble_eq_true rfl)) d_Al_takeRegister_88 ⟨Nat.le_of_ble_eq_true rfl, Nat.le_of_ble_eq_true rfl⟩ (fun u7 H locs w8 hP hD hS => ?_)
        have hP : va_P (dC, dI) vwCl [(al, .inr (0, [.ref ah, .int (nI k), .int (nI (ev + evC E hm v (nI x) n))])), (ah, .inl (cI, 24, .inl (evH E hm v (nI x) n))), (h, .inr (1, [.ref o1, .ref o2, .ref o3, .ref o4, .ref o5, .ref o6, .int (nI n), .int (nI vc)])), (o1, .inl (cI, 24, .inl ops)), (o2, .inl (cI, 24, .inl lf)), (o3, .inl (cI, 24, .inl rg)), (o4, .inl (cI, 24, .inl (fun z9 => nI (E z9)))), (o5, .inl (cI, 24, .inl (fun z9 => nI (U z9)))), (o6, .inl (cI, 24, .inl (fun z9 => nI (P z9))))] H := hP
        have hD : va_D A [(al, .inr (0, [.ref ah, .int (nI k), .int (nI (ev + evC E hm v (nI x) n))])), (ah, .inl (cI, 24, .inl (evH E hm v (nI x) n))), (h, .inr (1, [.ref o1, .ref o2, .ref o3, .ref o4, .ref o5, .ref o6, .int (nI n), .int (nI vc)])), (o1, .inl (cI, 24, .inl ops)), (o2, .inl (cI, 24, .inl lf)), (o3, .inl (cI, 24, .inl rg)), (o4, .inl (cI, 24, .inl (fun z9 => nI (E z9)))), (o5, .inl (cI, 24, .inl (fun z9 => nI (U z9)))), (o6, .inl (cI, 24, .inl (fun z9 => nI (P z9))))] := hD
        refine lv_aload_n hx hb d_Al_takeRegister_91 rfl (lv_at hl 4 rfl) ?_
        refine va_get (D := (dC, dI)) (ci := 0) (v := .ref ah) (C := R_Al) (T := T_Al) (N := 3) hx hb hg in_Al hown hK hP 0 rfl rfl 0 (by decide) (hg _ tw_89) (fun _ h9 => h9) rfl d_Al_takeRegister_92 ?_
        refine lv_iload_n hx hb d_Al_takeRegister_95 rfl (lv_at hl 6 rfl) ?_
        refine lv_iload hx hb d_Al_takeRegister_96 (lv_at hl 2 rfl) ?_
        refine wb_iast hx hb hK hP hD hS 1 0 rfl rfl v rfl hv24 (by decide) d_Al_takeRegister_98 (fun H locs hP hD hS => ?_)
        have hP : va_P (dC, dI) vwCl [(al, .inr (0, [.ref ah, .int (nI k), .int (nI (ev + evC E hm v (nI x) n))])), (ah, .inl (cI, 24, .inl (upd (evH E hm v (nI x) n) v (nI x)))), (h, .inr (1, [.ref o1, .ref o2, .ref o3, .ref o4, .ref o5, .ref o6, .int (nI n), .int (nI vc)])), (o1, .inl (cI, 24, .inl ops)), (o2, .inl (cI, 24, .inl lf)), (o3, .inl (cI, 24, .inl rg)), (o4, .inl (cI, 24, .inl (fun z9 => nI (E z9)))), (o5, .inl (cI, 24, .inl (fun z9 => nI (U z9)))), (o6, .inl (cI, 24, .inl (fun z9 => nI (P z9))))] H := hP
        have hD : va_D A [(al, .inr (0, [.ref ah, .int (nI k), .int (nI (ev + evC E hm v (nI x) n))])), (ah, .inl (cI, 24, .inl (upd (evH E hm v (nI x) n) v (nI x)))), (h, .inr (1, [.ref o1, .ref o2, .ref o3, .ref o4, .ref o5, .ref o6, .int (nI n), .int (nI vc)])), (o1, .inl (cI, 24, .inl ops)), (o2, .inl (cI, 24, .inl lf)), (o3, .inl (cI, 24, .inl rg)), (o4, .inl (cI, 24, .inl (fun z9 => nI (E z9)))), (o5, .inl (cI, 24, .inl (fun z9 => nI (U z9)))), (o6, .inl (cI, 24, .inl (fun z9 => nI (P z9))))] := hD
        refine lv_iconst (v := 1) hx hb d_Al_takeRegister_99 (by decide) ?_
        have hP9 : va_P (dC, dI) vwCl [(al, .inr (0, [.ref ah, .int (nI k), .int (nI (ev + tkC E hm n v (trF E P hm n v (mayR ops E n v k)).1))])), (ah, .inl (cI, 24, .inl (tkH E hm n v (trF E P hm n v (mayR ops E n v k)).1))), (h, .inr (1, [.ref o1, .ref o2, .ref o3, .ref o4, .ref o5, .ref o6, .int (nI n), .int (nI vc)])), (o1, .inl (cI, 24, .inl ops)), (o2, .inl (cI, 24, .inl lf)), (o3, .inl (cI, 24, .inl rg)), (o4, .inl (cI, 24, .inl (fun z9 => nI (E z9)))), (o5, .inl (cI, 24, .inl (fun z9 => nI (U z9)))), (o6, .inl (cI, 24, .inl (fun z9 => nI (P z9))))] _ := (by rw [eb]; exact hP.sub [0, 1, 2, 3, 4, 5, 6, 7, 8] rfl)
        have hD9 : va_D A [(al, .inr (0, [.ref ah, .int (nI k), .int (nI (ev + tkC E hm n v (trF E P hm n v (mayR ops E n v k)).1))])), (ah, .inl (cI, 24, .inl (tkH E hm n v (trF E P hm n v (mayR ops E n v k)).1))), (h, .inr (1, [.ref o1, .ref o2, .ref o3, .ref o4, .ref o5, .ref o6, .int (nI n), .int (nI vc)])), (o1, .inl (cI, 24, .inl ops)), (o2, .inl (cI, 24, .inl lf)), (o3, .inl (cI, 24, .inl rg)), (o4, .inl (cI, 24, .inl (fun z9 => nI (E z9)))), (o5, .inl (cI, 24, .inl (fun z9 => nI (U z9)))), (o6, .inl (cI, 24, .inl (fun z9 => nI (P z9))))] := (by rw [eb]; exact hD.sub [0, 1, 2, 3, 4, 5, 6, 7, 8] (by decide) rfl)
        exact W.zret (v := (1 : Int32)) (ty := .boolean) hx hb hr rfl (fun t ht hW => ⟨⟨_, (), rfl, (by rw [eb]; rfl), by rw [ht]; exact hP9, va_K.moved hW.alike hK, hD9⟩, hS.F ht⟩) hS.2.2 d_Al_takeRegister_100
      · refine lv_iconst (v := 0) hx hb d_Al_takeRegister_81 (by decide) ?_
        have eb : (trF E P hm n v (mayR ops E n v k)).1 = none := (congrArg Prod.fst (hbd.trans (congrArg (trF E P hm n v) (Nat.le_antisymm hr1 c5)))).symm.trans (oI_m1 c6 (fun z q => Nat.lt_of_lt_of_le (trF_lt ((congrArg Prod.fst hbd).symm.trans q)) (Nat.le_trans hr1 (Nat.le_trans (mayR_le ops E n v k) (Nat.le_trans hk5 (by decide))))))
        have hP9 : va_P (dC, dI) vwCl [(al, .inr (0, [.ref ah, .int (nI k), .int (nI (ev + tkC E hm n v (trF E P hm n v (mayR ops E n v k)).1))])), (ah, .inl (cI, 24, .inl (tkH E hm n v (trF E P hm n v (mayR ops E n v k)).1))), (h, .inr (1, [.ref o1, .ref o2, .ref o3, .ref o4, .ref o5, .ref o6, .int (nI n), .int (nI vc)])), (o1, .inl (cI, 24, .inl ops)), (o2, .inl (cI, 24, .inl lf)), (o3, .inl (cI, 24, .inl rg)), (o4, .inl (cI, 24, .inl (fun z9 => nI (E z9)))), (o5, .inl (cI, 24, .inl (fun z9 => nI (U z9)))), (o6, .inl (cI, 24, .inl (fun z9 => nI (P z9))))] _ := (by rw [eb]; exact hP.sub [0, 1, 2, 3, 4, 5, 6, 7, 8] rfl)
        have hD9 : va_D A [(al, .inr (0, [.ref ah, .int (nI k), .int (nI (ev + tkC E hm n v (trF E P hm n v (mayR ops E n v k)).1))])), (ah, .inl (cI, 24, .inl (tkH E hm n v (trF E P hm n v (mayR ops E n v k)).1))), (h, .inr (1, [.ref o1, .ref o2, .ref o3, .ref o4, .ref o5, .ref o6, .int (nI n), .int (nI vc)])), (o1, .inl (cI, 24, .inl ops)), (o2, .inl (cI, 24, .inl lf)), (o3, .inl (cI, 24, .inl rg)), (o4, .inl (cI, 24, .inl (fun z9 => nI (E z9)))), (o5, .inl (cI, 24, .inl (fun z9 => nI (U z9)))), (o6, .inl (cI, 24, .inl (fun z9 => nI (P z9))))] := (by rw [eb]; exact hD.sub [0, 1, 2, 3, 4, 5, 6, 7, 8] (by decide) rfl)
        exact W.zret (v := (0 : Int32)) (ty := .boolean) hx hb hr rfl (fun t ht hW => ⟨⟨_, (), rfl, (by rw [eb]; rfl), by rw [ht]; exact hP9, va_K.moved hW.alike hK, hD9⟩, hS.F ht⟩) hS.2.2 d_Al_takeRegister_82
    · refine lv_aload_n hx hb d_Al_takeRegister_43 rfl (lv_at hl 4 rfl) ?_
      refine lv_aload_n hx hb d_Al_takeRegister_44 rfl (lv_at hl 5 rfl) ?_
      refine lv_iload_n hx hb d_Al_takeRegister_45 rfl (lv_at hl 6 rfl) ?_
      refine lv_iload hx hb d_Al_takeRegister_46 (lv_at hl 0 rfl) ?_
      refine rdVd (ci := 0) (q0 := 0) (As := [.ref h, .int (nI v), .int (nI r)]) (rest := []) ⟨hx, hb, hml, hown, hg⟩ (c_Al_heaviestMeeting l dC dI cI al ah k ev hm h o1 o2 o3 o4 o5 o6 n vc ops lf rg E U P v (nI r) hn hE24 hwf hv24 (fun j hj _ => hwa j hj)) (cwV 3 hg (tg_V tw_295 tw_297 sp_Al_heaviestMeeting tw_4 tw_298) rfl rfl rfl (by decide +kernel) ⟨Nat.le_of_ble_eq_true rfl, Nat.le_of_ble_eq_true rfl⟩) (hK.sub [0] rfl) (hP.sub [0, 1, 2, 3, 4, 5, 6, 7, 8] rfl) rfl rfl rfl hl.1 rfl (lv_room (Nat.le_of_ble_eq_true rfl)) d_Al_takeRegister_48 ⟨Nat.le_of_ble_eq_true rfl, Nat.le_of_ble_eq_true rfl⟩ ?_
      refine lv_dstore (lv' := [(8, .double (hv E P hm v (nI r) n)), (7, .int (nI r)), (5, .double d), (4, .int (oI b)), (3, .int (nI (mayR ops E n v k))), (0, .ref al), (1, .ref h), (2, .int (nI v))]) hx hb d_Al_takeRegister_51 hl (by decide) rfl (fun ls hl => ?_)
      refine lv_dload hx hb d_Al_takeRegister_53 (lv_at hl 0 rfl) ?_
      refine lv_dload hx hb d_Al_takeRegister_55 (lv_at hl 2 rfl) ?_
      refine lv_dcmp hx hb d_Al_takeRegister_57 ?_
      refine lv_if_ge (tgt := 69) hx hb d_Al_takeRegister_58 (by decide) (fun c9 => ?_) (fun c9 => ?_)
      · refine lv_iinc (v := (nI (r + 1))) (lv' := [(7, .int (nI (r + 1))), (8, .double (hv E P hm v (nI r) n)), (5, .double d), (4, .int (oI b)), (3, .int (nI (mayR ops E n v k))), (0, .ref al), (1, .ref h), (2, .int (nI v))]) hx hb d_Al_takeRegister_69 hl (k := 1) rfl (nI_add _ 1) (by decide) rfl (fun ls hl => ?_)
        refine lv_goto (tgt := 37) hx hb d_Al_takeRegister_72 (by decide) ?_
        exact ih3 (b, d, r + 1) ls ⟨lv_sub hl [0, 2, 3, 4, 5, 6, 7] rfl, c5, (trF_n hbd (dlt_n c9))⟩ (by show 6 - (r + 1) < 6 - r; have := c5; have := mayR_le ops E n v k; omega)
      · refine lv_iload hx hb d_Al_takeRegister_61 (lv_at hl 1 rfl) ?_
        refine lv_istore (lv' := [(4, .int (nI r)), (8, .double (hv E P hm v (nI r) n)), (7, .int (nI r)), (5, .double d), (3, .int (nI (mayR ops E n v k))), (0, .ref al), (1, .ref h), (2, .int (nI v))]) hx hb d_Al_takeRegister_63 hl (by decide) rfl (fun ls hl => ?_)
        refine lv_dload hx hb d_Al_takeRegister_65 (lv_at hl 1 rfl) ?_
        refine lv_dstore (lv' := [(5, .double (hv E P hm v (nI r) n)), (4, .int (nI r)), (8, .double (hv E P hm v (nI r) n)), (7, .int (nI r)), (3, .int (nI (mayR ops E n v k))), (0, .ref al), (1, .ref h), (2, .int (nI v))]) hx hb d_Al_takeRegister_67 hl (by decide) rfl (fun ls hl => ?_)
        refine lv_iinc (v := (nI (r + 1))) (lv' := [(7, .int (nI (r + 1))), (5, .double (hv E P hm v (nI r) n)), (4, .int (nI r)), (8, .double (hv E P hm v (nI r) n)), (3, .int (nI (mayR ops E n v k))), (0, .ref al), (1, .ref h), (2, .int (nI v))]) hx hb d_Al_takeRegister_69 hl (k := 3) rfl (nI_add _ 1) (by decide) rfl (fun ls hl => ?_)
        refine lv_goto (tgt := 37) hx hb d_Al_takeRegister_72 (by decide) ?_
        exact ih3 (some r, hv E P hm v (nI r) n, r + 1) ls ⟨lv_sub hl [0, 1, 2, 4, 5, 6, 7] rfl, c5, (trF_y hbd (dlt_of c9))⟩ (by show 6 - (r + 1) < 6 - r; have := c5; have := mayR_le ops E n v k; omega)
  · refine lv_aload_n hx hb d_Al_takeRegister_8 rfl (lv_at hl 0 rfl) ?_
    refine va_get (D := (dC, dI)) (ci := 0) (v := .int (nI k)) (C := R_Al) (T := T_Al) (N := 3) hx hb hg in_Al hown hK hP 0 rfl rfl 1 (by decide) (hg _ tw_90) (fun _ h9 => h9) rfl d_Al_takeRegister_9 ?_
    refine lv_iconst (v := 2) hx hb d_Al_takeRegister_12 (by decide) ?_
    refine va_mmin hx hb (hml.trans hl.1.symm) hown (hg _ tw_287) (hg _ tw_288) (hg _ tw_12) (hg _ tw_289) (Nat.le_of_ble_eq_true rfl) (Nat.le_of_ble_eq_true rfl) (Nat.le_of_ble_eq_true rfl) (Nat.le_of_ble_eq_true rfl) d_Al_takeRegister_13 ?_
    refine wb_top (mn2 hk5) ?_
    refine lv_goto (tgt := 23) hx hb d_Al_takeRegister_16 (by decide) ?_
    refine wb_top (mayR_t c1) ?_
    refine lv_istore_n (lv' := [(3, .int (nI (mayR ops E n v k))), (0, .ref al), (1, .ref h), (2, .int (nI v))]) hx hb d_Al_takeRegister_23 rfl hl (by decide) rfl (fun ls hl => ?_)
    refine lv_iconst (v := -1) hx hb d_Al_takeRegister_24 (by decide) ?_
    refine lv_istore (lv' := [(4, .int ((-1 : Int32))), (3, .int (nI (mayR ops E n v k))), (0, .ref al), (1, .ref h), (2, .int (nI v))]) hx hb d_Al_takeRegister_25 hl (by decide) rfl (fun ls hl => ?_)
    refine lv_aload_n hx hb d_Al_takeRegister_27 rfl (lv_at hl 3 rfl) ?_
    refine lv_iload_n hx hb d_Al_takeRegister_28 rfl (lv_at hl 4 rfl) ?_
    refine rdVd (ci := 1) (q0 := 0) (As := [.int (nI v)]) (rest := []) ⟨hx, hb, hml, hown, hg⟩ (c_Co_weightOf l dC dI cI h o1 o2 o3 o4 o5 o6 n vc ops lf rg E U P v hv24 (Nat.le_of_lt (hwf v hvn)) (hwa v hvn)) (cwV 1 hg (tg_V tw_290 tw_291 tw_292 tw_2 tw_293) rfl rfl rfl (by decide +kernel) ⟨Nat.le_of_ble_eq_true rfl, Nat.le_of_ble_eq_true rfl⟩) (hK.sub [0] rfl) (hP.sub [2, 3, 4, 5, 6, 7, 8] rfl) rfl rfl rfl hl.1 rfl (lv_room (Nat.le_of_ble_eq_true rfl)) d_Al_takeRegister_29 ⟨Nat.le_of_ble_eq_true rfl, Nat.le_of_ble_eq_true rfl⟩ ?_
    refine lv_dstore (lv' := [(5, .double (wt P E v)), (4, .int ((-1 : Int32))), (3, .int (nI (mayR ops E n v k))), (0, .ref al), (1, .ref h), (2, .int (nI v))]) hx hb d_Al_takeRegister_32 hl (by decide) rfl (fun ls hl => ?_)
    refine lv_iconst (v := 0) hx hb d_Al_takeRegister_34 (by decide) ?_
    refine lv_istore (lv' := [(7, .int ((0 : Int32))), (5, .double (wt P E v)), (4, .int ((-1 : Int32))), (3, .int (nI (mayR ops E n v k))), (0, .ref al), (1, .ref h), (2, .int (nI v))]) hx hb d_Al_takeRegister_35 hl (by decide) rfl (fun ls hl => ?_)
    refine wb_loopP (σ := (Option Nat) × UInt64 × Nat) 37 (fun x10 ls => lv_has ls 10 [(7, .int (nI x10.2.2)), (5, .double x10.2.1), (4, .int (oI x10.1)), (3, .int (nI (mayR ops E n v k))), (0, .ref al), (1, .ref h), (2, .int (nI v))] ∧ (x10.2.2 ≤ mayR ops E n v k) ∧ ((x10.1, x10.2.1) = trF E P hm n v x10.2.2)) (fun x10 => 6 - x10.2.2) ?_ (none, wt P E v, 0) ls ⟨lv_sub hl [0, 1, 2, 3, 4, 5, 6] rfl, (Nat.zero_le _), rfl⟩
    clear hl
    intro x10 ls hI12 ih11
    obtain ⟨b, d, r⟩ := x10
    obtain ⟨hl, hr1, hbd⟩ := hI12
    have hl : lv_has ls 10 [(7, .int (nI r)), (5, .double d), (4, .int (oI b)), (3, .int (nI (mayR ops E n v k))), (0, .ref al), (1, .ref h), (2, .int (nI v))] := hl
    have hr1 : r ≤ mayR ops E n v k := hr1
    have hbd : (b, d) = trF E P hm n v r := hbd
    refine lv_iload hx hb d_Al_takeRegister_37 (lv_at hl 0 rfl) ?_
    refine lv_iload_n hx hb d_Al_takeRegister_39 rfl (lv_at hl 3 rfl) ?_
    refine wb_icmp_ge (tgt := 75) hx hb r (mayR ops E n v k) rfl rfl (by have := mayR_le ops E n v k; omega) (by have := mayR_le ops E n v k; omega) d_Al_takeRegister_40 (by decide) (fun c13 => ?_) (fun c13 => ?_)
    · refine lv_iload hx hb d_Al_takeRegister_75 (lv_at hl 2 rfl) ?_
      refine lv_iconst (v := -1) hx hb d_Al_takeRegister_77 (by decide) ?_
      refine lv_icmp_ne (tgt := 83) hx hb d_Al_takeRegister_78 (by decide) (fun c14 => ?_) (fun c14 => ?_)
      · obtain ⟨x, rfl⟩ := oI_some c14
        have eb : (trF E P hm n v (mayR ops E n v k)).1 = some x := (congrArg Prod.fst (hbd.trans (congrArg (trF E P hm n v) (Nat.le_antisymm hr1 c13)))).symm
        have hl : lv_has ls 10 [(7, .int (nI r)), (5, .double d), (4, .int (nI x)), (3, .int (nI (mayR ops E n v k))), (0, .ref al), (1, .ref h), (2, .int (nI v))] := hl
        refine lv_aload_n hx hb d_Al_takeRegister_83 rfl (lv_at hl 4 rfl) ?_
        refine lv_aload_n hx hb d_Al_takeRegister_84 rfl (lv_at hl 5 rfl) ?_
        refine lv_iload_n hx hb d_Al_takeRegister_85 rfl (lv_at hl 6 rfl) ?_
        refine lv_iload hx hb d_Al_takeRegister_86 (lv_at hl 2 rfl) ?_
        refine chVv (ci := 0) (q0 := 0) (wr := []) (As := [.ref h, .int (nI v), .int (nI x)]) (rest := []) ⟨hx, hb, hml, hown, hg⟩ (c_Al_evictMeeting l dC dI cI al ah k ev hm h o1 o2 o3 o4 o5 o6 n vc ops lf rg E U P v (nI x) _ hn hE24 hv24) (cwV 3 hg (tg_V tw_303 tw_305 sp_Al_evictMeeting tw_4 tw_306) rfl rfl rfl (by decide +kernel) ⟨Nat.le_of_ble_eq_true rfl, Nat.le_of_ble_eq_true rfl⟩) (hK.sub [0] rfl) hP hD hS hA [0, 1, 2, 3, 4, 5, 6, 7, 8] [] rfl rfl (by decide) (by decide) (by decide) rfl rfl rfl hl.1 rfl (lv_room (Nat.le_of_ble_eq_true rfl)) d_Al_takeRegister_88 ⟨Nat.le_of_ble_eq_true rfl, Nat.le_of_ble_eq_true rfl⟩ (fun u15 H locs w16 hP hD hS => ?_)
        have hP : va_P (dC, dI) vwCl [(al, .inr (0, [.ref ah, .int (nI k), .int (nI (ev + evC E hm v (nI x) n))])), (ah, .inl (cI, 24, .inl (evH E hm v (nI x) n))), (h, .inr (1, [.ref o1, .ref o2, .ref o3, .ref o4, .ref o5, .ref o6, .int (nI n), .int (nI vc)])), (o1, .inl (cI, 24, .inl ops)), (o2, .inl (cI, 24, .inl lf)), (o3, .inl (cI, 24, .inl rg)), (o4, .inl (cI, 24, .inl (fun z9 => nI (E z9)))), (o5, .inl (cI, 24, .inl (fun z9 => nI (U z9)))), (o6, .inl (cI, 24, .inl (fun z9 => nI (P z9))))] H := hP
        have hD : va_D A [(al, .inr (0, [.ref ah, .int (nI k), .int (nI (ev + evC E hm v (nI x) n))])), (ah, .inl (cI, 24, .inl (evH E hm v (nI x) n))), (h, .inr (1, [.ref o1, .ref o2, .ref o3, .ref o4, .ref o5, .ref o6, .int (nI n), .int (nI vc)])), (o1, .inl (cI, 24, .inl ops)), (o2, .inl (cI, 24, .inl lf)), (o3, .inl (cI, 24, .inl rg)), (o4, .inl (cI, 24, .inl (fun z9 => nI (E z9)))), (o5, .inl (cI, 24, .inl (fun z9 => nI (U z9)))), (o6, .inl (cI, 24, .inl (fun z9 => nI (P z9))))] := hD
        refine lv_aload_n hx hb d_Al_takeRegister_91 rfl (lv_at hl 4 rfl) ?_
        refine va_get (D := (dC, dI)) (ci := 0) (v := .ref ah) (C := R_Al) (T := T_Al) (N := 3) hx hb hg in_Al hown hK hP 0 rfl rfl 0 (by decide) (hg _ tw_89) (fun _ h9 => h9) rfl d_Al_takeRegister_92 ?_
        refine lv_iload_n hx hb d_Al_takeRegister_95 rfl (lv_at hl 6 rfl) ?_
        refine lv_iload hx hb d_Al_takeRegister_96 (lv_at hl 2 rfl) ?_
        refine wb_iast hx hb hK hP hD hS 1 0 rfl rfl v rfl hv24 (by decide) d_Al_takeRegister_98 (fun H locs hP hD hS => ?_)
        have hP : va_P (dC, dI) vwCl [(al, .inr (0, [.ref ah, .int (nI k), .int (nI (ev + evC E hm v (nI x) n))])), (ah, .inl (cI, 24, .inl (upd (evH E hm v (nI x) n) v (nI x)))), (h, .inr (1, [.ref o1, .ref o2, .ref o3, .ref o4, .ref o5, .ref o6, .int (nI n), .int (nI vc)])), (o1, .inl (cI, 24, .inl ops)), (o2, .inl (cI, 24, .inl lf)), (o3, .inl (cI, 24, .inl rg)), (o4, .inl (cI, 24, .inl (fun z9 => nI (E z9)))), (o5, .inl (cI, 24, .inl (fun z9 => nI (U z9)))), (o6, .inl (cI, 24, .inl (fun z9 => nI (P z9))))] H := hP
        have hD : va_D A [(al, .inr (0, [.ref ah, .int (nI k), .int (nI (ev + evC E hm v (nI x) n))])), (ah, .inl (cI, 24, .inl (upd (evH E hm v (nI x) n) v (nI x)))), (h, .inr (1, [.ref o1, .ref o2, .ref o3, .ref o4, .ref o5, .ref o6, .int (nI n), .int (nI vc)])), (o1, .inl (cI, 24, .inl ops)), (o2, .inl (cI, 24, .inl lf)), (o3, .inl (cI, 24, .inl rg)), (o4, .inl (cI, 24, .inl (fun z9 => nI (E z9)))), (o5, .inl (cI, 24, .inl (fun z9 => nI (U z9)))), (o6, .inl (cI, 24, .inl (fun z9 => nI (P z9))))] := hD
        refine lv_iconst (v := 1) hx hb d_Al_takeRegister_99 (by decide) ?_
        have hP9 : va_P (dC, dI) vwCl [(al, .inr (0, [.ref ah, .int (nI k), .int (nI (ev + tkC E hm n v (trF E P hm n v (mayR ops E n v k)).1))])), (ah, .inl (cI, 24, .inl (tkH E hm n v (trF E P hm n v (mayR ops E n v k)).1))), (h, .inr (1, [.ref o1, .ref o2, .ref o3, .ref o4, .ref o5, .ref o6, .int (nI n), .int (nI vc)])), (o1, .inl (cI, 24, .inl ops)), (o2, .inl (cI, 24, .inl lf)), (o3, .inl (cI, 24, .inl rg)), (o4, .inl (cI, 24, .inl (fun z9 => nI (E z9)))), (o5, .inl (cI, 24, .inl (fun z9 => nI (U z9)))), (o6, .inl (cI, 24, .inl (fun z9 => nI (P z9))))] _ := (by rw [eb]; exact hP.sub [0, 1, 2, 3, 4, 5, 6, 7, 8] rfl)
        have hD9 : va_D A [(al, .inr (0, [.ref ah, .int (nI k), .int (nI (ev + tkC E hm n v (trF E P hm n v (mayR ops E n v k)).1))])), (ah, .inl (cI, 24, .inl (tkH E hm n v (trF E P hm n v (mayR ops E n v k)).1))), (h, .inr (1, [.ref o1, .ref o2, .ref o3, .ref o4, .ref o5, .ref o6, .int (nI n), .int (nI vc)])), (o1, .inl (cI, 24, .inl ops)), (o2, .inl (cI, 24, .inl lf)), (o3, .inl (cI, 24, .inl rg)), (o4, .inl (cI, 24, .inl (fun z9 => nI (E z9)))), (o5, .inl (cI, 24, .inl (fun z9 => nI (U z9)))), (o6, .inl (cI, 24, .inl (fun z9 => nI (P z9))))] := (by rw [eb]; exact hD.sub [0, 1, 2, 3, 4, 5, 6, 7, 8] (by decide) rfl)
        exact W.zret (v := (1 : Int32)) (ty := .boolean) hx hb hr rfl (fun t ht hW => ⟨⟨_, (), rfl, (by rw [eb]; rfl), by rw [ht]; exact hP9, va_K.moved hW.alike hK, hD9⟩, hS.F ht⟩) hS.2.2 d_Al_takeRegister_100
      · refine lv_iconst (v := 0) hx hb d_Al_takeRegister_81 (by decide) ?_
        have eb : (trF E P hm n v (mayR ops E n v k)).1 = none := (congrArg Prod.fst (hbd.trans (congrArg (trF E P hm n v) (Nat.le_antisymm hr1 c13)))).symm.trans (oI_m1 c14 (fun z q => Nat.lt_of_lt_of_le (trF_lt ((congrArg Prod.fst hbd).symm.trans q)) (Nat.le_trans hr1 (Nat.le_trans (mayR_le ops E n v k) (Nat.le_trans hk5 (by decide))))))
        have hP9 : va_P (dC, dI) vwCl [(al, .inr (0, [.ref ah, .int (nI k), .int (nI (ev + tkC E hm n v (trF E P hm n v (mayR ops E n v k)).1))])), (ah, .inl (cI, 24, .inl (tkH E hm n v (trF E P hm n v (mayR ops E n v k)).1))), (h, .inr (1, [.ref o1, .ref o2, .ref o3, .ref o4, .ref o5, .ref o6, .int (nI n), .int (nI vc)])), (o1, .inl (cI, 24, .inl ops)), (o2, .inl (cI, 24, .inl lf)), (o3, .inl (cI, 24, .inl rg)), (o4, .inl (cI, 24, .inl (fun z9 => nI (E z9)))), (o5, .inl (cI, 24, .inl (fun z9 => nI (U z9)))), (o6, .inl (cI, 24, .inl (fun z9 => nI (P z9))))] _ := (by rw [eb]; exact hP.sub [0, 1, 2, 3, 4, 5, 6, 7, 8] rfl)
        have hD9 : va_D A [(al, .inr (0, [.ref ah, .int (nI k), .int (nI (ev + tkC E hm n v (trF E P hm n v (mayR ops E n v k)).1))])), (ah, .inl (cI, 24, .inl (tkH E hm n v (trF E P hm n v (mayR ops E n v k)).1))), (h, .inr (1, [.ref o1, .ref o2, .ref o3, .ref o4, .ref o5, .ref o6, .int (nI n), .int (nI vc)])), (o1, .inl (cI, 24, .inl ops)), (o2, .inl (cI, 24, .inl lf)), (o3, .inl (cI, 24, .inl rg)), (o4, .inl (cI, 24, .inl (fun z9 => nI (E z9)))), (o5, .inl (cI, 24, .inl (fun z9 => nI (U z9)))), (o6, .inl (cI, 24, .inl (fun z9 => nI (P z9))))] := (by rw [eb]; exact hD.sub [0, 1, 2, 3, 4, 5, 6, 7, 8] (by decide) rfl)
        exact W.zret (v := (0 : Int32)) (ty := .boolean) hx hb hr rfl (fun t ht hW => ⟨⟨_, (), rfl, (by rw [eb]; rfl), by rw [ht]; exact hP9, va_K.moved hW.alike hK, hD9⟩, hS.F ht⟩) hS.2.2 d_Al_takeRegister_82
    · refine lv_aload_n hx hb d_Al_takeRegister_43 rfl (lv_at hl 4 rfl) ?_
      refine lv_aload_n hx hb d_Al_takeRegister_44 rfl (lv_at hl 5 rfl) ?_
      refine lv_iload_n hx hb d_Al_takeRegister_45 rfl (lv_at hl 6 rfl) ?_
      refine lv_iload hx hb d_Al_takeRegister_46 (lv_at hl 0 rfl) ?_
      refine rdVd (ci := 0) (q0 := 0) (As := [.ref h, .int (nI v), .int (nI r)]) (rest := []) ⟨hx, hb, hml, hown, hg⟩ (c_Al_heaviestMeeting l dC dI cI al ah k ev hm h o1 o2 o3 o4 o5 o6 n vc ops lf rg E U P v (nI r) hn hE24 hwf hv24 (fun j hj _ => hwa j hj)) (cwV 3 hg (tg_V tw_295 tw_297 sp_Al_heaviestMeeting tw_4 tw_298) rfl rfl rfl (by decide +kernel) ⟨Nat.le_of_ble_eq_true rfl, Nat.le_of_ble_eq_true rfl⟩) (hK.sub [0] rfl) (hP.sub [0, 1, 2, 3, 4, 5, 6, 7, 8] rfl) rfl rfl rfl hl.1 rfl (lv_room (Nat.le_of_ble_eq_true rfl)) d_Al_takeRegister_48 ⟨Nat.le_of_ble_eq_true rfl, Nat.le_of_ble_eq_true rfl⟩ ?_
      refine lv_dstore (lv' := [(8, .double (hv E P hm v (nI r) n)), (7, .int (nI r)), (5, .double d), (4, .int (oI b)), (3, .int (nI (mayR ops E n v k))), (0, .ref al), (1, .ref h), (2, .int (nI v))]) hx hb d_Al_takeRegister_51 hl (by decide) rfl (fun ls hl => ?_)
      refine lv_dload hx hb d_Al_takeRegister_53 (lv_at hl 0 rfl) ?_
      refine lv_dload hx hb d_Al_takeRegister_55 (lv_at hl 2 rfl) ?_
      refine lv_dcmp hx hb d_Al_takeRegister_57 ?_
      refine lv_if_ge (tgt := 69) hx hb d_Al_takeRegister_58 (by decide) (fun c17 => ?_) (fun c17 => ?_)
      · refine lv_iinc (v := (nI (r + 1))) (lv' := [(7, .int (nI (r + 1))), (8, .double (hv E P hm v (nI r) n)), (5, .double d), (4, .int (oI b)), (3, .int (nI (mayR ops E n v k))), (0, .ref al), (1, .ref h), (2, .int (nI v))]) hx hb d_Al_takeRegister_69 hl (k := 1) rfl (nI_add _ 1) (by decide) rfl (fun ls hl => ?_)
        refine lv_goto (tgt := 37) hx hb d_Al_takeRegister_72 (by decide) ?_
        exact ih11 (b, d, r + 1) ls ⟨lv_sub hl [0, 2, 3, 4, 5, 6, 7] rfl, c13, (trF_n hbd (dlt_n c17))⟩ (by show 6 - (r + 1) < 6 - r; have := c13; have := mayR_le ops E n v k; omega)
      · refine lv_iload hx hb d_Al_takeRegister_61 (lv_at hl 1 rfl) ?_
        refine lv_istore (lv' := [(4, .int (nI r)), (8, .double (hv E P hm v (nI r) n)), (7, .int (nI r)), (5, .double d), (3, .int (nI (mayR ops E n v k))), (0, .ref al), (1, .ref h), (2, .int (nI v))]) hx hb d_Al_takeRegister_63 hl (by decide) rfl (fun ls hl => ?_)
        refine lv_dload hx hb d_Al_takeRegister_65 (lv_at hl 1 rfl) ?_
        refine lv_dstore (lv' := [(5, .double (hv E P hm v (nI r) n)), (4, .int (nI r)), (8, .double (hv E P hm v (nI r) n)), (7, .int (nI r)), (3, .int (nI (mayR ops E n v k))), (0, .ref al), (1, .ref h), (2, .int (nI v))]) hx hb d_Al_takeRegister_67 hl (by decide) rfl (fun ls hl => ?_)
        refine lv_iinc (v := (nI (r + 1))) (lv' := [(7, .int (nI (r + 1))), (5, .double (hv E P hm v (nI r) n)), (4, .int (nI r)), (8, .double (hv E P hm v (nI r) n)), (3, .int (nI (mayR ops E n v k))), (0, .ref al), (1, .ref h), (2, .int (nI v))]) hx hb d_Al_takeRegister_69 hl (k := 3) rfl (nI_add _ 1) (by decide) rfl (fun ls hl => ?_)
        refine lv_goto (tgt := 37) hx hb d_Al_takeRegister_72 (by decide) ?_
        exact ih11 (some r, hv E P hm v (nI r) n, r + 1) ls ⟨lv_sub hl [0, 1, 2, 4, 5, 6, 7] rfl, c13, (trF_y hbd (dlt_of c17))⟩ (by show 6 - (r + 1) < 6 - r; have := c13; have := mayR_le ops E n v k; omega)
