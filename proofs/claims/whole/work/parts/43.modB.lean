/-! AllocForgeModel: isFree, heaviest, next, free -/
set_option maxHeartbeats 4000000 in
set_option maxRecDepth 100000 in
theorem c_Mo_isFree (l : Launch) (dC : Nat → ClassId) (dI : Nat → Nat → Nat) (cI : ClassId) (mo : Nat) (a1 : Nat) (a2 : Nat) (a3 : Nat) (a4 : Nat) (a5 : Nat) (a6 : Nat) (a7 : Nat) (a8 : Nat) (a9 : Nat) (a10 : Nat) (ops : Nat → Int32) (lf : Nat → Int32) (rg : Nat → Int32) (dpa : Nat → Int32) (plc : Nat → Int32) (mde : Nat → Int32) (val : Nat → Int32) (cel : Nat → Int32) (sdm : Nat → Int32) (bfr : Nat → Int32) (n : Nat) (evm : Nat) (rgm : Nat) (sm : Nat) (rm : Int32) (tm : Int32) (chm : Nat) (alc : Bool) (E : Nat → Nat) (v : Nat) (x : Int32) (hn : n ≤ 24) (hEn : ∀ j, j < n → enI ops lf rg j n = E j) (hE24 : ∀ j, E j ≤ 24) (hv : v < n) : Met l y_Mo_isFree ws_Mo_isFree (lvR 5 0 0) (va_Pc [.ref mo, .int (nI v), .int x] (PB (dC, dI) vwCl [(mo, .inr (4, [.ref a1, .ref a2, .ref a3, .ref a4, .ref a5, .ref a6, .ref a7, .ref a8, .ref a9, .ref a10, .int (nI n), .int (nI evm), .int (nI rgm), .int (nI sm), .int rm, .int tm, .int (nI chm), .int (bI alc)])), (a1, .inl (cI, 24, .inl ops)), (a2, .inl (cI, 24, .inl lf)), (a3, .inl (cI, 24, .inl rg)), (a4, .inl (cI, 24, .inl dpa)), (a5, .inl (cI, 24, .inl plc)), (a6, .inl (cI, 24, .inl mde)), (a7, .inl (cI, 24, .inl val)), (a8, .inl (cI, 16, .inl cel)), (a9, .inl (cI, 24, .inl sdm)), (a10, .inl (cI, 24, .inl bfr))] [(cI, .int)])) (vp_Si (fun r => r = bI (frB ops E mde v x n))) 0 0 (fun _ => False) := by
  refine Met.ofW (cc := b_Mo_isFree) (maxL := 4) (ret := (some .boolean)) (by decide) rfl ?_
  intro p e s m args below meth c s₁ B hml hv
  obtain ⟨rfl, hP, hK⟩ := hv
  have hx := B.exec
  have hb := B.bytes
  have hr := B.returns
  have hts := atoms_spec (ws := ws_Mo_isFree) B.pre
  have hg : ∀ w ∈ TG, w.before ([.ref mo, .int (nI v), .int x] : List Value).toArray s = true := fun w h => hts w (List.mem_cons_of_mem _ h)
  have hown : s.vm.findClass R_Mo = some m.cls := findClass_of_methodNamed B.named
  have hlocks := B.notSynchronized
  have hl := lv_entry ([.ref mo, .int (nI v), .int x]) (n := 4) (Nat.le_of_ble_eq_true rfl)
  rw [lg_entry_eq]
  generalize (lg_sl ([.ref mo, .int (nI v), .int x]) ++ List.replicate (4 - (lg_sl ([.ref mo, .int (nI v), .int x])).length) Slot.unset).toArray = ls at hl ⊢
  have hl : lv_has ls 4 [(0, .ref mo), (1, .int (nI v)), (2, .int x)] := hl
  refine lv_iconst (v := 0) hx hb d_Mo_isFree_0 (by decide) ?_
  refine lv_istore_n (lv' := [(3, .int ((0 : Int32))), (0, .ref mo), (1, .int (nI v)), (2, .int x)]) hx hb d_Mo_isFree_1 rfl hl (by decide) rfl (fun ls hl => ?_)
  refine wb_loopP (σ := Nat) 2 (fun w ls => lv_has ls 4 [(3, .int (nI w)), (0, .ref mo), (1, .int (nI v)), (2, .int x)] ∧ (w ≤ n) ∧ (frB ops E mde v x w = true)) (fun w => 25 - w) ?_ (0) ls ⟨lv_sub hl [0, 1, 2, 3] rfl, (Nat.zero_le _), rfl⟩
  clear hl
  intro w ls hI2 ih1
  obtain ⟨hl, hw1, hf⟩ := hI2
  refine lv_iload_n hx hb d_Mo_isFree_2 rfl (lv_at hl 0 rfl) ?_
  refine lv_aload_n hx hb d_Mo_isFree_3 rfl (lv_at hl 1 rfl) ?_
  refine va_get (D := (dC, dI)) (ci := 4) (v := .int (nI n)) (C := R_Mo) (T := T_Mo) (N := 18) hx hb hg in_Mo hown hK hP 0 rfl rfl 10 (by decide) (hg _ tw_580) (fun _ h9 => h9) rfl d_Mo_isFree_4 ?_
  refine wb_icmp_ge (tgt := 53) hx hb w n rfl rfl (by omega) (by omega) d_Mo_isFree_7 (by decide) (fun c3 => ?_) (fun c3 => ?_)
  · refine lv_iconst (v := 1) hx hb d_Mo_isFree_53 (by decide) ?_
    exact W.zret (v := (1 : Int32)) (ty := .boolean) hx hb hr rfl (fun t ht hW => ⟨_, rfl, (bI1 (by rw [← Nat.le_antisymm hw1 c3]; exact hf)), ht⟩) (fun q h => by cases h) d_Mo_isFree_54
  · refine lv_aload_n hx hb d_Mo_isFree_10 rfl (lv_at hl 1 rfl) ?_
    refine va_get (D := (dC, dI)) (ci := 4) (v := .ref a6) (C := R_Mo) (T := T_Mo) (N := 18) hx hb hg in_Mo hown hK hP 0 rfl rfl 5 (by decide) (hg _ tw_575) (fun _ h9 => h9) rfl d_Mo_isFree_11 ?_
    refine lv_iload_n hx hb d_Mo_isFree_14 rfl (lv_at hl 0 rfl) ?_
    refine wb_iald hx hb hK hP 6 0 rfl rfl w rfl (Nat.lt_of_lt_of_le c3 hn) (by decide) d_Mo_isFree_15 ?_
    refine lv_iload_n hx hb d_Mo_isFree_16 rfl (lv_at hl 3 rfl) ?_
    refine lv_icmp_ne (tgt := 47) hx hb d_Mo_isFree_17 (by decide) (fun c4 => ?_) (fun c4 => ?_)
    · refine lv_iinc (v := (nI (w + 1))) (lv' := [(3, .int (nI (w + 1))), (0, .ref mo), (1, .int (nI v)), (2, .int x)]) hx hb d_Mo_isFree_47 hl (k := 0) rfl (nI_add _ 1) (by decide) rfl (fun ls hl => ?_)
      refine lv_goto (tgt := 2) hx hb d_Mo_isFree_50 (by decide) ?_
      exact ih1 (w + 1) ls ⟨lv_sub hl [0, 1, 2, 3] rfl, c3, (frB_y hf (Or.inl c4))⟩ (by have := c3; omega)
    · refine lv_iload_n hx hb d_Mo_isFree_20 rfl (lv_at hl 0 rfl) ?_
      refine lv_iload_n hx hb d_Mo_isFree_21 rfl (lv_at hl 2 rfl) ?_
      refine wb_icmp_eq (tgt := 47) hx hb w v rfl rfl (by omega) (by omega) d_Mo_isFree_22 (by decide) (fun c5 => ?_) (fun c5 => ?_)
      · refine lv_iinc (v := (nI (w + 1))) (lv' := [(3, .int (nI (w + 1))), (0, .ref mo), (1, .int (nI v)), (2, .int x)]) hx hb d_Mo_isFree_47 hl (k := 0) rfl (nI_add _ 1) (by decide) rfl (fun ls hl => ?_)
        refine lv_goto (tgt := 2) hx hb d_Mo_isFree_50 (by decide) ?_
        exact ih1 (w + 1) ls ⟨lv_sub hl [0, 1, 2, 3] rfl, c3, (frB_y hf (Or.inr (Or.inl c5)))⟩ (by have := c3; omega)
      · refine lv_aload_n hx hb d_Mo_isFree_25 rfl (lv_at hl 1 rfl) ?_
        refine va_get (D := (dC, dI)) (ci := 4) (v := .ref a1) (C := R_Mo) (T := T_Mo) (N := 18) hx hb hg in_Mo hown hK hP 0 rfl rfl 0 (by decide) (hg _ tw_570) (fun _ h9 => h9) rfl d_Mo_isFree_26 ?_
        refine lv_iload_n hx hb d_Mo_isFree_29 rfl (lv_at hl 0 rfl) ?_
        refine wb_iald hx hb hK hP 1 0 rfl rfl w rfl (Nat.lt_of_lt_of_le c3 hn) (by decide) d_Mo_isFree_30 ?_
        refine lv_bipush (v := 6) hx hb d_Mo_isFree_31 (by decide) ?_
        refine lv_icmp_eq (tgt := 47) hx hb d_Mo_isFree_33 (by decide) (fun c6 => ?_) (fun c6 => ?_)
        · refine lv_iinc (v := (nI (w + 1))) (lv' := [(3, .int (nI (w + 1))), (0, .ref mo), (1, .int (nI v)), (2, .int x)]) hx hb d_Mo_isFree_47 hl (k := 0) rfl (nI_add _ 1) (by decide) rfl (fun ls hl => ?_)
          refine lv_goto (tgt := 2) hx hb d_Mo_isFree_50 (by decide) ?_
          exact ih1 (w + 1) ls ⟨lv_sub hl [0, 1, 2, 3] rfl, c3, (frB_y hf (Or.inr (Or.inr (Or.inl c6))))⟩ (by have := c3; omega)
        · refine lv_aload_n hx hb d_Mo_isFree_36 rfl (lv_at hl 1 rfl) ?_
          refine lv_iload_n hx hb d_Mo_isFree_37 rfl (lv_at hl 2 rfl) ?_
          refine lv_iload_n hx hb d_Mo_isFree_38 rfl (lv_at hl 0 rfl) ?_
          refine rdV (ci := 4) (q0 := 0) (As := [.int (nI v), .int (nI w)]) (rest := []) ⟨hx, hb, hml, hown, hg⟩ (c_Mo_meet l dC dI cI mo a1 a2 a3 a4 a5 a6 a7 a8 a9 a10 ops lf rg dpa plc mde val cel sdm bfr n evm rgm sm rm tm chm alc E v w hn hEn hE24 hv c3) (cwV 2 hg (tg_V tw_683 tw_685 sp_Mo_meet tw_6 tw_686) rfl rfl rfl (by decide +kernel) ⟨Nat.le_of_ble_eq_true rfl, Nat.le_of_ble_eq_true rfl⟩) (hK.sub [0] rfl) (hP.sub [0, 1, 2, 3, 4, 5, 6, 7, 8, 9, 10] rfl) rfl rfl rfl hl.1 rfl (lv_room (Nat.le_of_ble_eq_true rfl)) d_Mo_isFree_39 ⟨Nat.le_of_ble_eq_true rfl, Nat.le_of_ble_eq_true rfl⟩ ?_
          refine wb_if_eqb (tgt := 47) hx hb (mt E v w) rfl d_Mo_isFree_42 (by decide) (fun c7 => ?_) (fun c7 => ?_)
          · refine lv_iinc (v := (nI (w + 1))) (lv' := [(3, .int (nI (w + 1))), (0, .ref mo), (1, .int (nI v)), (2, .int x)]) hx hb d_Mo_isFree_47 hl (k := 0) rfl (nI_add _ 1) (by decide) rfl (fun ls hl => ?_)
            refine lv_goto (tgt := 2) hx hb d_Mo_isFree_50 (by decide) ?_
            exact ih1 (w + 1) ls ⟨lv_sub hl [0, 1, 2, 3] rfl, c3, (frB_y hf (Or.inr (Or.inr (Or.inr c7))))⟩ (by have := c3; omega)
          · refine lv_iconst (v := 0) hx hb d_Mo_isFree_45 (by decide) ?_
            exact W.zret (v := (0 : Int32)) (ty := .boolean) hx hb hr rfl (fun t ht hW => ⟨_, rfl, (bI0 (frB_n c4 c5 c6 c7 c3)), ht⟩) (fun q h => by cases h) d_Mo_isFree_46

set_option maxHeartbeats 4000000 in
set_option maxRecDepth 100000 in
theorem c_Mo_heaviest (l : Launch) (dC : Nat → ClassId) (dI : Nat → Nat → Nat) (cI : ClassId) (mo : Nat) (a1 : Nat) (a2 : Nat) (a3 : Nat) (a4 : Nat) (a5 : Nat) (a6 : Nat) (a7 : Nat) (a8 : Nat) (a9 : Nat) (a10 : Nat) (ops : Nat → Int32) (lf : Nat → Int32) (rg : Nat → Int32) (dpa : Nat → Int32) (plc : Nat → Int32) (mde : Nat → Int32) (val : Nat → Int32) (cel : Nat → Int32) (sdm : Nat → Int32) (bfr : Nat → Int32) (n : Nat) (evm : Nat) (rgm : Nat) (sm : Nat) (rm : Int32) (tm : Int32) (chm : Nat) (alc : Bool) (E : Nat → Nat) (P : Nat → Nat) (v : Nat) (x : Int32) (hn : n ≤ 24) (hEn : ∀ j, j < n → enI ops lf rg j n = E j) (hPn : ∀ j, j < n → smI ops lf rg dpa j n = P j) (hE24 : ∀ j, E j ≤ 24) (hwf : ∀ j, j < n → j < E j) (hwa : ∀ j, j < n → vf_n64 (wt P E j)) (hv : v < n) : Met l y_Mo_heaviest ws_Mo_heaviest (lvR 5 0 0) (va_Pc [.ref mo, .int (nI v), .int x] (PB (dC, dI) vwCl [(mo, .inr (4, [.ref a1, .ref a2, .ref a3, .ref a4, .ref a5, .ref a6, .ref a7, .ref a8, .ref a9, .ref a10, .int (nI n), .int (nI evm), .int (nI rgm), .int (nI sm), .int rm, .int tm, .int (nI chm), .int (bI alc)])), (a1, .inl (cI, 24, .inl ops)), (a2, .inl (cI, 24, .inl lf)), (a3, .inl (cI, 24, .inl rg)), (a4, .inl (cI, 24, .inl dpa)), (a5, .inl (cI, 24, .inl plc)), (a6, .inl (cI, 24, .inl mde)), (a7, .inl (cI, 24, .inl val)), (a8, .inl (cI, 16, .inl cel)), (a9, .inl (cI, 24, .inl sdm)), (a10, .inl (cI, 24, .inl bfr))] [(cI, .int)])) (vp_Sd (fun r => r = hvM ops E P mde v x n)) 0 0 (fun _ => False) := by
  refine Met.ofW (cc := b_Mo_heaviest) (maxL := 8) (ret := (some .double)) (by decide) rfl ?_
  intro p e s m args below meth c s₁ B hml hv
  obtain ⟨rfl, hP, hK⟩ := hv
  have hx := B.exec
  have hb := B.bytes
  have hr := B.returns
  have hts := atoms_spec (ws := ws_Mo_heaviest) B.pre
  have hg : ∀ w ∈ TG, w.before ([.ref mo, .int (nI v), .int x] : List Value).toArray s = true := fun w h => hts w (List.mem_cons_of_mem _ h)
  have hown : s.vm.findClass R_Mo = some m.cls := findClass_of_methodNamed B.named
  have hlocks := B.notSynchronized
  have hl := lv_entry ([.ref mo, .int (nI v), .int x]) (n := 8) (Nat.le_of_ble_eq_true rfl)
  rw [lg_entry_eq]
  generalize (lg_sl ([.ref mo, .int (nI v), .int x]) ++ List.replicate (8 - (lg_sl ([.ref mo, .int (nI v), .int x])).length) Slot.unset).toArray = ls at hl ⊢
  have hl : lv_has ls 8 [(0, .ref mo), (1, .int (nI v)), (2, .int x)] := hl
  refine lv_dconst0 hx hb d_Mo_heaviest_0 ?_
  refine lv_dstore_n (lv' := [(3, .double FP.dconst0), (0, .ref mo), (1, .int (nI v)), (2, .int x)]) hx hb d_Mo_heaviest_1 rfl hl (by decide) rfl (fun ls hl => ?_)
  refine lv_iconst (v := 0) hx hb d_Mo_heaviest_2 (by decide) ?_
  refine lv_istore (lv' := [(5, .int ((0 : Int32))), (3, .double FP.dconst0), (0, .ref mo), (1, .int (nI v)), (2, .int x)]) hx hb d_Mo_heaviest_3 hl (by decide) rfl (fun ls hl => ?_)
  refine wb_loopP (σ := UInt64 × Nat) 5 (fun x1 ls => lv_has ls 8 [(5, .int (nI x1.2)), (3, .double x1.1), (0, .ref mo), (1, .int (nI v)), (2, .int x)] ∧ (x1.2 ≤ n) ∧ (x1.1 = hvM ops E P mde v x x1.2)) (fun x1 => 25 - x1.2) ?_ (FP.dconst0, 0) ls ⟨lv_sub hl [0, 1, 2, 3, 4] rfl, (Nat.zero_le _), rfl⟩
  clear hl
  intro x1 ls hI3 ih2
  obtain ⟨g9, w⟩ := x1
  obtain ⟨hl, hw1, ha⟩ := hI3
  have hl : lv_has ls 8 [(5, .int (nI w)), (3, .double g9), (0, .ref mo), (1, .int (nI v)), (2, .int x)] := hl
  have hw1 : w ≤ n := hw1
  have ha : g9 = hvM ops E P mde v x w := ha
  refine lv_iload hx hb d_Mo_heaviest_5 (lv_at hl 0 rfl) ?_
  refine lv_aload_n hx hb d_Mo_heaviest_7 rfl (lv_at hl 2 rfl) ?_
  refine va_get (D := (dC, dI)) (ci := 4) (v := .int (nI n)) (C := R_Mo) (T := T_Mo) (N := 18) hx hb hg in_Mo hown hK hP 0 rfl rfl 10 (by decide) (hg _ tw_580) (fun _ h9 => h9) rfl d_Mo_heaviest_8 ?_
  refine wb_icmp_ge (tgt := 80) hx hb w n rfl rfl (by omega) (by omega) d_Mo_heaviest_11 (by decide) (fun c4 => ?_) (fun c4 => ?_)
  · refine lv_dload_n hx hb d_Mo_heaviest_80 rfl (lv_at hl 1 rfl) ?_
    exact W.dret (v := g9) hx hb hr (fun t ht hW => ⟨_, rfl, (ha.trans (congrArg (hvM ops E P mde v x) (Nat.le_antisymm hw1 c4))), ht⟩) (fun q h => by cases h) d_Mo_heaviest_81
  · refine lv_aload_n hx hb d_Mo_heaviest_14 rfl (lv_at hl 2 rfl) ?_
    refine va_get (D := (dC, dI)) (ci := 4) (v := .ref a6) (C := R_Mo) (T := T_Mo) (N := 18) hx hb hg in_Mo hown hK hP 0 rfl rfl 5 (by decide) (hg _ tw_575) (fun _ h9 => h9) rfl d_Mo_heaviest_15 ?_
    refine lv_iload hx hb d_Mo_heaviest_18 (lv_at hl 0 rfl) ?_
    refine wb_iald hx hb hK hP 6 0 rfl rfl w rfl (Nat.lt_of_lt_of_le c4 hn) (by decide) d_Mo_heaviest_20 ?_
    refine lv_iload_n hx hb d_Mo_heaviest_21 rfl (lv_at hl 4 rfl) ?_
    refine lv_icmp_ne (tgt := 74) hx hb d_Mo_heaviest_22 (by decide) (fun c5 => ?_) (fun c5 => ?_)
    · refine lv_iinc (v := (nI (w + 1))) (lv' := [(5, .int (nI (w + 1))), (3, .double g9), (0, .ref mo), (1, .int (nI v)), (2, .int x)]) hx hb d_Mo_heaviest_74 hl (k := 0) rfl (nI_add _ 1) (by decide) rfl (fun ls hl => ?_)
      refine lv_goto (tgt := 5) hx hb d_Mo_heaviest_77 (by decide) ?_
      exact ih2 (g9, w + 1) ls ⟨lv_sub hl [0, 1, 2, 3, 4] rfl, c4, (hvM_n ha (Or.inl c5))⟩ (by show 25 - (w + 1) < 25 - w; have := c4; omega)
    · refine lv_iload hx hb d_Mo_heaviest_25 (lv_at hl 0 rfl) ?_
      refine lv_iload_n hx hb d_Mo_heaviest_27 rfl (lv_at hl 3 rfl) ?_
      refine wb_icmp_eq (tgt := 74) hx hb w v rfl rfl (by omega) (by omega) d_Mo_heaviest_28 (by decide) (fun c6 => ?_) (fun c6 => ?_)
      · refine lv_iinc (v := (nI (w + 1))) (lv' := [(5, .int (nI (w + 1))), (3, .double g9), (0, .ref mo), (1, .int (nI v)), (2, .int x)]) hx hb d_Mo_heaviest_74 hl (k := 0) rfl (nI_add _ 1) (by decide) rfl (fun ls hl => ?_)
        refine lv_goto (tgt := 5) hx hb d_Mo_heaviest_77 (by decide) ?_
        exact ih2 (g9, w + 1) ls ⟨lv_sub hl [0, 1, 2, 3, 4] rfl, c4, (hvM_n ha (Or.inr (Or.inl c6)))⟩ (by show 25 - (w + 1) < 25 - w; have := c4; omega)
      · refine lv_aload_n hx hb d_Mo_heaviest_31 rfl (lv_at hl 2 rfl) ?_
        refine va_get (D := (dC, dI)) (ci := 4) (v := .ref a1) (C := R_Mo) (T := T_Mo) (N := 18) hx hb hg in_Mo hown hK hP 0 rfl rfl 0 (by decide) (hg _ tw_570) (fun _ h9 => h9) rfl d_Mo_heaviest_32 ?_
        refine lv_iload hx hb d_Mo_heaviest_35 (lv_at hl 0 rfl) ?_
        refine wb_iald hx hb hK hP 1 0 rfl rfl w rfl (Nat.lt_of_lt_of_le c4 hn) (by decide) d_Mo_heaviest_37 ?_
        refine lv_bipush (v := 6) hx hb d_Mo_heaviest_38 (by decide) ?_
        refine lv_icmp_eq (tgt := 74) hx hb d_Mo_heaviest_40 (by decide) (fun c7 => ?_) (fun c7 => ?_)
        · refine lv_iinc (v := (nI (w + 1))) (lv' := [(5, .int (nI (w + 1))), (3, .double g9), (0, .ref mo), (1, .int (nI v)), (2, .int x)]) hx hb d_Mo_heaviest_74 hl (k := 0) rfl (nI_add _ 1) (by decide) rfl (fun ls hl => ?_)
          refine lv_goto (tgt := 5) hx hb d_Mo_heaviest_77 (by decide) ?_
          exact ih2 (g9, w + 1) ls ⟨lv_sub hl [0, 1, 2, 3, 4] rfl, c4, (hvM_n ha (Or.inr (Or.inr (Or.inl c7))))⟩ (by show 25 - (w + 1) < 25 - w; have := c4; omega)
        · refine lv_aload_n hx hb d_Mo_heaviest_43 rfl (lv_at hl 2 rfl) ?_
          refine lv_iload_n hx hb d_Mo_heaviest_44 rfl (lv_at hl 3 rfl) ?_
          refine lv_iload hx hb d_Mo_heaviest_45 (lv_at hl 0 rfl) ?_
          refine rdV (ci := 4) (q0 := 0) (As := [.int (nI v), .int (nI w)]) (rest := []) ⟨hx, hb, hml, hown, hg⟩ (c_Mo_meet l dC dI cI mo a1 a2 a3 a4 a5 a6 a7 a8 a9 a10 ops lf rg dpa plc mde val cel sdm bfr n evm rgm sm rm tm chm alc E v w hn hEn hE24 hv c4) (cwV 2 hg (tg_V tw_683 tw_685 sp_Mo_meet tw_6 tw_686) rfl rfl rfl (by decide +kernel) ⟨Nat.le_of_ble_eq_true rfl, Nat.le_of_ble_eq_true rfl⟩) (hK.sub [0] rfl) (hP.sub [0, 1, 2, 3, 4, 5, 6, 7, 8, 9, 10] rfl) rfl rfl rfl hl.1 rfl (lv_room (Nat.le_of_ble_eq_true rfl)) d_Mo_heaviest_47 ⟨Nat.le_of_ble_eq_true rfl, Nat.le_of_ble_eq_true rfl⟩ ?_
          refine wb_if_neb (tgt := 56) hx hb (mt E v w) rfl d_Mo_heaviest_50 (by decide) (fun c8 => ?_) (fun c8 => ?_)
          · refine lv_aload_n hx hb d_Mo_heaviest_56 rfl (lv_at hl 2 rfl) ?_
            refine lv_iload hx hb d_Mo_heaviest_57 (lv_at hl 0 rfl) ?_
            refine rdVd (ci := 4) (q0 := 0) (As := [.int (nI w)]) (rest := []) ⟨hx, hb, hml, hown, hg⟩ (c_Mo_heavy l dC dI cI mo a1 a2 a3 a4 a5 a6 a7 a8 a9 a10 ops lf rg dpa plc mde val cel sdm bfr n evm rgm sm rm tm chm alc E P w hn hEn hPn hwf hwa c4) (cwV 1 hg (tg_V tw_691 tw_693 sp_Mo_heavy tw_6 tw_694) rfl rfl rfl (by decide +kernel) ⟨Nat.le_of_ble_eq_true rfl, Nat.le_of_ble_eq_true rfl⟩) (hK.sub [0] rfl) (hP.sub [0, 1, 2, 3, 4, 5, 6, 7, 8, 9, 10] rfl) rfl rfl rfl hl.1 rfl (lv_room (Nat.le_of_ble_eq_true rfl)) d_Mo_heaviest_59 ⟨Nat.le_of_ble_eq_true rfl, Nat.le_of_ble_eq_true rfl⟩ ?_
            refine lv_dstore (lv' := [(6, .double (wt P E w)), (5, .int (nI w)), (3, .double g9), (0, .ref mo), (1, .int (nI v)), (2, .int x)]) hx hb d_Mo_heaviest_62 hl (by decide) rfl (fun ls hl => ?_)
            refine lv_dload hx hb d_Mo_heaviest_64 (lv_at hl 0 rfl) ?_
            refine lv_dload_n hx hb d_Mo_heaviest_66 rfl (lv_at hl 2 rfl) ?_
            refine lv_dcmp hx hb d_Mo_heaviest_67 ?_
            refine lv_if_le (tgt := 74) hx hb d_Mo_heaviest_68 (by decide) (fun c9 => ?_) (fun c9 => ?_)
            · refine lv_iinc (v := (nI (w + 1))) (lv' := [(5, .int (nI (w + 1))), (6, .double (wt P E w)), (3, .double g9), (0, .ref mo), (1, .int (nI v)), (2, .int x)]) hx hb d_Mo_heaviest_74 hl (k := 1) rfl (nI_add _ 1) (by decide) rfl (fun ls hl => ?_)
              refine lv_goto (tgt := 5) hx hb d_Mo_heaviest_77 (by decide) ?_
              exact ih2 (g9, w + 1) ls ⟨lv_sub hl [0, 2, 3, 4, 5] rfl, c4, (hvM_n ha (Or.inr (Or.inr (Or.inr (Or.inr (dgt_n c9))))))⟩ (by show 25 - (w + 1) < 25 - w; have := c4; omega)
            · refine lv_dload hx hb d_Mo_heaviest_71 (lv_at hl 0 rfl) ?_
              refine lv_dstore_n (lv' := [(3, .double (wt P E w)), (6, .double (wt P E w)), (5, .int (nI w)), (0, .ref mo), (1, .int (nI v)), (2, .int x)]) hx hb d_Mo_heaviest_73 rfl hl (by decide) rfl (fun ls hl => ?_)
              refine lv_iinc (v := (nI (w + 1))) (lv' := [(5, .int (nI (w + 1))), (3, .double (wt P E w)), (6, .double (wt P E w)), (0, .ref mo), (1, .int (nI v)), (2, .int x)]) hx hb d_Mo_heaviest_74 hl (k := 2) rfl (nI_add _ 1) (by decide) rfl (fun ls hl => ?_)
              refine lv_goto (tgt := 5) hx hb d_Mo_heaviest_77 (by decide) ?_
              exact ih2 (wt P E w, w + 1) ls ⟨lv_sub hl [0, 1, 3, 4, 5] rfl, c4, (hvM_y ha c5 c6 c7 c8 (dgt_of c9))⟩ (by show 25 - (w + 1) < 25 - w; have := c4; omega)
          · refine lv_goto (tgt := 74) hx hb d_Mo_heaviest_53 (by decide) ?_
            refine lv_iinc (v := (nI (w + 1))) (lv' := [(5, .int (nI (w + 1))), (3, .double g9), (0, .ref mo), (1, .int (nI v)), (2, .int x)]) hx hb d_Mo_heaviest_74 hl (k := 0) rfl (nI_add _ 1) (by decide) rfl (fun ls hl => ?_)
            refine lv_goto (tgt := 5) hx hb d_Mo_heaviest_77 (by decide) ?_
            exact ih2 (g9, w + 1) ls ⟨lv_sub hl [0, 1, 2, 3, 4] rfl, c4, (hvM_n ha (Or.inr (Or.inr (Or.inr (Or.inl c8)))))⟩ (by show 25 - (w + 1) < 25 - w; have := c4; omega)

set_option maxHeartbeats 4000000 in
set_option maxRecDepth 100000 in
theorem c_Mo_next (l : Launch) (dC : Nat → ClassId) (dI : Nat → Nat → Nat) (cI : ClassId) (mo : Nat) (a1 : Nat) (a2 : Nat) (a3 : Nat) (a4 : Nat) (a5 : Nat) (a6 : Nat) (a7 : Nat) (a8 : Nat) (a9 : Nat) (a10 : Nat) (ops : Nat → Int32) (lf : Nat → Int32) (rg : Nat → Int32) (dpa : Nat → Int32) (plc : Nat → Int32) (mde : Nat → Int32) (val : Nat → Int32) (cel : Nat → Int32) (sdm : Nat → Int32) (bfr : Nat → Int32) (n : Nat) (evm : Nat) (rgm : Nat) (sm : Nat) (rm : Int32) (tm : Int32) (chm : Nat) (alc : Bool) (E : Nat → Nat) (hn : n ≤ 24) (hEn : ∀ j, j < n → enI ops lf rg j n = E j) (hE24 : ∀ j, E j ≤ 24) (hwf : ∀ j, j < n → j < E j) : Met l y_Mo_next ws_Mo_next (lvR 4 0 0) (va_Pc [.ref mo] (PB (dC, dI) vwCl [(mo, .inr (4, [.ref a1, .ref a2, .ref a3, .ref a4, .ref a5, .ref a6, .ref a7, .ref a8, .ref a9, .ref a10, .int (nI n), .int (nI evm), .int (nI rgm), .int (nI sm), .int rm, .int tm, .int (nI chm), .int (bI alc)])), (a1, .inl (cI, 24, .inl ops)), (a2, .inl (cI, 24, .inl lf)), (a3, .inl (cI, 24, .inl rg)), (a4, .inl (cI, 24, .inl dpa)), (a5, .inl (cI, 24, .inl plc)), (a6, .inl (cI, 24, .inl mde)), (a7, .inl (cI, 24, .inl val)), (a8, .inl (cI, 16, .inl cel)), (a9, .inl (cI, 24, .inl sdm)), (a10, .inl (cI, 24, .inl bfr))] [(cI, .int)])) (vp_Si (fun r => r = oI (lw ops E n mde n))) 0 0 (fun _ => False) := by
  refine Met.ofW (cc := b_Mo_next) (maxL := 3) (ret := (some .int)) (by decide) rfl ?_
  intro p e s m args below meth c s₁ B hml hv
  obtain ⟨rfl, hP, hK⟩ := hv
  have hx := B.exec
  have hb := B.bytes
  have hr := B.returns
  have hts := atoms_spec (ws := ws_Mo_next) B.pre
  have hg : ∀ w ∈ TG, w.before ([.ref mo] : List Value).toArray s = true := fun w h => hts w (List.mem_cons_of_mem _ h)
  have hown : s.vm.findClass R_Mo = some m.cls := findClass_of_methodNamed B.named
  have hlocks := B.notSynchronized
  have hl := lv_entry ([.ref mo]) (n := 3) (Nat.le_of_ble_eq_true rfl)
  rw [lg_entry_eq]
  generalize (lg_sl ([.ref mo]) ++ List.replicate (3 - (lg_sl ([.ref mo])).length) Slot.unset).toArray = ls at hl ⊢
  have hl : lv_has ls 3 [(0, .ref mo)] := hl
  refine lv_iconst (v := -1) hx hb d_Mo_next_0 (by decide) ?_
  refine lv_istore_n (lv' := [(1, .int ((-1 : Int32))), (0, .ref mo)]) hx hb d_Mo_next_1 rfl hl (by decide) rfl (fun ls hl => ?_)
  refine lv_iconst (v := 0) hx hb d_Mo_next_2 (by decide) ?_
  refine lv_istore_n (lv' := [(2, .int ((0 : Int32))), (1, .int ((-1 : Int32))), (0, .ref mo)]) hx hb d_Mo_next_3 rfl hl (by decide) rfl (fun ls hl => ?_)
  refine wb_loopP (σ := (Option Nat) × Nat) 4 (fun x1 ls => lv_has ls 3 [(2, .int (nI x1.2)), (1, .int (oI x1.1)), (0, .ref mo)] ∧ (x1.2 ≤ n) ∧ (x1.1 = lw ops E n mde x1.2)) (fun x1 => 25 - x1.2) ?_ (none, 0) ls ⟨lv_sub hl [0, 1, 2] rfl, (Nat.zero_le _), rfl⟩
  clear hl
  intro x1 ls hI3 ih2
  obtain ⟨o, w⟩ := x1
  obtain ⟨hl, hw1, ho⟩ := hI3
  have hl : lv_has ls 3 [(2, .int (nI w)), (1, .int (oI o)), (0, .ref mo)] := hl
  have hw1 : w ≤ n := hw1
  have ho : o = lw ops E n mde w := ho
  refine lv_iload_n hx hb d_Mo_next_4 rfl (lv_at hl 0 rfl) ?_
  refine lv_aload_n hx hb d_Mo_next_5 rfl (lv_at hl 2 rfl) ?_
  refine va_get (D := (dC, dI)) (ci := 4) (v := .int (nI n)) (C := R_Mo) (T := T_Mo) (N := 18) hx hb hg in_Mo hown hK hP 0 rfl rfl 10 (by decide) (hg _ tw_580) (fun _ h9 => h9) rfl d_Mo_next_6 ?_
  refine wb_icmp_ge (tgt := 65) hx hb w n rfl rfl (by first | omega | (have h1 := hE24 w; have h2 := hE24 b; omega)) (by first | omega | (have h1 := hE24 w; have h2 := hE24 b; omega)) d_Mo_next_9 (by decide) (fun c4 => ?_) (fun c4 => ?_)
  · refine lv_iload_n hx hb d_Mo_next_65 rfl (lv_at hl 1 rfl) ?_
    exact W.iret (v := oI o) hx hb hr (fun t ht hW => ⟨_, rfl, (congrArg oI (ho.trans (congrArg (lw ops E n mde) (Nat.le_antisymm hw1 c4)))), ht⟩) (fun q h => by cases h) d_Mo_next_66
  · refine lv_aload_n hx hb d_Mo_next_12 rfl (lv_at hl 2 rfl) ?_
    refine va_get (D := (dC, dI)) (ci := 4) (v := .ref a1) (C := R_Mo) (T := T_Mo) (N := 18) hx hb hg in_Mo hown hK hP 0 rfl rfl 0 (by decide) (hg _ tw_570) (fun _ h9 => h9) rfl d_Mo_next_13 ?_
    refine lv_iload_n hx hb d_Mo_next_16 rfl (lv_at hl 0 rfl) ?_
    refine wb_iald hx hb hK hP 1 0 rfl rfl w rfl (Nat.lt_of_lt_of_le c4 hn) (by decide) d_Mo_next_17 ?_
    refine lv_bipush (v := 6) hx hb d_Mo_next_18 (by decide) ?_
    refine lv_icmp_eq (tgt := 59) hx hb d_Mo_next_20 (by decide) (fun c5 => ?_) (fun c5 => ?_)
    · refine lv_iinc (v := (nI (w + 1))) (lv' := [(2, .int (nI (w + 1))), (1, .int (oI o)), (0, .ref mo)]) hx hb d_Mo_next_59 hl (k := 0) rfl (nI_add _ 1) (by decide) rfl (fun ls hl => ?_)
      refine lv_goto (tgt := 4) hx hb d_Mo_next_62 (by decide) ?_
      exact ih2 (o, w + 1) ls ⟨lv_sub hl [0, 1, 2] rfl, c4, (lw_n ho (Or.inl (iv_f3 hn c4 c5)))⟩ (by show 25 - (w + 1) < 25 - w; have := c4; omega)
    · refine lv_aload_n hx hb d_Mo_next_23 rfl (lv_at hl 2 rfl) ?_
      refine va_get (D := (dC, dI)) (ci := 4) (v := .ref a6) (C := R_Mo) (T := T_Mo) (N := 18) hx hb hg in_Mo hown hK hP 0 rfl rfl 5 (by decide) (hg _ tw_575) (fun _ h9 => h9) rfl d_Mo_next_24 ?_
      refine lv_iload_n hx hb d_Mo_next_27 rfl (lv_at hl 0 rfl) ?_
      refine wb_iald hx hb hK hP 6 0 rfl rfl w rfl (Nat.lt_of_lt_of_le c4 hn) (by decide) d_Mo_next_28 ?_
      refine lv_iconst (v := -1) hx hb d_Mo_next_29 (by decide) ?_
      refine lv_icmp_eq (tgt := 36) hx hb d_Mo_next_30 (by decide) (fun c6 => ?_) (fun c6 => ?_)
      · refine lv_iload_n hx hb d_Mo_next_36 rfl (lv_at hl 1 rfl) ?_
        refine lv_if_lt (tgt := 57) hx hb d_Mo_next_37 (by decide) (fun c7 => ?_) (fun c7 => ?_)
        · refine lv_iload_n hx hb d_Mo_next_57 rfl (lv_at hl 0 rfl) ?_
          refine lv_istore_n (lv' := [(1, .int (nI w)), (2, .int (nI w)), (0, .ref mo)]) hx hb d_Mo_next_58 rfl hl (by decide) rfl (fun ls hl => ?_)
          refine lv_iinc (v := (nI (w + 1))) (lv' := [(2, .int (nI (w + 1))), (1, .int (nI w)), (0, .ref mo)]) hx hb d_Mo_next_59 hl (k := 1) rfl (nI_add _ 1) (by decide) rfl (fun ls hl => ?_)
          refine lv_goto (tgt := 4) hx hb d_Mo_next_62 (by decide) ?_
          exact ih2 (some w, w + 1) ls ⟨lv_sub hl [0, 1, 2] rfl, c4, (lw_y ho (iv_t hn c4 c5) c6 (lwB_n (oI_lt c7 (fun b q => Nat.lt_of_lt_of_le (lw_lt (ho.symm.trans q)) (Nat.le_trans hw1 (Nat.le_trans hn (by decide)))))))⟩ (by show 25 - (w + 1) < 25 - w; have := c4; omega)
        · obtain ⟨b, rfl⟩ := oI_ge c7
          have hbw := lw_lt ho.symm
          have hl : lv_has ls 3 [(2, .int (nI w)), (1, .int (nI b)), (0, .ref mo)] := hl
          refine lv_aload_n hx hb d_Mo_next_40 rfl (lv_at hl 2 rfl) ?_
          refine lv_iload_n hx hb d_Mo_next_41 rfl (lv_at hl 0 rfl) ?_
          refine rdV (ci := 4) (q0 := 0) (As := [.int (nI w)]) (rest := []) ⟨hx, hb, hml, hown, hg⟩ (c_Mo_end l dC dI cI mo a1 a2 a3 a4 a5 a6 a7 a8 a9 a10 ops lf rg dpa plc mde val cel sdm bfr n evm rgm sm rm tm chm alc E w hn hEn c4) (cwV 1 hg (tg_V tw_659 tw_661 sp_Mo_end tw_6 tw_662) rfl rfl rfl (by decide +kernel) ⟨Nat.le_of_ble_eq_true rfl, Nat.le_of_ble_eq_true rfl⟩) (hK.sub [0] rfl) (hP.sub [0, 1, 2, 3, 4, 5, 6, 7, 8, 9, 10] rfl) rfl rfl rfl hl.1 rfl (lv_room (Nat.le_of_ble_eq_true rfl)) d_Mo_next_42 ⟨Nat.le_of_ble_eq_true rfl, Nat.le_of_ble_eq_true rfl⟩ ?_
          refine lv_iload_n hx hb d_Mo_next_45 rfl (lv_at hl 0 rfl) ?_
          refine wb_isub hx hb (E w) w rfl rfl (Nat.le_of_lt (hwf w c4)) d_Mo_next_46 ?_
          refine lv_aload_n hx hb d_Mo_next_47 rfl (lv_at hl 2 rfl) ?_
          refine lv_iload_n hx hb d_Mo_next_48 rfl (lv_at hl 1 rfl) ?_
          refine rdV (ci := 4) (q0 := 0) (As := [.int (nI b)]) (rest := [.int (nI ((E w) - w))]) ⟨hx, hb, hml, hown, hg⟩ (c_Mo_end l dC dI cI mo a1 a2 a3 a4 a5 a6 a7 a8 a9 a10 ops lf rg dpa plc mde val cel sdm bfr n evm rgm sm rm tm chm alc E b hn hEn (Nat.lt_trans hbw c4)) (cwV 1 hg (tg_V tw_659 tw_661 sp_Mo_end tw_6 tw_662) rfl rfl rfl (by decide +kernel) ⟨Nat.le_of_ble_eq_true rfl, Nat.le_of_ble_eq_true rfl⟩) (hK.sub [0] rfl) (hP.sub [0, 1, 2, 3, 4, 5, 6, 7, 8, 9, 10] rfl) rfl rfl rfl hl.1 rfl (lv_room (Nat.le_of_ble_eq_true rfl)) d_Mo_next_49 ⟨Nat.le_of_ble_eq_true rfl, Nat.le_of_ble_eq_true rfl⟩ ?_
          refine lv_iload_n hx hb d_Mo_next_52 rfl (lv_at hl 1 rfl) ?_
          refine wb_isub hx hb (E b) b rfl rfl (Nat.le_of_lt (hwf b (Nat.lt_trans hbw c4))) d_Mo_next_53 ?_
          refine wb_icmp_le (tgt := 59) hx hb ((E w) - w) ((E b) - b) rfl rfl (by first | omega | (have h1 := hE24 w; have h2 := hE24 b; omega)) (by first | omega | (have h1 := hE24 w; have h2 := hE24 b; omega)) d_Mo_next_54 (by decide) (fun c8 => ?_) (fun c8 => ?_)
          · refine lv_iinc (v := (nI (w + 1))) (lv' := [(2, .int (nI (w + 1))), (1, .int (nI b)), (0, .ref mo)]) hx hb d_Mo_next_59 hl (k := 0) rfl (nI_add _ 1) (by decide) rfl (fun ls hl => ?_)
            refine lv_goto (tgt := 4) hx hb d_Mo_next_62 (by decide) ?_
            exact ih2 (some b, w + 1) ls ⟨lv_sub hl [0, 1, 2] rfl, c4, (lw_n ho (Or.inr (Or.inr (lwB_f c8))))⟩ (by show 25 - (w + 1) < 25 - w; have := c4; omega)
          · refine lv_iload_n hx hb d_Mo_next_57 rfl (lv_at hl 0 rfl) ?_
            refine lv_istore_n (lv' := [(1, .int (nI w)), (2, .int (nI w)), (0, .ref mo)]) hx hb d_Mo_next_58 rfl hl (by decide) rfl (fun ls hl => ?_)
            refine lv_iinc (v := (nI (w + 1))) (lv' := [(2, .int (nI (w + 1))), (1, .int (nI w)), (0, .ref mo)]) hx hb d_Mo_next_59 hl (k := 1) rfl (nI_add _ 1) (by decide) rfl (fun ls hl => ?_)
            refine lv_goto (tgt := 4) hx hb d_Mo_next_62 (by decide) ?_
            exact ih2 (some w, w + 1) ls ⟨lv_sub hl [0, 1, 2] rfl, c4, (lw_y ho (iv_t hn c4 c5) c6 (lwB_t c8))⟩ (by show 25 - (w + 1) < 25 - w; have := c4; omega)
      · refine lv_goto (tgt := 59) hx hb d_Mo_next_33 (by decide) ?_
        refine lv_iinc (v := (nI (w + 1))) (lv' := [(2, .int (nI (w + 1))), (1, .int (oI o)), (0, .ref mo)]) hx hb d_Mo_next_59 hl (k := 0) rfl (nI_add _ 1) (by decide) rfl (fun ls hl => ?_)
        refine lv_goto (tgt := 4) hx hb d_Mo_next_62 (by decide) ?_
        exact ih2 (o, w + 1) ls ⟨lv_sub hl [0, 1, 2] rfl, c4, (lw_n ho (Or.inr (Or.inl c6)))⟩ (by show 25 - (w + 1) < 25 - w; have := c4; omega)

set_option maxHeartbeats 4000000 in
set_option maxRecDepth 100000 in
theorem c_Mo_free (l : Launch) (dC : Nat → ClassId) (dI : Nat → Nat → Nat) (cI : ClassId) (mo : Nat) (a1 : Nat) (a2 : Nat) (a3 : Nat) (a4 : Nat) (a5 : Nat) (a6 : Nat) (a7 : Nat) (a8 : Nat) (a9 : Nat) (a10 : Nat) (ops : Nat → Int32) (lf : Nat → Int32) (rg : Nat → Int32) (dpa : Nat → Int32) (plc : Nat → Int32) (mde : Nat → Int32) (val : Nat → Int32) (cel : Nat → Int32) (sdm : Nat → Int32) (bfr : Nat → Int32) (n : Nat) (evm : Nat) (rgm : Nat) (sm : Nat) (rm : Int32) (tm : Int32) (chm : Nat) (alc : Bool) (E : Nat → Nat) (v : Nat) (f : Nat) (t9 : Nat) (hn : n ≤ 24) (hEn : ∀ j, j < n → enI ops lf rg j n = E j) (hE24 : ∀ j, E j ≤ 24) (hv : v < n) (hf : f ≤ 1000) (ht : t9 ≤ 1000) : Met l y_Mo_free ws_Mo_free (lvR 6 0 0) (va_Pc [.ref mo, .int (nI v), .int (nI f), .int (nI t9)] (PB (dC, dI) vwCl [(mo, .inr (4, [.ref a1, .ref a2, .ref a3, .ref a4, .ref a5, .ref a6, .ref a7, .ref a8, .ref a9, .ref a10, .int (nI n), .int (nI evm), .int (nI rgm), .int (nI sm), .int rm, .int tm, .int (nI chm), .int (bI alc)])), (a1, .inl (cI, 24, .inl ops)), (a2, .inl (cI, 24, .inl lf)), (a3, .inl (cI, 24, .inl rg)), (a4, .inl (cI, 24, .inl dpa)), (a5, .inl (cI, 24, .inl plc)), (a6, .inl (cI, 24, .inl mde)), (a7, .inl (cI, 24, .inl val)), (a8, .inl (cI, 16, .inl cel)), (a9, .inl (cI, 24, .inl sdm)), (a10, .inl (cI, 24, .inl bfr))] [(cI, .int)])) (vp_Si (fun r => r = oI (fsM ops E mde n v f (t9 - f)))) 0 0 (fun _ => False) := by
  refine Met.ofW (cc := b_Mo_free) (maxL := 6) (ret := (some .int)) (by decide) rfl ?_
  intro p e s m args below meth c s₁ B hml hv
  obtain ⟨rfl, hP, hK⟩ := hv
  have hx := B.exec
  have hb := B.bytes
  have hr := B.returns
  have hts := atoms_spec (ws := ws_Mo_free) B.pre
  have hg : ∀ w ∈ TG, w.before ([.ref mo, .int (nI v), .int (nI f), .int (nI t9)] : List Value).toArray s = true := fun w h => hts w (List.mem_cons_of_mem _ h)
  have hown : s.vm.findClass R_Mo = some m.cls := findClass_of_methodNamed B.named
  have hlocks := B.notSynchronized
  have hl := lv_entry ([.ref mo, .int (nI v), .int (nI f), .int (nI t9)]) (n := 6) (Nat.le_of_ble_eq_true rfl)
  rw [lg_entry_eq]
  generalize (lg_sl ([.ref mo, .int (nI v), .int (nI f), .int (nI t9)]) ++ List.replicate (6 - (lg_sl ([.ref mo, .int (nI v), .int (nI f), .int (nI t9)])).length) Slot.unset).toArray = ls at hl ⊢
  have hl : lv_has ls 6 [(0, .ref mo), (1, .int (nI v)), (2, .int (nI f)), (3, .int (nI t9))] := hl
  refine lv_iload_n hx hb d_Mo_free_0 rfl (lv_at hl 2 rfl) ?_
  refine lv_istore (lv' := [(4, .int (nI f)), (0, .ref mo), (1, .int (nI v)), (2, .int (nI f)), (3, .int (nI t9))]) hx hb d_Mo_free_1 hl (by decide) rfl (fun ls hl => ?_)
  refine wb_loopP (σ := Nat) 3 (fun i ls => lv_has ls 6 [(4, .int (nI i)), (0, .ref mo), (1, .int (nI v)), (2, .int (nI f)), (3, .int (nI t9))] ∧ (i ≤ t9 ∨ i = f) ∧ (fsM ops E mde n v f (t9 - f) = fsM ops E mde n v i (t9 - i))) (fun i => t9 - i) ?_ (f) ls ⟨lv_sub hl [0, 1, 2, 3, 4] rfl, (Or.inr rfl), rfl⟩
  clear hl
  intro i ls hI2 ih1
  obtain ⟨hl, hi, hs⟩ := hI2
  refine lv_iload hx hb d_Mo_free_3 (lv_at hl 0 rfl) ?_
  refine lv_iload_n hx hb d_Mo_free_5 rfl (lv_at hl 4 rfl) ?_
  refine wb_icmp_ge (tgt := 32) hx hb i t9 rfl rfl (by omega) (by omega) d_Mo_free_6 (by decide) (fun c3 => ?_) (fun c3 => ?_)
  · refine lv_iconst (v := -1) hx hb d_Mo_free_32 (by decide) ?_
    exact W.iret (v := (-1 : Int32)) hx hb hr (fun t ht hW => ⟨_, rfl, (congrArg oI (hs.trans (fsM_e c3)).symm), ht⟩) (fun q h => by cases h) d_Mo_free_33
  · refine lv_aload_n hx hb d_Mo_free_9 rfl (lv_at hl 1 rfl) ?_
    refine lv_iload_n hx hb d_Mo_free_10 rfl (lv_at hl 2 rfl) ?_
    refine lv_iload hx hb d_Mo_free_11 (lv_at hl 0 rfl) ?_
    refine rdV (ci := 4) (q0 := 0) (As := [.int (nI v), .int (nI i)]) (rest := []) ⟨hx, hb, hml, hown, hg⟩ (c_Mo_isFree l dC dI cI mo a1 a2 a3 a4 a5 a6 a7 a8 a9 a10 ops lf rg dpa plc mde val cel sdm bfr n evm rgm sm rm tm chm alc E v (nI i) hn hEn hE24 hv) (cwV 2 hg (tg_V tw_679 tw_681 sp_Mo_isFree tw_6 tw_682) rfl rfl rfl (by decide +kernel) ⟨Nat.le_of_ble_eq_true rfl, Nat.le_of_ble_eq_true rfl⟩) (hK.sub [0] rfl) (hP.sub [0, 1, 2, 3, 4, 5, 6, 7, 8, 9, 10] rfl) rfl rfl rfl hl.1 rfl (lv_room (Nat.le_of_ble_eq_true rfl)) d_Mo_free_13 ⟨Nat.le_of_ble_eq_true rfl, Nat.le_of_ble_eq_true rfl⟩ ?_
    refine lv_istore (lv' := [(5, .int (bI (frB ops E mde v (nI i) n))), (4, .int (nI i)), (0, .ref mo), (1, .int (nI v)), (2, .int (nI f)), (3, .int (nI t9))]) hx hb d_Mo_free_16 hl (by decide) rfl (fun ls hl => ?_)
    refine lv_iload hx hb d_Mo_free_18 (lv_at hl 0 rfl) ?_
    refine wb_if_eqb (tgt := 26) hx hb (frB ops E mde v (nI i) n) rfl d_Mo_free_20 (by decide) (fun c4 => ?_) (fun c4 => ?_)
    · refine lv_iinc (v := (nI (i + 1))) (lv' := [(4, .int (nI (i + 1))), (5, .int (bI (frB ops E mde v (nI i) n))), (0, .ref mo), (1, .int (nI v)), (2, .int (nI f)), (3, .int (nI t9))]) hx hb d_Mo_free_26 hl (k := 1) rfl (nI_add _ 1) (by decide) rfl (fun ls hl => ?_)
      refine lv_goto (tgt := 3) hx hb d_Mo_free_29 (by decide) ?_
      exact ih1 (i + 1) ls ⟨lv_sub hl [0, 2, 3, 4, 5] rfl, (Or.inl c3), (hs.trans (fsM_n c3 c4))⟩ (by have := c3; omega)
    · refine lv_iload hx hb d_Mo_free_23 (lv_at hl 1 rfl) ?_
      exact W.iret (v := nI i) hx hb hr (fun t ht hW => ⟨_, rfl, (congrArg oI (hs.trans (fsM_y c3 c4)).symm), ht⟩) (fun q h => by cases h) d_Mo_free_25
