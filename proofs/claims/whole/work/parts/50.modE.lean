/-! AllocForgeModel: used, count -/
set_option maxHeartbeats 4000000 in
set_option maxRecDepth 100000 in
theorem c_Mo_used (l : Launch) (dC : Nat → ClassId) (dI : Nat → Nat → Nat) (cI : ClassId) (mo : Nat) (a1 : Nat) (a2 : Nat) (a3 : Nat) (a4 : Nat) (a5 : Nat) (a6 : Nat) (a7 : Nat) (a8 : Nat) (a9 : Nat) (a10 : Nat) (ops : Nat → Int32) (lf : Nat → Int32) (rg : Nat → Int32) (dpa : Nat → Int32) (plc : Nat → Int32) (mde : Nat → Int32) (val : Nat → Int32) (cel : Nat → Int32) (sdm : Nat → Int32) (bfr : Nat → Int32) (n : Nat) (evm : Nat) (rgm : Nat) (sm : Nat) (rm : Int32) (tm : Int32) (chm : Nat) (alc : Bool) (f : Nat) (g : Nat) (hn : n ≤ 24) (hfg : f + g ≤ 1000) : Met l y_Mo_used ws_Mo_used (lvR 0 0 0) (va_Pc [.ref mo, .int (nI f), .int (nI (f + g))] (PB (dC, dI) vwCl [(mo, .inr (4, [.ref a1, .ref a2, .ref a3, .ref a4, .ref a5, .ref a6, .ref a7, .ref a8, .ref a9, .ref a10, .int (nI n), .int (nI evm), .int (nI rgm), .int (nI sm), .int rm, .int tm, .int (nI chm), .int (bI alc)])), (a1, .inl (cI, 24, .inl ops)), (a2, .inl (cI, 24, .inl lf)), (a3, .inl (cI, 24, .inl rg)), (a4, .inl (cI, 24, .inl dpa)), (a5, .inl (cI, 24, .inl plc)), (a6, .inl (cI, 24, .inl mde)), (a7, .inl (cI, 24, .inl val)), (a8, .inl (cI, 16, .inl cel)), (a9, .inl (cI, 24, .inl sdm)), (a10, .inl (cI, 24, .inl bfr))] [(cI, .int)])) (vp_Si (fun r => r = nI (udM ops plc n f g))) 0 0 (fun _ => False) := by
  refine Met.ofW (cc := b_Mo_used) (maxL := 7) (ret := (some .int)) (by decide) rfl ?_
  intro p e s m args below meth c s₁ B hml hv
  obtain ⟨rfl, hP, hK⟩ := hv
  have hx := B.exec
  have hb := B.bytes
  have hr := B.returns
  have hts := atoms_spec (ws := ws_Mo_used) B.pre
  have hg : ∀ w ∈ TG, w.before ([.ref mo, .int (nI f), .int (nI (f + g))] : List Value).toArray s = true := fun w h => hts w (List.mem_cons_of_mem _ h)
  have hown : s.vm.findClass R_Mo = some m.cls := findClass_of_methodNamed B.named
  have hlocks := B.notSynchronized
  have hl := lv_entry ([.ref mo, .int (nI f), .int (nI (f + g))]) (n := 7) (Nat.le_of_ble_eq_true rfl)
  rw [lg_entry_eq]
  generalize (lg_sl ([.ref mo, .int (nI f), .int (nI (f + g))]) ++ List.replicate (7 - (lg_sl ([.ref mo, .int (nI f), .int (nI (f + g))])).length) Slot.unset).toArray = ls at hl ⊢
  have hl : lv_has ls 7 [(0, .ref mo), (1, .int (nI f)), (2, .int (nI (f + g)))] := hl
  refine lv_iconst (v := 0) hx hb d_Mo_used_0 (by decide) ?_
  refine lv_istore_n (lv' := [(3, .int ((0 : Int32))), (0, .ref mo), (1, .int (nI f)), (2, .int (nI (f + g)))]) hx hb d_Mo_used_1 rfl hl (by decide) rfl (fun ls hl => ?_)
  refine lv_iload_n hx hb d_Mo_used_2 rfl (lv_at hl 2 rfl) ?_
  refine lv_istore (lv' := [(4, .int (nI f)), (3, .int ((0 : Int32))), (0, .ref mo), (1, .int (nI f)), (2, .int (nI (f + g)))]) hx hb d_Mo_used_3 hl (by decide) rfl (fun ls hl => ?_)
  refine wb_loopP (σ := Nat × Nat) 5 (fun x1 ls => lv_has ls 7 [(4, .int (nI (f + x1.2))), (3, .int (nI x1.1)), (0, .ref mo), (1, .int (nI f)), (2, .int (nI (f + g)))] ∧ (x1.2 ≤ g) ∧ (x1.1 = udM ops plc n f x1.2)) (fun x1 => g - x1.2) ?_ (0, 0) ls ⟨lv_sub hl [0, 1, 2, 3, 4] rfl, (Nat.zero_le _), rfl⟩
  clear hl
  intro x1 ls hI3 ih2
  obtain ⟨uc, i⟩ := x1
  obtain ⟨hl, hi, huc⟩ := hI3
  have hl : lv_has ls 7 [(4, .int (nI (f + i))), (3, .int (nI uc)), (0, .ref mo), (1, .int (nI f)), (2, .int (nI (f + g)))] := hl
  have hi : i ≤ g := hi
  have huc : uc = udM ops plc n f i := huc
  refine lv_iload hx hb d_Mo_used_5 (lv_at hl 0 rfl) ?_
  refine lv_iload_n hx hb d_Mo_used_7 rfl (lv_at hl 4 rfl) ?_
  refine wb_icmp_ge (tgt := 73) hx hb (f + i) (f + g) rfl rfl (by omega) (by omega) d_Mo_used_8 (by decide) (fun c4 => ?_) (fun c4 => ?_)
  · refine lv_iload_n hx hb d_Mo_used_73 rfl (lv_at hl 1 rfl) ?_
    exact W.iret (v := nI uc) hx hb hr (fun t ht hW => ⟨_, rfl, (congrArg nI (huc.trans (congrArg (udM ops plc n f) (by have := c4; omega)))), ht⟩) (fun q h => by cases h) d_Mo_used_74
  · refine lv_iconst (v := 0) hx hb d_Mo_used_11 (by decide) ?_
    refine lv_istore (lv' := [(5, .int ((0 : Int32))), (4, .int (nI (f + i))), (3, .int (nI uc)), (0, .ref mo), (1, .int (nI f)), (2, .int (nI (f + g)))]) hx hb d_Mo_used_12 hl (by decide) rfl (fun ls hl => ?_)
    refine lv_iconst (v := 0) hx hb d_Mo_used_14 (by decide) ?_
    refine lv_istore (lv' := [(6, .int ((0 : Int32))), (5, .int ((0 : Int32))), (4, .int (nI (f + i))), (3, .int (nI uc)), (0, .ref mo), (1, .int (nI f)), (2, .int (nI (f + g)))]) hx hb d_Mo_used_15 hl (by decide) rfl (fun ls hl => ?_)
    refine wb_loopP (σ := Bool × Nat) 17 (fun x5 ls => lv_has ls 7 [(6, .int (nI x5.2)), (5, .int (bI x5.1)), (4, .int (nI (f + i))), (3, .int (nI uc)), (0, .ref mo), (1, .int (nI f)), (2, .int (nI (f + g)))] ∧ (x5.2 ≤ n) ∧ (x5.1 = isM ops plc (nI (f + i)) x5.2)) (fun x5 => 25 - x5.2) ?_ (false, 0) ls ⟨lv_sub hl [0, 1, 2, 3, 4, 5, 6] rfl, (Nat.zero_le _), rfl⟩
    clear hl
    intro x5 ls hI7 ih6
    obtain ⟨b9, w⟩ := x5
    obtain ⟨hl, hw1, hb9⟩ := hI7
    have hl : lv_has ls 7 [(6, .int (nI w)), (5, .int (bI b9)), (4, .int (nI (f + i))), (3, .int (nI uc)), (0, .ref mo), (1, .int (nI f)), (2, .int (nI (f + g)))] := hl
    have hw1 : w ≤ n := hw1
    have hb9 : b9 = isM ops plc (nI (f + i)) w := hb9
    refine lv_iload hx hb d_Mo_used_17 (lv_at hl 0 rfl) ?_
    refine lv_aload_n hx hb d_Mo_used_19 rfl (lv_at hl 4 rfl) ?_
    refine va_get (D := (dC, dI)) (ci := 4) (v := .int (nI n)) (C := R_Mo) (T := T_Mo) (N := 18) hx hb hg in_Mo hown hK hP 0 rfl rfl 10 (by decide) (hg _ tw_580) (fun _ h9 => h9) rfl d_Mo_used_20 ?_
    refine wb_icmp_ge (tgt := 59) hx hb w n rfl rfl (by omega) (by omega) d_Mo_used_23 (by decide) (fun c8 => ?_) (fun c8 => ?_)
    · refine lv_iload hx hb d_Mo_used_59 (lv_at hl 1 rfl) ?_
      refine wb_if_eqb (tgt := 67) hx hb b9 rfl d_Mo_used_61 (by decide) (fun c9 => ?_) (fun c9 => ?_)
      · refine lv_iinc (v := (nI (f + i + 1))) (lv' := [(4, .int (nI (f + i + 1))), (6, .int (nI w)), (5, .int (bI b9)), (3, .int (nI uc)), (0, .ref mo), (1, .int (nI f)), (2, .int (nI (f + g)))]) hx hb d_Mo_used_67 hl (k := 2) rfl (nI_add _ 1) (by decide) rfl (fun ls hl => ?_)
        refine lv_goto (tgt := 5) hx hb d_Mo_used_70 (by decide) ?_
        exact ih2 (uc, i + 1) ls ⟨lv_sub hl [0, 3, 4, 5, 6] rfl, (by have := c4; omega), (udM_n huc (by rw [← Nat.le_antisymm hw1 c8, ← hb9]; exact c9))⟩ (by show g - (i + 1) < g - i; have := c4; omega)
      · refine lv_iinc (v := (nI (uc + 1))) (lv' := [(3, .int (nI (uc + 1))), (6, .int (nI w)), (5, .int (bI b9)), (4, .int (nI (f + i))), (0, .ref mo), (1, .int (nI f)), (2, .int (nI (f + g)))]) hx hb d_Mo_used_64 hl (k := 3) rfl (nI_add _ 1) (by decide) rfl (fun ls hl => ?_)
        refine lv_iinc (v := (nI (f + i + 1))) (lv' := [(4, .int (nI (f + i + 1))), (3, .int (nI (uc + 1))), (6, .int (nI w)), (5, .int (bI b9)), (0, .ref mo), (1, .int (nI f)), (2, .int (nI (f + g)))]) hx hb d_Mo_used_67 hl (k := 3) rfl (nI_add _ 1) (by decide) rfl (fun ls hl => ?_)
        refine lv_goto (tgt := 5) hx hb d_Mo_used_70 (by decide) ?_
        exact ih2 (uc + 1, i + 1) ls ⟨lv_sub hl [0, 1, 4, 5, 6] rfl, (by have := c4; omega), (udM_y huc (by rw [← Nat.le_antisymm hw1 c8, ← hb9]; exact c9))⟩ (by show g - (i + 1) < g - i; have := c4; omega)
    · refine lv_aload_n hx hb d_Mo_used_26 rfl (lv_at hl 4 rfl) ?_
      refine va_get (D := (dC, dI)) (ci := 4) (v := .ref a1) (C := R_Mo) (T := T_Mo) (N := 18) hx hb hg in_Mo hown hK hP 0 rfl rfl 0 (by decide) (hg _ tw_570) (fun _ h9 => h9) rfl d_Mo_used_27 ?_
      refine lv_iload hx hb d_Mo_used_30 (lv_at hl 0 rfl) ?_
      refine wb_iald hx hb hK hP 1 0 rfl rfl w rfl (Nat.lt_of_lt_of_le c8 hn) (by decide) d_Mo_used_32 ?_
      refine lv_bipush (v := 6) hx hb d_Mo_used_33 (by decide) ?_
      refine lv_icmp_eq (tgt := 53) hx hb d_Mo_used_35 (by decide) (fun c10 => ?_) (fun c10 => ?_)
      · refine lv_iinc (v := (nI (w + 1))) (lv' := [(6, .int (nI (w + 1))), (5, .int (bI b9)), (4, .int (nI (f + i))), (3, .int (nI uc)), (0, .ref mo), (1, .int (nI f)), (2, .int (nI (f + g)))]) hx hb d_Mo_used_53 hl (k := 0) rfl (nI_add _ 1) (by decide) rfl (fun ls hl => ?_)
        refine lv_goto (tgt := 17) hx hb d_Mo_used_56 (by decide) ?_
        exact ih6 (b9, w + 1) ls ⟨lv_sub hl [0, 1, 2, 3, 4, 5, 6] rfl, c8, (isM_n hb9 (Or.inl c10))⟩ (by show 25 - (w + 1) < 25 - w; have := c8; omega)
      · refine lv_aload_n hx hb d_Mo_used_38 rfl (lv_at hl 4 rfl) ?_
        refine va_get (D := (dC, dI)) (ci := 4) (v := .ref a5) (C := R_Mo) (T := T_Mo) (N := 18) hx hb hg in_Mo hown hK hP 0 rfl rfl 4 (by decide) (hg _ tw_574) (fun _ h9 => h9) rfl d_Mo_used_39 ?_
        refine lv_iload hx hb d_Mo_used_42 (lv_at hl 0 rfl) ?_
        refine wb_iald hx hb hK hP 5 0 rfl rfl w rfl (Nat.lt_of_lt_of_le c8 hn) (by decide) d_Mo_used_44 ?_
        refine lv_iload hx hb d_Mo_used_45 (lv_at hl 2 rfl) ?_
        refine lv_icmp_ne (tgt := 53) hx hb d_Mo_used_47 (by decide) (fun c11 => ?_) (fun c11 => ?_)
        · refine lv_iinc (v := (nI (w + 1))) (lv' := [(6, .int (nI (w + 1))), (5, .int (bI b9)), (4, .int (nI (f + i))), (3, .int (nI uc)), (0, .ref mo), (1, .int (nI f)), (2, .int (nI (f + g)))]) hx hb d_Mo_used_53 hl (k := 0) rfl (nI_add _ 1) (by decide) rfl (fun ls hl => ?_)
          refine lv_goto (tgt := 17) hx hb d_Mo_used_56 (by decide) ?_
          exact ih6 (b9, w + 1) ls ⟨lv_sub hl [0, 1, 2, 3, 4, 5, 6] rfl, c8, (isM_n hb9 (Or.inr c11))⟩ (by show 25 - (w + 1) < 25 - w; have := c8; omega)
        · refine lv_iconst (v := 1) hx hb d_Mo_used_50 (by decide) ?_
          refine lv_istore (lv' := [(5, .int ((1 : Int32))), (6, .int (nI w)), (4, .int (nI (f + i))), (3, .int (nI uc)), (0, .ref mo), (1, .int (nI f)), (2, .int (nI (f + g)))]) hx hb d_Mo_used_51 hl (by decide) rfl (fun ls hl => ?_)
          refine lv_iinc (v := (nI (w + 1))) (lv' := [(6, .int (nI (w + 1))), (5, .int ((1 : Int32))), (4, .int (nI (f + i))), (3, .int (nI uc)), (0, .ref mo), (1, .int (nI f)), (2, .int (nI (f + g)))]) hx hb d_Mo_used_53 hl (k := 1) rfl (nI_add _ 1) (by decide) rfl (fun ls hl => ?_)
          refine lv_goto (tgt := 17) hx hb d_Mo_used_56 (by decide) ?_
          exact ih6 (true, w + 1) ls ⟨lv_sub hl [0, 1, 2, 3, 4, 5, 6] rfl, c8, (isM_y c10 c11)⟩ (by show 25 - (w + 1) < 25 - w; have := c8; omega)

set_option maxHeartbeats 4000000 in
set_option maxRecDepth 100000 in
theorem c_Mo_count (l : Launch) (dC : Nat → ClassId) (dI : Nat → Nat → Nat) (cI : ClassId) (mo : Nat) (a1 : Nat) (a2 : Nat) (a3 : Nat) (a4 : Nat) (a5 : Nat) (a6 : Nat) (a7 : Nat) (a8 : Nat) (a9 : Nat) (a10 : Nat) (ops : Nat → Int32) (lf : Nat → Int32) (rg : Nat → Int32) (dpa : Nat → Int32) (plc : Nat → Int32) (mde : Nat → Int32) (val : Nat → Int32) (cel : Nat → Int32) (sdm : Nat → Int32) (bfr : Nat → Int32) (n : Nat) (evm : Nat) (rgm : Nat) (sm : Nat) (rm : Int32) (tm : Int32) (chm : Nat) (alc : Bool) (q : Int32) (sz tp : Nat) (htr : ∀ e : Env, l.admits e → e.platform.stackTraces = false) (hn : n ≤ 24) : ex_Met l y_Mo_count ws_Mo_count (lvR 1 0 0) (va_Pc [.ref mo, .int q] (PME (dC, dI) vwCl [(mo, .inr (4, [.ref a1, .ref a2, .ref a3, .ref a4, .ref a5, .ref a6, .ref a7, .ref a8, .ref a9, .ref a10, .int (nI n), .int (nI evm), .int (nI rgm), .int (nI sm), .int rm, .int tm, .int (nI chm), .int (bI alc)])), (a1, .inl (cI, 24, .inl ops)), (a2, .inl (cI, 24, .inl lf)), (a3, .inl (cI, 24, .inl rg)), (a4, .inl (cI, 24, .inl dpa)), (a5, .inl (cI, 24, .inl plc)), (a6, .inl (cI, 24, .inl mde)), (a7, .inl (cI, 24, .inl val)), (a8, .inl (cI, 16, .inl cel)), (a9, .inl (cI, 24, .inl sdm)), (a10, .inl (cI, 24, .inl bfr))] [(cI, .int)] sz tp)) (ex_Q (fun (o : Option Value ⊕ String) (u : Nat) => (u = 0 ∧ ((inB q 0 7 = false)) ∧ o = .inl (some (.int ((0 : Int32))))) ∨ (u = 1 ∧ ((inB q 0 7 = true)) ∧ o = .inl (some (.int (ctM ops plc n sm evm rgm alc q))))) (MB (dC, dI) vwCl (fun u : Nat => match u with | 0 => [(mo, .inr (4, [.ref a1, .ref a2, .ref a3, .ref a4, .ref a5, .ref a6, .ref a7, .ref a8, .ref a9, .ref a10, .int (nI n), .int (nI evm), .int (nI rgm), .int (nI sm), .int rm, .int 1, .int (nI chm), .int (bI alc)])), (a1, .inl (cI, 24, .inl ops)), (a2, .inl (cI, 24, .inl lf)), (a3, .inl (cI, 24, .inl rg)), (a4, .inl (cI, 24, .inl dpa)), (a5, .inl (cI, 24, .inl plc)), (a6, .inl (cI, 24, .inl mde)), (a7, .inl (cI, 24, .inl val)), (a8, .inl (cI, 16, .inl cel)), (a9, .inl (cI, 24, .inl sdm)), (a10, .inl (cI, 24, .inl bfr))] | _ => [(mo, .inr (4, [.ref a1, .ref a2, .ref a3, .ref a4, .ref a5, .ref a6, .ref a7, .ref a8, .ref a9, .ref a10, .int (nI n), .int (nI evm), .int (nI rgm), .int (nI sm), .int rm, .int 0, .int (nI chm), .int (bI alc)])), (a1, .inl (cI, 24, .inl ops)), (a2, .inl (cI, 24, .inl lf)), (a3, .inl (cI, 24, .inl rg)), (a4, .inl (cI, 24, .inl dpa)), (a5, .inl (cI, 24, .inl plc)), (a6, .inl (cI, 24, .inl mde)), (a7, .inl (cI, 24, .inl val)), (a8, .inl (cI, 16, .inl cel)), (a9, .inl (cI, 24, .inl sdm)), (a10, .inl (cI, 24, .inl bfr))]) [(cI, .int)] (va_A [(mo, .inr (4, [.ref a1, .ref a2, .ref a3, .ref a4, .ref a5, .ref a6, .ref a7, .ref a8, .ref a9, .ref a10, .int (nI n), .int (nI evm), .int (nI rgm), .int (nI sm), .int rm, .int tm, .int (nI chm), .int (bI alc)])), (a1, .inl (cI, 24, .inl ops)), (a2, .inl (cI, 24, .inl lf)), (a3, .inl (cI, 24, .inl rg)), (a4, .inl (cI, 24, .inl dpa)), (a5, .inl (cI, 24, .inl plc)), (a6, .inl (cI, 24, .inl mde)), (a7, .inl (cI, 24, .inl val)), (a8, .inl (cI, 16, .inl cel)), (a9, .inl (cI, 24, .inl sdm)), (a10, .inl (cI, 24, .inl bfr))] sz)) (va_A [(mo, .inr (4, [.ref a1, .ref a2, .ref a3, .ref a4, .ref a5, .ref a6, .ref a7, .ref a8, .ref a9, .ref a10, .int (nI n), .int (nI evm), .int (nI rgm), .int (nI sm), .int rm, .int tm, .int (nI chm), .int (bI alc)])), (a1, .inl (cI, 24, .inl ops)), (a2, .inl (cI, 24, .inl lf)), (a3, .inl (cI, 24, .inl rg)), (a4, .inl (cI, 24, .inl dpa)), (a5, .inl (cI, 24, .inl plc)), (a6, .inl (cI, 24, .inl mde)), (a7, .inl (cI, 24, .inl val)), (a8, .inl (cI, 16, .inl cel)), (a9, .inl (cI, 24, .inl sdm)), (a10, .inl (cI, 24, .inl bfr))] sz)) 0 0 (va_A [(mo, .inr (4, [.ref a1, .ref a2, .ref a3, .ref a4, .ref a5, .ref a6, .ref a7, .ref a8, .ref a9, .ref a10, .int (nI n), .int (nI evm), .int (nI rgm), .int (nI sm), .int rm, .int tm, .int (nI chm), .int (bI alc)])), (a1, .inl (cI, 24, .inl ops)), (a2, .inl (cI, 24, .inl lf)), (a3, .inl (cI, 24, .inl rg)), (a4, .inl (cI, 24, .inl dpa)), (a5, .inl (cI, 24, .inl plc)), (a6, .inl (cI, 24, .inl mde)), (a7, .inl (cI, 24, .inl val)), (a8, .inl (cI, 16, .inl cel)), (a9, .inl (cI, 24, .inl sdm)), (a10, .inl (cI, 24, .inl bfr))] sz) := by
  refine ex_ofW (cc := b_Mo_count) (maxL := 5) (ret := (some .int)) (by decide) rfl ?_
  intro p e s m args below meth c s₁ B hml hout hv
  obtain ⟨rfl, hsz, hP, hK, hD0, hE⟩ := hv
  have hx := B.exec
  have hb := B.bytes
  have hr := B.returns
  have hts := atoms_spec (ws := ws_Mo_count) B.pre
  have hg : ∀ w ∈ TG, w.before ([.ref mo, .int q] : List Value).toArray s = true := fun w h => hts w (List.mem_cons_of_mem _ h)
  have hown : s.vm.findClass R_Mo = some m.cls := findClass_of_methodNamed B.named
  have hlocks := B.notSynchronized
  subst hsz
  have hD := hD0.self (sz := s.heap.size)
  generalize hAe : va_A [(mo, .inr (4, [.ref a1, .ref a2, .ref a3, .ref a4, .ref a5, .ref a6, .ref a7, .ref a8, .ref a9, .ref a10, .int (nI n), .int (nI evm), .int (nI rgm), .int (nI sm), .int rm, .int tm, .int (nI chm), .int (bI alc)])), (a1, .inl (cI, 24, .inl ops)), (a2, .inl (cI, 24, .inl lf)), (a3, .inl (cI, 24, .inl rg)), (a4, .inl (cI, 24, .inl dpa)), (a5, .inl (cI, 24, .inl plc)), (a6, .inl (cI, 24, .inl mde)), (a7, .inl (cI, 24, .inl val)), (a8, .inl (cI, 16, .inl cel)), (a9, .inl (cI, 24, .inl sdm)), (a10, .inl (cI, 24, .inl bfr))] s.heap.size = A at hD hE ⊢
  have hA : ∀ q : Nat, s.heap.size ≤ q → A q := fun q h => by rw [← hAe]; exact Or.inr h
  have hS : va_S A s.heap s.heap [] := va_S.rf
  have hl := lv_entry ([.ref mo, .int q]) (n := 5) (Nat.le_of_ble_eq_true rfl)
  rw [lg_entry_eq]
  generalize (lg_sl ([.ref mo, .int q]) ++ List.replicate (5 - (lg_sl ([.ref mo, .int q])).length) Slot.unset).toArray = ls at hl ⊢
  have hl : lv_has ls 5 [(0, .ref mo), (1, .int q)] := hl
  refine lv_iload_n hx hb d_Mo_count_0 rfl (lv_at hl 1 rfl) ?_
  refine lv_iconst (v := 0) hx hb d_Mo_count_1 (by decide) ?_
  refine lv_bipush (v := 7) hx hb d_Mo_count_2 (by decide) ?_
  refine rdS (As := [.int q, .int ((0 : Int32)), .int ((7 : Int32))]) (rest := []) ⟨hx, hb, hml, hown, hg⟩ (c_Mo_in l dC dI cI q ((0 : Int32)) ((7 : Int32))) (va_cwS 3 hg (tg_S tw_633 tw_634 tw_6 tw_635) rfl rfl rfl (by decide +kernel) ⟨Nat.le_of_ble_eq_true rfl, Nat.le_of_ble_eq_true rfl⟩) (hK.sub [0] rfl) (hP.sub [] rfl) rfl hl.1 rfl (lv_room (Nat.le_of_ble_eq_true rfl)) d_Mo_count_4 ⟨Nat.le_of_ble_eq_true rfl, Nat.le_of_ble_eq_true rfl⟩ ?_
  refine wb_if_neb (tgt := 16) hx hb (inB q ((0 : Int32)) ((7 : Int32))) rfl d_Mo_count_7 (by decide) (fun c1 => ?_) (fun c1 => ?_)
  · refine lv_aload_n hx hb d_Mo_count_16 rfl (lv_at hl 0 rfl) ?_
    refine lv_iconst (v := 0) hx hb d_Mo_count_17 (by decide) ?_
    refine va_put (D := (dC, dI)) (ci := 4) (v := .int ((0 : Int32))) (ty := .int) (C := R_Mo) (T := T_Mo) (N := 18) hx hb hg in_Mo ty_Mo tyok_Mo nm_Mo hown hK hP hD hS 0 rfl rfl 15 (by decide) (hg _ tw_585) (fun _ h9 => h9) rfl (by decide +kernel) rfl rfl (Nat.le_of_ble_eq_true rfl) d_Mo_count_18 (fun H locs hP hD hS => ?_)
    have hP : va_P (dC, dI) vwCl [(mo, .inr (4, [.ref a1, .ref a2, .ref a3, .ref a4, .ref a5, .ref a6, .ref a7, .ref a8, .ref a9, .ref a10, .int (nI n), .int (nI evm), .int (nI rgm), .int (nI sm), .int rm, .int ((0 : Int32)), .int (nI chm), .int (bI alc)])), (a1, .inl (cI, 24, .inl ops)), (a2, .inl (cI, 24, .inl lf)), (a3, .inl (cI, 24, .inl rg)), (a4, .inl (cI, 24, .inl dpa)), (a5, .inl (cI, 24, .inl plc)), (a6, .inl (cI, 24, .inl mde)), (a7, .inl (cI, 24, .inl val)), (a8, .inl (cI, 16, .inl cel)), (a9, .inl (cI, 24, .inl sdm)), (a10, .inl (cI, 24, .inl bfr))] H := hP
    have hD : va_D A [(mo, .inr (4, [.ref a1, .ref a2, .ref a3, .ref a4, .ref a5, .ref a6, .ref a7, .ref a8, .ref a9, .ref a10, .int (nI n), .int (nI evm), .int (nI rgm), .int (nI sm), .int rm, .int ((0 : Int32)), .int (nI chm), .int (bI alc)])), (a1, .inl (cI, 24, .inl ops)), (a2, .inl (cI, 24, .inl lf)), (a3, .inl (cI, 24, .inl rg)), (a4, .inl (cI, 24, .inl dpa)), (a5, .inl (cI, 24, .inl plc)), (a6, .inl (cI, 24, .inl mde)), (a7, .inl (cI, 24, .inl val)), (a8, .inl (cI, 16, .inl cel)), (a9, .inl (cI, 24, .inl sdm)), (a10, .inl (cI, 24, .inl bfr))] := hD
    refine lv_iconst (v := 0) hx hb d_Mo_count_21 (by decide) ?_
    refine lv_istore_n (lv' := [(2, .int ((0 : Int32))), (0, .ref mo), (1, .int q)]) hx hb d_Mo_count_22 rfl hl (by decide) rfl (fun ls hl => ?_)
    refine lv_iconst (v := 0) hx hb d_Mo_count_23 (by decide) ?_
    refine lv_istore_n (lv' := [(3, .int ((0 : Int32))), (2, .int ((0 : Int32))), (0, .ref mo), (1, .int q)]) hx hb d_Mo_count_24 rfl hl (by decide) rfl (fun ls hl => ?_)
    refine lv_iconst (v := 0) hx hb d_Mo_count_25 (by decide) ?_
    refine lv_istore (lv' := [(4, .int ((0 : Int32))), (3, .int ((0 : Int32))), (2, .int ((0 : Int32))), (0, .ref mo), (1, .int q)]) hx hb d_Mo_count_26 hl (by decide) rfl (fun ls hl => ?_)
    refine wb_loopP (σ := Nat × Nat × Nat) 28 (fun x2 ls => lv_has ls 5 [(4, .int (nI x2.2.2)), (3, .int (nI x2.2.1)), (2, .int (nI x2.1)), (0, .ref mo), (1, .int q)] ∧ (x2.2.2 ≤ n) ∧ (x2.1 = cvM ops x2.2.2) ∧ (x2.2.1 = csM ops plc alc x2.2.2)) (fun x2 => 25 - x2.2.2) ?_ (0, 0, 0) ls ⟨lv_sub hl [0, 1, 2, 3, 4] rfl, (Nat.zero_le _), rfl, rfl⟩
    clear hl
    intro x2 ls hI4 ih3
    obtain ⟨x2, x3, i⟩ := x2
    obtain ⟨hl, hi, h2, h3⟩ := hI4
    have hl : lv_has ls 5 [(4, .int (nI i)), (3, .int (nI x3)), (2, .int (nI x2)), (0, .ref mo), (1, .int q)] := hl
    have hi : i ≤ n := hi
    have h2 : x2 = cvM ops i := h2
    have h3 : x3 = csM ops plc alc i := h3
    refine lv_iload hx hb d_Mo_count_28 (lv_at hl 0 rfl) ?_
    refine lv_aload_n hx hb d_Mo_count_30 rfl (lv_at hl 3 rfl) ?_
    refine va_get (D := (dC, dI)) (ci := 4) (v := .int (nI n)) (C := R_Mo) (T := T_Mo) (N := 18) hx hb hg in_Mo hown hK hP 0 rfl rfl 10 (by decide) (hg _ tw_580) (fun _ h9 => h9) rfl d_Mo_count_31 ?_
    refine wb_icmp_ge (tgt := 83) hx hb i n rfl rfl (by omega) (by omega) d_Mo_count_34 (by decide) (fun c5 => ?_) (fun c5 => ?_)
    · refine lv_iload_n hx hb d_Mo_count_83 rfl (lv_at hl 4 rfl) ?_
      refine lv_iconst (v := 3) hx hb d_Mo_count_84 (by decide) ?_
      refine lv_icmp_ge (tgt := 113) hx hb d_Mo_count_85 (by decide) (fun c6 => ?_) (fun c6 => ?_)
      · refine lv_aload_n hx hb d_Mo_count_113 rfl (lv_at hl 3 rfl) ?_
        refine va_get (D := (dC, dI)) (ci := 4) (v := .int (bI alc)) (C := R_Mo) (T := T_Mo) (N := 18) hx hb hg in_Mo hown hK hP 0 rfl rfl 17 (by decide) (hg _ tw_587) (fun _ h9 => h9) rfl d_Mo_count_114 ?_
        refine wb_if_neb (tgt := 122) hx hb alc rfl d_Mo_count_117 (by decide) (fun c7 => ?_) (fun c7 => ?_)
        · refine lv_iload_n hx hb d_Mo_count_122 rfl (lv_at hl 4 rfl) ?_
          refine lv_iconst (v := 3) hx hb d_Mo_count_123 (by decide) ?_
          refine lv_icmp_ne (tgt := 134) hx hb d_Mo_count_124 (by decide) (fun c8 => ?_) (fun c8 => ?_)
          · refine lv_iload_n hx hb d_Mo_count_134 rfl (lv_at hl 4 rfl) ?_
            refine lv_iconst (v := 4) hx hb d_Mo_count_135 (by decide) ?_
            refine lv_icmp_ne (tgt := 143) hx hb d_Mo_count_136 (by decide) (fun c9 => ?_) (fun c9 => ?_)
            · refine lv_iload_n hx hb d_Mo_count_143 rfl (lv_at hl 4 rfl) ?_
              refine lv_iconst (v := 5) hx hb d_Mo_count_144 (by decide) ?_
              refine lv_icmp_ne (tgt := 159) hx hb d_Mo_count_145 (by decide) (fun c10 => ?_) (fun c10 => ?_)
              · refine lv_iload_n hx hb d_Mo_count_159 rfl (lv_at hl 4 rfl) ?_
                refine lv_bipush (v := 6) hx hb d_Mo_count_160 (by decide) ?_
                refine lv_icmp_ne (tgt := 174) hx hb d_Mo_count_162 (by decide) (fun c11 => ?_) (fun c11 => ?_)
                · refine lv_aload_n hx hb d_Mo_count_174 rfl (lv_at hl 3 rfl) ?_
                  refine va_get (D := (dC, dI)) (ci := 4) (v := .int (nI rgm)) (C := R_Mo) (T := T_Mo) (N := 18) hx hb hg in_Mo hown hK hP 0 rfl rfl 12 (by decide) (hg _ tw_582) (fun _ h9 => h9) rfl d_Mo_count_175 ?_
                  have hP9 : va_P (dC, dI) vwCl [(mo, .inr (4, [.ref a1, .ref a2, .ref a3, .ref a4, .ref a5, .ref a6, .ref a7, .ref a8, .ref a9, .ref a10, .int (nI n), .int (nI evm), .int (nI rgm), .int (nI sm), .int rm, .int 0, .int (nI chm), .int (bI alc)])), (a1, .inl (cI, 24, .inl ops)), (a2, .inl (cI, 24, .inl lf)), (a3, .inl (cI, 24, .inl rg)), (a4, .inl (cI, 24, .inl dpa)), (a5, .inl (cI, 24, .inl plc)), (a6, .inl (cI, 24, .inl mde)), (a7, .inl (cI, 24, .inl val)), (a8, .inl (cI, 16, .inl cel)), (a9, .inl (cI, 24, .inl sdm)), (a10, .inl (cI, 24, .inl bfr))] _ := hP.sub [0, 1, 2, 3, 4, 5, 6, 7, 8, 9, 10] rfl
                  have hD9 : va_D A [(mo, .inr (4, [.ref a1, .ref a2, .ref a3, .ref a4, .ref a5, .ref a6, .ref a7, .ref a8, .ref a9, .ref a10, .int (nI n), .int (nI evm), .int (nI rgm), .int (nI sm), .int rm, .int 0, .int (nI chm), .int (bI alc)])), (a1, .inl (cI, 24, .inl ops)), (a2, .inl (cI, 24, .inl lf)), (a3, .inl (cI, 24, .inl rg)), (a4, .inl (cI, 24, .inl dpa)), (a5, .inl (cI, 24, .inl plc)), (a6, .inl (cI, 24, .inl mde)), (a7, .inl (cI, 24, .inl val)), (a8, .inl (cI, 16, .inl cel)), (a9, .inl (cI, 24, .inl sdm)), (a10, .inl (cI, 24, .inl bfr))] := hD.sub [0, 1, 2, 3, 4, 5, 6, 7, 8, 9, 10] (by decide) rfl
                  refine W.widen (k := 0) (n := 0) (Nat.le_of_ble_eq_true rfl) (Nat.le_of_ble_eq_true rfl) ?_
                  refine ex_ret ?_
                  exact W.iret (v := nI rgm) hx hb hr (fun t ht hW => ⟨⟨1, Or.inl ⟨_, rfl, Or.inr (⟨rfl, c1, (congrArg (fun z => Sum.inl (some (Value.int z))) (ctM_7 c1 c6 c7 c8 c9 c10 c11))⟩)⟩, by rw [ht]; exact hP9, va_K.moved hW.alike hK, hD9⟩, hS.F ht⟩) hS.2.2 d_Mo_count_178
                · refine lv_aload_n hx hb d_Mo_count_165 rfl (lv_at hl 3 rfl) ?_
                  refine lv_iconst (v := 0) hx hb d_Mo_count_166 (by decide) ?_
                  refine lv_iconst (v := 5) hx hb d_Mo_count_167 (by decide) ?_
                  refine rdV (ci := 4) (q0 := 0) (As := [.int ((0 : Int32)), .int ((5 : Int32))]) (rest := []) ⟨hx, hb, hml, hown, hg⟩ (c_Mo_used l dC dI cI mo a1 a2 a3 a4 a5 a6 a7 a8 a9 a10 ops lf rg dpa plc mde val cel sdm bfr n evm rgm sm rm ((0 : Int32)) chm alc 0 5 hn (by decide)) (cwV 2 hg (tg_V tw_746 tw_748 sp_Mo_used tw_6 tw_749) rfl rfl rfl (by decide +kernel) ⟨Nat.le_of_ble_eq_true rfl, Nat.le_of_ble_eq_true rfl⟩) (hK.sub [0] rfl) (hP.sub [0, 1, 2, 3, 4, 5, 6, 7, 8, 9, 10] rfl) rfl rfl rfl hl.1 rfl (lv_room (Nat.le_of_ble_eq_true rfl)) d_Mo_count_168 ⟨Nat.le_of_ble_eq_true rfl, Nat.le_of_ble_eq_true rfl⟩ ?_
                  refine lv_goto (tgt := 178) hx hb d_Mo_count_171 (by decide) ?_
                  have hP9 : va_P (dC, dI) vwCl [(mo, .inr (4, [.ref a1, .ref a2, .ref a3, .ref a4, .ref a5, .ref a6, .ref a7, .ref a8, .ref a9, .ref a10, .int (nI n), .int (nI evm), .int (nI rgm), .int (nI sm), .int rm, .int 0, .int (nI chm), .int (bI alc)])), (a1, .inl (cI, 24, .inl ops)), (a2, .inl (cI, 24, .inl lf)), (a3, .inl (cI, 24, .inl rg)), (a4, .inl (cI, 24, .inl dpa)), (a5, .inl (cI, 24, .inl plc)), (a6, .inl (cI, 24, .inl mde)), (a7, .inl (cI, 24, .inl val)), (a8, .inl (cI, 16, .inl cel)), (a9, .inl (cI, 24, .inl sdm)), (a10, .inl (cI, 24, .inl bfr))] _ := hP.sub [0, 1, 2, 3, 4, 5, 6, 7, 8, 9, 10] rfl
                  have hD9 : va_D A [(mo, .inr (4, [.ref a1, .ref a2, .ref a3, .ref a4, .ref a5, .ref a6, .ref a7, .ref a8, .ref a9, .ref a10, .int (nI n), .int (nI evm), .int (nI rgm), .int (nI sm), .int rm, .int 0, .int (nI chm), .int (bI alc)])), (a1, .inl (cI, 24, .inl ops)), (a2, .inl (cI, 24, .inl lf)), (a3, .inl (cI, 24, .inl rg)), (a4, .inl (cI, 24, .inl dpa)), (a5, .inl (cI, 24, .inl plc)), (a6, .inl (cI, 24, .inl mde)), (a7, .inl (cI, 24, .inl val)), (a8, .inl (cI, 16, .inl cel)), (a9, .inl (cI, 24, .inl sdm)), (a10, .inl (cI, 24, .inl bfr))] := hD.sub [0, 1, 2, 3, 4, 5, 6, 7, 8, 9, 10] (by decide) rfl
                  refine W.widen (k := 0) (n := 0) (Nat.le_of_ble_eq_true rfl) (Nat.le_of_ble_eq_true rfl) ?_
                  refine ex_ret ?_
                  exact W.iret (v := nI (udM ops plc n 0 5)) hx hb hr (fun t ht hW => ⟨⟨1, Or.inl ⟨_, rfl, Or.inr (⟨rfl, c1, (congrArg (fun z => Sum.inl (some (Value.int z))) (ctM_6 c7 c11))⟩)⟩, by rw [ht]; exact hP9, va_K.moved hW.alike hK, hD9⟩, hS.F ht⟩) hS.2.2 d_Mo_count_178
              · refine lv_aload_n hx hb d_Mo_count_148 rfl (lv_at hl 3 rfl) ?_
                refine lv_bipush (v := 10) hx hb d_Mo_count_149 (by decide) ?_
                refine lv_bipush (v := 16) hx hb d_Mo_count_151 (by decide) ?_
                refine rdV (ci := 4) (q0 := 0) (As := [.int ((10 : Int32)), .int ((16 : Int32))]) (rest := []) ⟨hx, hb, hml, hown, hg⟩ (c_Mo_used l dC dI cI mo a1 a2 a3 a4 a5 a6 a7 a8 a9 a10 ops lf rg dpa plc mde val cel sdm bfr n evm rgm sm rm ((0 : Int32)) chm alc 10 6 hn (by decide)) (cwV 2 hg (tg_V tw_746 tw_748 sp_Mo_used tw_6 tw_749) rfl rfl rfl (by decide +kernel) ⟨Nat.le_of_ble_eq_true rfl, Nat.le_of_ble_eq_true rfl⟩) (hK.sub [0] rfl) (hP.sub [0, 1, 2, 3, 4, 5, 6, 7, 8, 9, 10] rfl) rfl rfl rfl hl.1 rfl (lv_room (Nat.le_of_ble_eq_true rfl)) d_Mo_count_153 ⟨Nat.le_of_ble_eq_true rfl, Nat.le_of_ble_eq_true rfl⟩ ?_
                refine lv_goto (tgt := 178) hx hb d_Mo_count_156 (by decide) ?_
                have hP9 : va_P (dC, dI) vwCl [(mo, .inr (4, [.ref a1, .ref a2, .ref a3, .ref a4, .ref a5, .ref a6, .ref a7, .ref a8, .ref a9, .ref a10, .int (nI n), .int (nI evm), .int (nI rgm), .int (nI sm), .int rm, .int 0, .int (nI chm), .int (bI alc)])), (a1, .inl (cI, 24, .inl ops)), (a2, .inl (cI, 24, .inl lf)), (a3, .inl (cI, 24, .inl rg)), (a4, .inl (cI, 24, .inl dpa)), (a5, .inl (cI, 24, .inl plc)), (a6, .inl (cI, 24, .inl mde)), (a7, .inl (cI, 24, .inl val)), (a8, .inl (cI, 16, .inl cel)), (a9, .inl (cI, 24, .inl sdm)), (a10, .inl (cI, 24, .inl bfr))] _ := hP.sub [0, 1, 2, 3, 4, 5, 6, 7, 8, 9, 10] rfl
                have hD9 : va_D A [(mo, .inr (4, [.ref a1, .ref a2, .ref a3, .ref a4, .ref a5, .ref a6, .ref a7, .ref a8, .ref a9, .ref a10, .int (nI n), .int (nI evm), .int (nI rgm), .int (nI sm), .int rm, .int 0, .int (nI chm), .int (bI alc)])), (a1, .inl (cI, 24, .inl ops)), (a2, .inl (cI, 24, .inl lf)), (a3, .inl (cI, 24, .inl rg)), (a4, .inl (cI, 24, .inl dpa)), (a5, .inl (cI, 24, .inl plc)), (a6, .inl (cI, 24, .inl mde)), (a7, .inl (cI, 24, .inl val)), (a8, .inl (cI, 16, .inl cel)), (a9, .inl (cI, 24, .inl sdm)), (a10, .inl (cI, 24, .inl bfr))] := hD.sub [0, 1, 2, 3, 4, 5, 6, 7, 8, 9, 10] (by decide) rfl
                refine W.widen (k := 0) (n := 0) (Nat.le_of_ble_eq_true rfl) (Nat.le_of_ble_eq_true rfl) ?_
                refine ex_ret ?_
                exact W.iret (v := nI (udM ops plc n 10 6)) hx hb hr (fun t ht hW => ⟨⟨1, Or.inl ⟨_, rfl, Or.inr (⟨rfl, c1, (congrArg (fun z => Sum.inl (some (Value.int z))) (ctM_5 c7 c10))⟩)⟩, by rw [ht]; exact hP9, va_K.moved hW.alike hK, hD9⟩, hS.F ht⟩) hS.2.2 d_Mo_count_178
            · refine lv_iload_n hx hb d_Mo_count_139 rfl (lv_at hl 1 rfl) ?_
              refine lv_goto (tgt := 178) hx hb d_Mo_count_140 (by decide) ?_
              have hP9 : va_P (dC, dI) vwCl [(mo, .inr (4, [.ref a1, .ref a2, .ref a3, .ref a4, .ref a5, .ref a6, .ref a7, .ref a8, .ref a9, .ref a10, .int (nI n), .int (nI evm), .int (nI rgm), .int (nI sm), .int rm, .int 0, .int (nI chm), .int (bI alc)])), (a1, .inl (cI, 24, .inl ops)), (a2, .inl (cI, 24, .inl lf)), (a3, .inl (cI, 24, .inl rg)), (a4, .inl (cI, 24, .inl dpa)), (a5, .inl (cI, 24, .inl plc)), (a6, .inl (cI, 24, .inl mde)), (a7, .inl (cI, 24, .inl val)), (a8, .inl (cI, 16, .inl cel)), (a9, .inl (cI, 24, .inl sdm)), (a10, .inl (cI, 24, .inl bfr))] _ := hP.sub [0, 1, 2, 3, 4, 5, 6, 7, 8, 9, 10] rfl
              have hD9 : va_D A [(mo, .inr (4, [.ref a1, .ref a2, .ref a3, .ref a4, .ref a5, .ref a6, .ref a7, .ref a8, .ref a9, .ref a10, .int (nI n), .int (nI evm), .int (nI rgm), .int (nI sm), .int rm, .int 0, .int (nI chm), .int (bI alc)])), (a1, .inl (cI, 24, .inl ops)), (a2, .inl (cI, 24, .inl lf)), (a3, .inl (cI, 24, .inl rg)), (a4, .inl (cI, 24, .inl dpa)), (a5, .inl (cI, 24, .inl plc)), (a6, .inl (cI, 24, .inl mde)), (a7, .inl (cI, 24, .inl val)), (a8, .inl (cI, 16, .inl cel)), (a9, .inl (cI, 24, .inl sdm)), (a10, .inl (cI, 24, .inl bfr))] := hD.sub [0, 1, 2, 3, 4, 5, 6, 7, 8, 9, 10] (by decide) rfl
              refine W.widen (k := 0) (n := 0) (Nat.le_of_ble_eq_true rfl) (Nat.le_of_ble_eq_true rfl) ?_
              refine ex_ret ?_
              exact W.iret (v := nI x3) hx hb hr (fun t ht hW => ⟨⟨1, Or.inl ⟨_, rfl, Or.inr (⟨rfl, c1, (congrArg (fun z => Sum.inl (some (Value.int z))) ((congrArg nI (h3.trans (congrArg (csM ops plc alc) (Nat.le_antisymm hi c5)))).trans (ctM_4 c7 c9)))⟩)⟩, by rw [ht]; exact hP9, va_K.moved hW.alike hK, hD9⟩, hS.F ht⟩) hS.2.2 d_Mo_count_178
          · refine lv_aload_n hx hb d_Mo_count_127 rfl (lv_at hl 3 rfl) ?_
            refine va_get (D := (dC, dI)) (ci := 4) (v := .int (nI evm)) (C := R_Mo) (T := T_Mo) (N := 18) hx hb hg in_Mo hown hK hP 0 rfl rfl 11 (by decide) (hg _ tw_581) (fun _ h9 => h9) rfl d_Mo_count_128 ?_
            refine lv_goto (tgt := 178) hx hb d_Mo_count_131 (by decide) ?_
            have hP9 : va_P (dC, dI) vwCl [(mo, .inr (4, [.ref a1, .ref a2, .ref a3, .ref a4, .ref a5, .ref a6, .ref a7, .ref a8, .ref a9, .ref a10, .int (nI n), .int (nI evm), .int (nI rgm), .int (nI sm), .int rm, .int 0, .int (nI chm), .int (bI alc)])), (a1, .inl (cI, 24, .inl ops)), (a2, .inl (cI, 24, .inl lf)), (a3, .inl (cI, 24, .inl rg)), (a4, .inl (cI, 24, .inl dpa)), (a5, .inl (cI, 24, .inl plc)), (a6, .inl (cI, 24, .inl mde)), (a7, .inl (cI, 24, .inl val)), (a8, .inl (cI, 16, .inl cel)), (a9, .inl (cI, 24, .inl sdm)), (a10, .inl (cI, 24, .inl bfr))] _ := hP.sub [0, 1, 2, 3, 4, 5, 6, 7, 8, 9, 10] rfl
            have hD9 : va_D A [(mo, .inr (4, [.ref a1, .ref a2, .ref a3, .ref a4, .ref a5, .ref a6, .ref a7, .ref a8, .ref a9, .ref a10, .int (nI n), .int (nI evm), .int (nI rgm), .int (nI sm), .int rm, .int 0, .int (nI chm), .int (bI alc)])), (a1, .inl (cI, 24, .inl ops)), (a2, .inl (cI, 24, .inl lf)), (a3, .inl (cI, 24, .inl rg)), (a4, .inl (cI, 24, .inl dpa)), (a5, .inl (cI, 24, .inl plc)), (a6, .inl (cI, 24, .inl mde)), (a7, .inl (cI, 24, .inl val)), (a8, .inl (cI, 16, .inl cel)), (a9, .inl (cI, 24, .inl sdm)), (a10, .inl (cI, 24, .inl bfr))] := hD.sub [0, 1, 2, 3, 4, 5, 6, 7, 8, 9, 10] (by decide) rfl
            refine W.widen (k := 0) (n := 0) (Nat.le_of_ble_eq_true rfl) (Nat.le_of_ble_eq_true rfl) ?_
            refine ex_ret ?_
            exact W.iret (v := nI evm) hx hb hr (fun t ht hW => ⟨⟨1, Or.inl ⟨_, rfl, Or.inr (⟨rfl, c1, (congrArg (fun z => Sum.inl (some (Value.int z))) (ctM_3 c7 c8))⟩)⟩, by rw [ht]; exact hP9, va_K.moved hW.alike hK, hD9⟩, hS.F ht⟩) hS.2.2 d_Mo_count_178
        · refine lv_iconst (v := 0) hx hb d_Mo_count_120 (by decide) ?_
          have hP9 : va_P (dC, dI) vwCl [(mo, .inr (4, [.ref a1, .ref a2, .ref a3, .ref a4, .ref a5, .ref a6, .ref a7, .ref a8, .ref a9, .ref a10, .int (nI n), .int (nI evm), .int (nI rgm), .int (nI sm), .int rm, .int 0, .int (nI chm), .int (bI alc)])), (a1, .inl (cI, 24, .inl ops)), (a2, .inl (cI, 24, .inl lf)), (a3, .inl (cI, 24, .inl rg)), (a4, .inl (cI, 24, .inl dpa)), (a5, .inl (cI, 24, .inl plc)), (a6, .inl (cI, 24, .inl mde)), (a7, .inl (cI, 24, .inl val)), (a8, .inl (cI, 16, .inl cel)), (a9, .inl (cI, 24, .inl sdm)), (a10, .inl (cI, 24, .inl bfr))] _ := hP.sub [0, 1, 2, 3, 4, 5, 6, 7, 8, 9, 10] rfl
          have hD9 : va_D A [(mo, .inr (4, [.ref a1, .ref a2, .ref a3, .ref a4, .ref a5, .ref a6, .ref a7, .ref a8, .ref a9, .ref a10, .int (nI n), .int (nI evm), .int (nI rgm), .int (nI sm), .int rm, .int 0, .int (nI chm), .int (bI alc)])), (a1, .inl (cI, 24, .inl ops)), (a2, .inl (cI, 24, .inl lf)), (a3, .inl (cI, 24, .inl rg)), (a4, .inl (cI, 24, .inl dpa)), (a5, .inl (cI, 24, .inl plc)), (a6, .inl (cI, 24, .inl mde)), (a7, .inl (cI, 24, .inl val)), (a8, .inl (cI, 16, .inl cel)), (a9, .inl (cI, 24, .inl sdm)), (a10, .inl (cI, 24, .inl bfr))] := hD.sub [0, 1, 2, 3, 4, 5, 6, 7, 8, 9, 10] (by decide) rfl
          refine W.widen (k := 0) (n := 0) (Nat.le_of_ble_eq_true rfl) (Nat.le_of_ble_eq_true rfl) ?_
          refine ex_ret ?_
          exact W.iret (v := (0 : Int32)) hx hb hr (fun t ht hW => ⟨⟨1, Or.inl ⟨_, rfl, Or.inr (⟨rfl, c1, (congrArg (fun z => Sum.inl (some (Value.int z))) (ctM_a c6 c7))⟩)⟩, by rw [ht]; exact hP9, va_K.moved hW.alike hK, hD9⟩, hS.F ht⟩) hS.2.2 d_Mo_count_121
      · refine lv_iload_n hx hb d_Mo_count_88 rfl (lv_at hl 4 rfl) ?_
        refine lv_if_ne (tgt := 99) hx hb d_Mo_count_89 (by decide) (fun c12 => ?_) (fun c12 => ?_)
        · refine lv_iload_n hx hb d_Mo_count_99 rfl (lv_at hl 4 rfl) ?_
          refine lv_iconst (v := 1) hx hb d_Mo_count_100 (by decide) ?_
          refine lv_icmp_ne (tgt := 108) hx hb d_Mo_count_101 (by decide) (fun c13 => ?_) (fun c13 => ?_)
          · refine lv_aload_n hx hb d_Mo_count_108 rfl (lv_at hl 3 rfl) ?_
            refine va_get (D := (dC, dI)) (ci := 4) (v := .int (nI sm)) (C := R_Mo) (T := T_Mo) (N := 18) hx hb hg in_Mo hown hK hP 0 rfl rfl 13 (by decide) (hg _ tw_583) (fun _ h9 => h9) rfl d_Mo_count_109 ?_
            have hP9 : va_P (dC, dI) vwCl [(mo, .inr (4, [.ref a1, .ref a2, .ref a3, .ref a4, .ref a5, .ref a6, .ref a7, .ref a8, .ref a9, .ref a10, .int (nI n), .int (nI evm), .int (nI rgm), .int (nI sm), .int rm, .int 0, .int (nI chm), .int (bI alc)])), (a1, .inl (cI, 24, .inl ops)), (a2, .inl (cI, 24, .inl lf)), (a3, .inl (cI, 24, .inl rg)), (a4, .inl (cI, 24, .inl dpa)), (a5, .inl (cI, 24, .inl plc)), (a6, .inl (cI, 24, .inl mde)), (a7, .inl (cI, 24, .inl val)), (a8, .inl (cI, 16, .inl cel)), (a9, .inl (cI, 24, .inl sdm)), (a10, .inl (cI, 24, .inl bfr))] _ := hP.sub [0, 1, 2, 3, 4, 5, 6, 7, 8, 9, 10] rfl
            have hD9 : va_D A [(mo, .inr (4, [.ref a1, .ref a2, .ref a3, .ref a4, .ref a5, .ref a6, .ref a7, .ref a8, .ref a9, .ref a10, .int (nI n), .int (nI evm), .int (nI rgm), .int (nI sm), .int rm, .int 0, .int (nI chm), .int (bI alc)])), (a1, .inl (cI, 24, .inl ops)), (a2, .inl (cI, 24, .inl lf)), (a3, .inl (cI, 24, .inl rg)), (a4, .inl (cI, 24, .inl dpa)), (a5, .inl (cI, 24, .inl plc)), (a6, .inl (cI, 24, .inl mde)), (a7, .inl (cI, 24, .inl val)), (a8, .inl (cI, 16, .inl cel)), (a9, .inl (cI, 24, .inl sdm)), (a10, .inl (cI, 24, .inl bfr))] := hD.sub [0, 1, 2, 3, 4, 5, 6, 7, 8, 9, 10] (by decide) rfl
            refine W.widen (k := 0) (n := 0) (Nat.le_of_ble_eq_true rfl) (Nat.le_of_ble_eq_true rfl) ?_
            refine ex_ret ?_
            exact W.iret (v := nI sm) hx hb hr (fun t ht hW => ⟨⟨1, Or.inl ⟨_, rfl, Or.inr (⟨rfl, c1, (congrArg (fun z => Sum.inl (some (Value.int z))) (ctM_2 c1 c6 c12 c13))⟩)⟩, by rw [ht]; exact hP9, va_K.moved hW.alike hK, hD9⟩, hS.F ht⟩) hS.2.2 d_Mo_count_112
          · refine lv_iload_n hx hb d_Mo_count_104 rfl (lv_at hl 2 rfl) ?_
            refine lv_goto (tgt := 112) hx hb d_Mo_count_105 (by decide) ?_
            have hP9 : va_P (dC, dI) vwCl [(mo, .inr (4, [.ref a1, .ref a2, .ref a3, .ref a4, .ref a5, .ref a6, .ref a7, .ref a8, .ref a9, .ref a10, .int (nI n), .int (nI evm), .int (nI rgm), .int (nI sm), .int rm, .int 0, .int (nI chm), .int (bI alc)])), (a1, .inl (cI, 24, .inl ops)), (a2, .inl (cI, 24, .inl lf)), (a3, .inl (cI, 24, .inl rg)), (a4, .inl (cI, 24, .inl dpa)), (a5, .inl (cI, 24, .inl plc)), (a6, .inl (cI, 24, .inl mde)), (a7, .inl (cI, 24, .inl val)), (a8, .inl (cI, 16, .inl cel)), (a9, .inl (cI, 24, .inl sdm)), (a10, .inl (cI, 24, .inl bfr))] _ := hP.sub [0, 1, 2, 3, 4, 5, 6, 7, 8, 9, 10] rfl
            have hD9 : va_D A [(mo, .inr (4, [.ref a1, .ref a2, .ref a3, .ref a4, .ref a5, .ref a6, .ref a7, .ref a8, .ref a9, .ref a10, .int (nI n), .int (nI evm), .int (nI rgm), .int (nI sm), .int rm, .int 0, .int (nI chm), .int (bI alc)])), (a1, .inl (cI, 24, .inl ops)), (a2, .inl (cI, 24, .inl lf)), (a3, .inl (cI, 24, .inl rg)), (a4, .inl (cI, 24, .inl dpa)), (a5, .inl (cI, 24, .inl plc)), (a6, .inl (cI, 24, .inl mde)), (a7, .inl (cI, 24, .inl val)), (a8, .inl (cI, 16, .inl cel)), (a9, .inl (cI, 24, .inl sdm)), (a10, .inl (cI, 24, .inl bfr))] := hD.sub [0, 1, 2, 3, 4, 5, 6, 7, 8, 9, 10] (by decide) rfl
            refine W.widen (k := 0) (n := 0) (Nat.le_of_ble_eq_true rfl) (Nat.le_of_ble_eq_true rfl) ?_
            refine ex_ret ?_
            exact W.iret (v := nI x2) hx hb hr (fun t ht hW => ⟨⟨1, Or.inl ⟨_, rfl, Or.inr (⟨rfl, c1, (congrArg (fun z => Sum.inl (some (Value.int z))) ((congrArg nI (h2.trans (congrArg (cvM ops) (Nat.le_antisymm hi c5)))).trans (ctM_1 c13)))⟩)⟩, by rw [ht]; exact hP9, va_K.moved hW.alike hK, hD9⟩, hS.F ht⟩) hS.2.2 d_Mo_count_112
        · refine lv_aload_n hx hb d_Mo_count_92 rfl (lv_at hl 3 rfl) ?_
          refine va_get (D := (dC, dI)) (ci := 4) (v := .int (nI n)) (C := R_Mo) (T := T_Mo) (N := 18) hx hb hg in_Mo hown hK hP 0 rfl rfl 10 (by decide) (hg _ tw_580) (fun _ h9 => h9) rfl d_Mo_count_93 ?_
          refine lv_goto (tgt := 112) hx hb d_Mo_count_96 (by decide) ?_
          have hP9 : va_P (dC, dI) vwCl [(mo, .inr (4, [.ref a1, .ref a2, .ref a3, .ref a4, .ref a5, .ref a6, .ref a7, .ref a8, .ref a9, .ref a10, .int (nI n), .int (nI evm), .int (nI rgm), .int (nI sm), .int rm, .int 0, .int (nI chm), .int (bI alc)])), (a1, .inl (cI, 24, .inl ops)), (a2, .inl (cI, 24, .inl lf)), (a3, .inl (cI, 24, .inl rg)), (a4, .inl (cI, 24, .inl dpa)), (a5, .inl (cI, 24, .inl plc)), (a6, .inl (cI, 24, .inl mde)), (a7, .inl (cI, 24, .inl val)), (a8, .inl (cI, 16, .inl cel)), (a9, .inl (cI, 24, .inl sdm)), (a10, .inl (cI, 24, .inl bfr))] _ := hP.sub [0, 1, 2, 3, 4, 5, 6, 7, 8, 9, 10] rfl
          have hD9 : va_D A [(mo, .inr (4, [.ref a1, .ref a2, .ref a3, .ref a4, .ref a5, .ref a6, .ref a7, .ref a8, .ref a9, .ref a10, .int (nI n), .int (nI evm), .int (nI rgm), .int (nI sm), .int rm, .int 0, .int (nI chm), .int (bI alc)])), (a1, .inl (cI, 24, .inl ops)), (a2, .inl (cI, 24, .inl lf)), (a3, .inl (cI, 24, .inl rg)), (a4, .inl (cI, 24, .inl dpa)), (a5, .inl (cI, 24, .inl plc)), (a6, .inl (cI, 24, .inl mde)), (a7, .inl (cI, 24, .inl val)), (a8, .inl (cI, 16, .inl cel)), (a9, .inl (cI, 24, .inl sdm)), (a10, .inl (cI, 24, .inl bfr))] := hD.sub [0, 1, 2, 3, 4, 5, 6, 7, 8, 9, 10] (by decide) rfl
          refine W.widen (k := 0) (n := 0) (Nat.le_of_ble_eq_true rfl) (Nat.le_of_ble_eq_true rfl) ?_
          refine ex_ret ?_
          exact W.iret (v := nI n) hx hb hr (fun t ht hW => ⟨⟨1, Or.inl ⟨_, rfl, Or.inr (⟨rfl, c1, (congrArg (fun z => Sum.inl (some (Value.int z))) (ctM_0 c12))⟩)⟩, by rw [ht]; exact hP9, va_K.moved hW.alike hK, hD9⟩, hS.F ht⟩) hS.2.2 d_Mo_count_112
    · refine lv_aload_n hx hb d_Mo_count_37 rfl (lv_at hl 3 rfl) ?_
      refine va_get (D := (dC, dI)) (ci := 4) (v := .ref a1) (C := R_Mo) (T := T_Mo) (N := 18) hx hb hg in_Mo hown hK hP 0 rfl rfl 0 (by decide) (hg _ tw_570) (fun _ h9 => h9) rfl d_Mo_count_38 ?_
      refine lv_iload hx hb d_Mo_count_41 (lv_at hl 0 rfl) ?_
      refine wb_iald hx hb hK hP 1 0 rfl rfl i rfl (Nat.lt_of_lt_of_le c5 hn) (by decide) d_Mo_count_43 ?_
      refine lv_bipush (v := 6) hx hb d_Mo_count_44 (by decide) ?_
      refine lv_icmp_ne (tgt := 52) hx hb d_Mo_count_46 (by decide) (fun c14 => ?_) (fun c14 => ?_)
      · refine lv_iinc (v := (nI (x2 + 1))) (lv' := [(2, .int (nI (x2 + 1))), (4, .int (nI i)), (3, .int (nI x3)), (0, .ref mo), (1, .int q)]) hx hb d_Mo_count_52 hl (k := 2) rfl (nI_add _ 1) (by decide) rfl (fun ls hl => ?_)
        refine lv_aload_n hx hb d_Mo_count_55 rfl (lv_at hl 3 rfl) ?_
        refine va_get (D := (dC, dI)) (ci := 4) (v := .int (bI alc)) (C := R_Mo) (T := T_Mo) (N := 18) hx hb hg in_Mo hown hK hP 0 rfl rfl 17 (by decide) (hg _ tw_587) (fun _ h9 => h9) rfl d_Mo_count_56 ?_
        refine wb_if_eqb (tgt := 77) hx hb alc rfl d_Mo_count_59 (by decide) (fun c15 => ?_) (fun c15 => ?_)
        · refine lv_iinc (v := (nI (i + 1))) (lv' := [(4, .int (nI (i + 1))), (2, .int (nI (x2 + 1))), (3, .int (nI x3)), (0, .ref mo), (1, .int q)]) hx hb d_Mo_count_77 hl (k := 1) rfl (nI_add _ 1) (by decide) rfl (fun ls hl => ?_)
          refine lv_goto (tgt := 28) hx hb d_Mo_count_80 (by decide) ?_
          exact ih3 (x2 + 1, x3, i + 1) ls ⟨lv_sub hl [0, 2, 1, 3, 4] rfl, c5, (cvM_y h2 c14), (csM_n h3 (Or.inr (Or.inl c15)))⟩ (by show 25 - (i + 1) < 25 - i; have := c5; omega)
        · refine lv_aload_n hx hb d_Mo_count_62 rfl (lv_at hl 3 rfl) ?_
          refine va_get (D := (dC, dI)) (ci := 4) (v := .ref a5) (C := R_Mo) (T := T_Mo) (N := 18) hx hb hg in_Mo hown hK hP 0 rfl rfl 4 (by decide) (hg _ tw_574) (fun _ h9 => h9) rfl d_Mo_count_63 ?_
          refine lv_iload hx hb d_Mo_count_66 (lv_at hl 1 rfl) ?_
          refine wb_iald hx hb hK hP 5 0 rfl rfl i rfl (Nat.lt_of_lt_of_le c5 hn) (by decide) d_Mo_count_68 ?_
          refine lv_bipush (v := 9) hx hb d_Mo_count_69 (by decide) ?_
          refine lv_icmp_le (tgt := 77) hx hb d_Mo_count_71 (by decide) (fun c16 => ?_) (fun c16 => ?_)
          · refine lv_iinc (v := (nI (i + 1))) (lv' := [(4, .int (nI (i + 1))), (2, .int (nI (x2 + 1))), (3, .int (nI x3)), (0, .ref mo), (1, .int q)]) hx hb d_Mo_count_77 hl (k := 1) rfl (nI_add _ 1) (by decide) rfl (fun ls hl => ?_)
            refine lv_goto (tgt := 28) hx hb d_Mo_count_80 (by decide) ?_
            exact ih3 (x2 + 1, x3, i + 1) ls ⟨lv_sub hl [0, 2, 1, 3, 4] rfl, c5, (cvM_y h2 c14), (csM_n h3 (Or.inr (Or.inr c16)))⟩ (by show 25 - (i + 1) < 25 - i; have := c5; omega)
          · refine lv_iinc (v := (nI (x3 + 1))) (lv' := [(3, .int (nI (x3 + 1))), (2, .int (nI (x2 + 1))), (4, .int (nI i)), (0, .ref mo), (1, .int q)]) hx hb d_Mo_count_74 hl (k := 2) rfl (nI_add _ 1) (by decide) rfl (fun ls hl => ?_)
            refine lv_iinc (v := (nI (i + 1))) (lv' := [(4, .int (nI (i + 1))), (3, .int (nI (x3 + 1))), (2, .int (nI (x2 + 1))), (0, .ref mo), (1, .int q)]) hx hb d_Mo_count_77 hl (k := 2) rfl (nI_add _ 1) (by decide) rfl (fun ls hl => ?_)
            refine lv_goto (tgt := 28) hx hb d_Mo_count_80 (by decide) ?_
            exact ih3 (x2 + 1, x3 + 1, i + 1) ls ⟨lv_sub hl [0, 1, 2, 3, 4] rfl, c5, (cvM_y h2 c14), (csM_y h3 c14 c15 c16)⟩ (by show 25 - (i + 1) < 25 - i; have := c5; omega)
      · refine lv_goto (tgt := 77) hx hb d_Mo_count_49 (by decide) ?_
        refine lv_iinc (v := (nI (i + 1))) (lv' := [(4, .int (nI (i + 1))), (3, .int (nI x3)), (2, .int (nI x2)), (0, .ref mo), (1, .int q)]) hx hb d_Mo_count_77 hl (k := 0) rfl (nI_add _ 1) (by decide) rfl (fun ls hl => ?_)
        refine lv_goto (tgt := 28) hx hb d_Mo_count_80 (by decide) ?_
        exact ih3 (x2, x3, i + 1) ls ⟨lv_sub hl [0, 1, 2, 3, 4] rfl, c5, (cvM_n h2 c14), (csM_n h3 (Or.inl c14))⟩ (by show 25 - (i + 1) < 25 - i; have := c5; omega)
  · refine lv_aload_n hx hb d_Mo_count_10 rfl (lv_at hl 0 rfl) ?_
    refine lv_iconst (v := 1) hx hb d_Mo_count_11 (by decide) ?_
    refine chVi (ci := 4) (q0 := 0) (wr := []) (As := [.int ((1 : Int32))]) (rest := []) ⟨hx, hb, hml, hown, hg⟩ (c_Mo_fail l dC dI cI mo a1 a2 a3 a4 a5 a6 a7 a8 a9 a10 ops lf rg dpa plc mde val cel sdm bfr n evm rgm sm rm tm chm alc ((1 : Int32)) _) (cwV 1 hg (tg_V tw_643 tw_645 sp_Mo_fail tw_6 tw_646) rfl rfl rfl (by decide +kernel) ⟨Nat.le_of_ble_eq_true rfl, Nat.le_of_ble_eq_true rfl⟩) (hK.sub [0] rfl) hP hD hS hA [0, 1, 2, 3, 4, 5, 6, 7, 8, 9, 10] [] rfl rfl (by decide) (by decide) (by decide) rfl rfl rfl hl.1 rfl (lv_room (Nat.le_of_ble_eq_true rfl)) d_Mo_count_12 ⟨Nat.le_of_ble_eq_true rfl, Nat.le_of_ble_eq_true rfl⟩ (fun r19 u17 H locs w18 hP hD hS => ?_)
    obtain rfl := w18
    have hP : va_P (dC, dI) vwCl [(mo, .inr (4, [.ref a1, .ref a2, .ref a3, .ref a4, .ref a5, .ref a6, .ref a7, .ref a8, .ref a9, .ref a10, .int (nI n), .int (nI evm), .int (nI rgm), .int (nI sm), .int rm, .int (((1 : Int32))), .int (nI chm), .int (bI alc)])), (a1, .inl (cI, 24, .inl ops)), (a2, .inl (cI, 24, .inl lf)), (a3, .inl (cI, 24, .inl rg)), (a4, .inl (cI, 24, .inl dpa)), (a5, .inl (cI, 24, .inl plc)), (a6, .inl (cI, 24, .inl mde)), (a7, .inl (cI, 24, .inl val)), (a8, .inl (cI, 16, .inl cel)), (a9, .inl (cI, 24, .inl sdm)), (a10, .inl (cI, 24, .inl bfr))] H := hP
    have hD : va_D A [(mo, .inr (4, [.ref a1, .ref a2, .ref a3, .ref a4, .ref a5, .ref a6, .ref a7, .ref a8, .ref a9, .ref a10, .int (nI n), .int (nI evm), .int (nI rgm), .int (nI sm), .int rm, .int (((1 : Int32))), .int (nI chm), .int (bI alc)])), (a1, .inl (cI, 24, .inl ops)), (a2, .inl (cI, 24, .inl lf)), (a3, .inl (cI, 24, .inl rg)), (a4, .inl (cI, 24, .inl dpa)), (a5, .inl (cI, 24, .inl plc)), (a6, .inl (cI, 24, .inl mde)), (a7, .inl (cI, 24, .inl val)), (a8, .inl (cI, 16, .inl cel)), (a9, .inl (cI, 24, .inl sdm)), (a10, .inl (cI, 24, .inl bfr))] := hD
    have hP9 : va_P (dC, dI) vwCl [(mo, .inr (4, [.ref a1, .ref a2, .ref a3, .ref a4, .ref a5, .ref a6, .ref a7, .ref a8, .ref a9, .ref a10, .int (nI n), .int (nI evm), .int (nI rgm), .int (nI sm), .int rm, .int 1, .int (nI chm), .int (bI alc)])), (a1, .inl (cI, 24, .inl ops)), (a2, .inl (cI, 24, .inl lf)), (a3, .inl (cI, 24, .inl rg)), (a4, .inl (cI, 24, .inl dpa)), (a5, .inl (cI, 24, .inl plc)), (a6, .inl (cI, 24, .inl mde)), (a7, .inl (cI, 24, .inl val)), (a8, .inl (cI, 16, .inl cel)), (a9, .inl (cI, 24, .inl sdm)), (a10, .inl (cI, 24, .inl bfr))] _ := hP.sub [0, 1, 2, 3, 4, 5, 6, 7, 8, 9, 10] rfl
    have hD9 : va_D A [(mo, .inr (4, [.ref a1, .ref a2, .ref a3, .ref a4, .ref a5, .ref a6, .ref a7, .ref a8, .ref a9, .ref a10, .int (nI n), .int (nI evm), .int (nI rgm), .int (nI sm), .int rm, .int 1, .int (nI chm), .int (bI alc)])), (a1, .inl (cI, 24, .inl ops)), (a2, .inl (cI, 24, .inl lf)), (a3, .inl (cI, 24, .inl rg)), (a4, .inl (cI, 24, .inl dpa)), (a5, .inl (cI, 24, .inl plc)), (a6, .inl (cI, 24, .inl mde)), (a7, .inl (cI, 24, .inl val)), (a8, .inl (cI, 16, .inl cel)), (a9, .inl (cI, 24, .inl sdm)), (a10, .inl (cI, 24, .inl bfr))] := hD.sub [0, 1, 2, 3, 4, 5, 6, 7, 8, 9, 10] (by decide) rfl
    refine W.widen (k := 0) (n := 0) (Nat.le_of_ble_eq_true rfl) (Nat.le_of_ble_eq_true rfl) ?_
    refine ex_ret ?_
    exact W.iret (v := (0 : Int32)) hx hb hr (fun t ht hW => ⟨⟨0, Or.inl ⟨_, rfl, Or.inl (⟨rfl, c1, rfl⟩)⟩, by rw [ht]; exact hP9, va_K.moved hW.alike hK, hD9⟩, hS.F ht⟩) hS.2.2 d_Mo_count_15
