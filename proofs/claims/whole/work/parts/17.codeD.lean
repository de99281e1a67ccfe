/-! AllocForge$Code: accepts, append -/
set_option maxHeartbeats 4000000 in
set_option maxRecDepth 100000 in
theorem c_Co_accepts (l : Launch) (dC : Nat → ClassId) (dI : Nat → Nat → Nat) (cI : ClassId) (h : Nat) (o1 : Nat) (o2 : Nat) (o3 : Nat) (o4 : Nat) (o5 : Nat) (o6 : Nat) (n : Nat) (vc : Nat) (ops : Nat → Int32) (lf : Nat → Int32) (rg : Nat → Int32) (E : Nat → Nat) (U : Nat → Nat) (P : Nat → Nat) (op : Int32) (x : Int32) (y : Int32) (d : Int32) (tp : Nat) (hn : n ≤ 24) : Met l y_Co_accepts ws_Co_accepts (lvR 1 0 0) (va_Pc [.ref h, .int op, .int x, .int y, .int d] (PBE (dC, dI) vwCl [(h, .inr (1, [.ref o1, .ref o2, .ref o3, .ref o4, .ref o5, .ref o6, .int (nI n), .int (nI vc)])), (o1, .inl (cI, 24, .inl ops)), (o2, .inl (cI, 24, .inl lf)), (o3, .inl (cI, 24, .inl rg)), (o4, .inl (cI, 24, .inl (fun z9 => nI (E z9)))), (o5, .inl (cI, 24, .inl (fun z9 => nI (U z9)))), (o6, .inl (cI, 24, .inl (fun z9 => nI (P z9))))] [(cI, .int)] tp)) (vp_Si (fun r => r = bI (acc ops n op x y d))) 0 0 (fun _ => False) := by
  refine Met.ofW (cc := b_Co_accepts) (maxL := 5) (ret := (some .boolean)) (by decide) rfl ?_
  intro p e s m args below meth c s₁ B hml hv
  obtain ⟨rfl, hP, hK, hE⟩ := hv
  have hx := B.exec
  have hb := B.bytes
  have hr := B.returns
  have hts := atoms_spec (ws := ws_Co_accepts) B.pre
  have hg : ∀ w ∈ TG, w.before ([.ref h, .int op, .int x, .int y, .int d] : List Value).toArray s = true := fun w h => hts w (List.mem_cons_of_mem _ h)
  have hown : s.vm.findClass R_Co = some m.cls := findClass_of_methodNamed B.named
  have hlocks := B.notSynchronized
  have hS : va_S (fun _ => False) s.heap s.heap [] := va_S.rf
  have hl := lv_entry ([.ref h, .int op, .int x, .int y, .int d]) (n := 5) (Nat.le_of_ble_eq_true rfl)
  rw [lg_entry_eq]
  generalize (lg_sl ([.ref h, .int op, .int x, .int y, .int d]) ++ List.replicate (5 - (lg_sl ([.ref h, .int op, .int x, .int y, .int d])).length) Slot.unset).toArray = ls at hl ⊢
  have hl : lv_has ls 5 [(0, .ref h), (1, .int op), (2, .int x), (3, .int y), (4, .int d)] := hl
  refine lv_iload_n hx hb d_Co_accepts_0 rfl (lv_at hl 1 rfl) ?_
  refine lv_if_lt (tgt := 24) hx hb d_Co_accepts_1 (by decide) (fun c1 => ?_) (fun c1 => ?_)
  · refine lv_iconst (v := 0) hx hb d_Co_accepts_24 (by decide) ?_
    exact W.zret (v := (0 : Int32)) (ty := .boolean) hx hb hr rfl (fun t ht hW => ⟨_, rfl, (bI0 (by unfold acc; rw [if_pos c1])), ht⟩) (fun q h => by cases h) d_Co_accepts_25
  · refine lv_iload_n hx hb d_Co_accepts_4 rfl (lv_at hl 1 rfl) ?_
    refine lv_bipush (v := 7) hx hb d_Co_accepts_5 (by decide) ?_
    refine lv_icmp_gt (tgt := 24) hx hb d_Co_accepts_7 (by decide) (fun c2 => ?_) (fun c2 => ?_)
    · refine lv_iconst (v := 0) hx hb d_Co_accepts_24 (by decide) ?_
      exact W.zret (v := (0 : Int32)) (ty := .boolean) hx hb hr rfl (fun t ht hW => ⟨_, rfl, (bI0 (by unfold acc; rw [if_neg c1, if_pos c2])), ht⟩) (fun q h => by cases h) d_Co_accepts_25
    · refine lv_iload hx hb d_Co_accepts_10 (lv_at hl 4 rfl) ?_
      refine lv_if_lt (tgt := 24) hx hb d_Co_accepts_12 (by decide) (fun c3 => ?_) (fun c3 => ?_)
      · refine lv_iconst (v := 0) hx hb d_Co_accepts_24 (by decide) ?_
        exact W.zret (v := (0 : Int32)) (ty := .boolean) hx hb hr rfl (fun t ht hW => ⟨_, rfl, (bI0 (by unfold acc; rw [if_neg c1, if_neg c2, if_pos c3])), ht⟩) (fun q h => by cases h) d_Co_accepts_25
      · refine lv_iload hx hb d_Co_accepts_15 (lv_at hl 4 rfl) ?_
        refine va_gets (v := .ref tp) hx hb hE.1 hS hown (hg _ tw_150) (fun _ h9 => h9) d_Co_accepts_17 ?_
        refine va_tlen (v := nI 4) hx hb hE.2.1 hS rfl d_Co_accepts_20 ?_
        refine lv_icmp_lt (tgt := 26) hx hb d_Co_accepts_21 (by decide) (fun c4 => ?_) (fun c4 => ?_)
        · refine lv_iload_n hx hb d_Co_accepts_26 rfl (lv_at hl 1 rfl) ?_
          refine lv_iconst (v := 1) hx hb d_Co_accepts_27 (by decide) ?_
          refine lv_icmp_ne (tgt := 42) hx hb d_Co_accepts_28 (by decide) (fun c5 => ?_) (fun c5 => ?_)
          · refine lv_iload_n hx hb d_Co_accepts_42 rfl (lv_at hl 1 rfl) ?_
            refine rdS (As := [.int op]) (rest := []) ⟨hx, hb, hml, hown, hg⟩ (c_Co_usesLeft l dC dI cI op) (va_cwS 1 hg (tg_S tw_152 tw_153 tw_2 tw_154) rfl rfl rfl (by decide +kernel) ⟨Nat.le_of_ble_eq_true rfl, Nat.le_of_ble_eq_true rfl⟩) (hK.sub [0] rfl) (hP.sub [] rfl) rfl hl.1 rfl (lv_room (Nat.le_of_ble_eq_true rfl)) d_Co_accepts_43 ⟨Nat.le_of_ble_eq_true rfl, Nat.le_of_ble_eq_true rfl⟩ ?_
            refine wb_if_eqb (tgt := 59) hx hb (uL op) rfl d_Co_accepts_46 (by decide) (fun c6 => ?_) (fun c6 => ?_)
            · refine lv_iload_n hx hb d_Co_accepts_59 rfl (lv_at hl 1 rfl) ?_
              refine rdS (As := [.int op]) (rest := []) ⟨hx, hb, hml, hown, hg⟩ (c_Co_usesRight l dC dI cI op) (va_cwS 1 hg (tg_S tw_159 tw_160 tw_2 tw_161) rfl rfl rfl (by decide +kernel) ⟨Nat.le_of_ble_eq_true rfl, Nat.le_of_ble_eq_true rfl⟩) (hK.sub [0] rfl) (hP.sub [] rfl) rfl hl.1 rfl (lv_room (Nat.le_of_ble_eq_true rfl)) d_Co_accepts_60 ⟨Nat.le_of_ble_eq_true rfl, Nat.le_of_ble_eq_true rfl⟩ ?_
              refine wb_if_eqb (tgt := 74) hx hb (uR op) rfl d_Co_accepts_63 (by decide) (fun c7 => ?_) (fun c7 => ?_)
              · refine lv_iconst (v := 1) hx hb d_Co_accepts_74 (by decide) ?_
                refine lv_goto (tgt := 79) hx hb d_Co_accepts_75 (by decide) ?_
                exact W.zret (v := (1 : Int32)) (ty := .boolean) hx hb hr rfl (fun t ht hW => ⟨_, rfl, (bI1 (by unfold acc; rw [if_neg c1, if_neg c2, if_neg c3, if_neg (fun q => q c4), if_neg (fun q => c5 q.1), if_neg (fun q => c5 q.1), if_neg (fun q => by rw [c6] at q; cases q.1), if_neg (fun q => by rw [c7] at q; cases q.1)])), ht⟩) (fun q h => by cases h) d_Co_accepts_79
              · refine lv_aload_n hx hb d_Co_accepts_66 rfl (lv_at hl 0 rfl) ?_
                refine lv_iload_n hx hb d_Co_accepts_67 rfl (lv_at hl 3 rfl) ?_
                refine rdV (ci := 1) (q0 := 0) (As := [.int y]) (rest := []) ⟨hx, hb, hml, hown, hg⟩ (c_Co_isValue l dC dI cI h o1 o2 o3 o4 o5 o6 n vc ops lf rg E U P y hn) (cwV 1 hg (tg_V tw_155 tw_156 tw_157 tw_2 tw_158) rfl rfl rfl (by decide +kernel) ⟨Nat.le_of_ble_eq_true rfl, Nat.le_of_ble_eq_true rfl⟩) (hK.sub [0] rfl) (hP.sub [0, 1, 2, 3, 4, 5, 6] rfl) rfl rfl rfl hl.1 rfl (lv_room (Nat.le_of_ble_eq_true rfl)) d_Co_accepts_68 ⟨Nat.le_of_ble_eq_true rfl, Nat.le_of_ble_eq_true rfl⟩ ?_
                refine wb_if_eqb (tgt := 78) hx hb (iv ops n y) rfl d_Co_accepts_71 (by decide) (fun c8 => ?_) (fun c8 => ?_)
                · refine lv_iconst (v := 0) hx hb d_Co_accepts_78 (by decide) ?_
                  exact W.zret (v := (0 : Int32)) (ty := .boolean) hx hb hr rfl (fun t ht hW => ⟨_, rfl, (bI0 (by unfold acc; rw [if_neg c1, if_neg c2, if_neg c3, if_neg (fun q => q c4), if_neg (fun q => c5 q.1), if_neg (fun q => c5 q.1), if_neg (fun q => by rw [c6] at q; cases q.1), if_pos ⟨c7, c8⟩])), ht⟩) (fun q h => by cases h) d_Co_accepts_79
                · refine lv_iconst (v := 1) hx hb d_Co_accepts_74 (by decide) ?_
                  refine lv_goto (tgt := 79) hx hb d_Co_accepts_75 (by decide) ?_
                  exact W.zret (v := (1 : Int32)) (ty := .boolean) hx hb hr rfl (fun t ht hW => ⟨_, rfl, (bI1 (by unfold acc; rw [if_neg c1, if_neg c2, if_neg c3, if_neg (fun q => q c4), if_neg (fun q => c5 q.1), if_neg (fun q => c5 q.1), if_neg (fun q => by rw [c6] at q; cases q.1), if_neg (fun q => by rw [c8] at q; cases q.2)])), ht⟩) (fun q h => by cases h) d_Co_accepts_79
            · refine lv_aload_n hx hb d_Co_accepts_49 rfl (lv_at hl 0 rfl) ?_
              refine lv_iload_n hx hb d_Co_accepts_50 rfl (lv_at hl 2 rfl) ?_
              refine rdV (ci := 1) (q0 := 0) (As := [.int x]) (rest := []) ⟨hx, hb, hml, hown, hg⟩ (c_Co_isValue l dC dI cI h o1 o2 o3 o4 o5 o6 n vc ops lf rg E U P x hn) (cwV 1 hg (tg_V tw_155 tw_156 tw_157 tw_2 tw_158) rfl rfl rfl (by decide +kernel) ⟨Nat.le_of_ble_eq_true rfl, Nat.le_of_ble_eq_true rfl⟩) (hK.sub [0] rfl) (hP.sub [0, 1, 2, 3, 4, 5, 6] rfl) rfl rfl rfl hl.1 rfl (lv_room (Nat.le_of_ble_eq_true rfl)) d_Co_accepts_51 ⟨Nat.le_of_ble_eq_true rfl, Nat.le_of_ble_eq_true rfl⟩ ?_
              refine wb_if_neb (tgt := 59) hx hb (iv ops n x) rfl d_Co_accepts_54 (by decide) (fun c9 => ?_) (fun c9 => ?_)
              · refine lv_iload_n hx hb d_Co_accepts_59 rfl (lv_at hl 1 rfl) ?_
                refine rdS (As := [.int op]) (rest := []) ⟨hx, hb, hml, hown, hg⟩ (c_Co_usesRight l dC dI cI op) (va_cwS 1 hg (tg_S tw_159 tw_160 tw_2 tw_161) rfl rfl rfl (by decide +kernel) ⟨Nat.le_of_ble_eq_true rfl, Nat.le_of_ble_eq_true rfl⟩) (hK.sub [0] rfl) (hP.sub [] rfl) rfl hl.1 rfl (lv_room (Nat.le_of_ble_eq_true rfl)) d_Co_accepts_60 ⟨Nat.le_of_ble_eq_true rfl, Nat.le_of_ble_eq_true rfl⟩ ?_
                refine wb_if_eqb (tgt := 74) hx hb (uR op) rfl d_Co_accepts_63 (by decide) (fun c10 => ?_) (fun c10 => ?_)
                · refine lv_iconst (v := 1) hx hb d_Co_accepts_74 (by decide) ?_
                  refine lv_goto (tgt := 79) hx hb d_Co_accepts_75 (by decide) ?_
                  exact W.zret (v := (1 : Int32)) (ty := .boolean) hx hb hr rfl (fun t ht hW => ⟨_, rfl, (bI1 (by unfold acc; rw [if_neg c1, if_neg c2, if_neg c3, if_neg (fun q => q c4), if_neg (fun q => c5 q.1), if_neg (fun q => c5 q.1), if_neg (fun q => by rw [c9] at q; cases q.2), if_neg (fun q => by rw [c10] at q; cases q.1)])), ht⟩) (fun q h => by cases h) d_Co_accepts_79
                · refine lv_aload_n hx hb d_Co_accepts_66 rfl (lv_at hl 0 rfl) ?_
                  refine lv_iload_n hx hb d_Co_accepts_67 rfl (lv_at hl 3 rfl) ?_
                  refine rdV (ci := 1) (q0 := 0) (As := [.int y]) (rest := []) ⟨hx, hb, hml, hown, hg⟩ (c_Co_isValue l dC dI cI h o1 o2 o3 o4 o5 o6 n vc ops lf rg E U P y hn) (cwV 1 hg (tg_V tw_155 tw_156 tw_157 tw_2 tw_158) rfl rfl rfl (by decide +kernel) ⟨Nat.le_of_ble_eq_true rfl, Nat.le_of_ble_eq_true rfl⟩) (hK.sub [0] rfl) (hP.sub [0, 1, 2, 3, 4, 5, 6] rfl) rfl rfl rfl hl.1 rfl (lv_room (Nat.le_of_ble_eq_true rfl)) d_Co_accepts_68 ⟨Nat.le_of_ble_eq_true rfl, Nat.le_of_ble_eq_true rfl⟩ ?_
                  refine wb_if_eqb (tgt := 78) hx hb (iv ops n y) rfl d_Co_accepts_71 (by decide) (fun c11 => ?_) (fun c11 => ?_)
                  · refine lv_iconst (v := 0) hx hb d_Co_accepts_78 (by decide) ?_
                    exact W.zret (v := (0 : Int32)) (ty := .boolean) hx hb hr rfl (fun t ht hW => ⟨_, rfl, (bI0 (by unfold acc; rw [if_neg c1, if_neg c2, if_neg c3, if_neg (fun q => q c4), if_neg (fun q => c5 q.1), if_neg (fun q => c5 q.1), if_neg (fun q => by rw [c9] at q; cases q.2), if_pos ⟨c10, c11⟩])), ht⟩) (fun q h => by cases h) d_Co_accepts_79
                  · refine lv_iconst (v := 1) hx hb d_Co_accepts_74 (by decide) ?_
                    refine lv_goto (tgt := 79) hx hb d_Co_accepts_75 (by decide) ?_
                    exact W.zret (v := (1 : Int32)) (ty := .boolean) hx hb hr rfl (fun t ht hW => ⟨_, rfl, (bI1 (by unfold acc; rw [if_neg c1, if_neg c2, if_neg c3, if_neg (fun q => q c4), if_neg (fun q => c5 q.1), if_neg (fun q => c5 q.1), if_neg (fun q => by rw [c9] at q; cases q.2), if_neg (fun q => by rw [c11] at q; cases q.2)])), ht⟩) (fun q h => by cases h) d_Co_accepts_79
              · refine lv_iconst (v := 0) hx hb d_Co_accepts_57 (by decide) ?_
                exact W.zret (v := (0 : Int32)) (ty := .boolean) hx hb hr rfl (fun t ht hW => ⟨_, rfl, (bI0 (by unfold acc; rw [if_neg c1, if_neg c2, if_neg c3, if_neg (fun q => q c4), if_neg (fun q => c5 q.1), if_neg (fun q => c5 q.1), if_pos ⟨c6, c9⟩])), ht⟩) (fun q h => by cases h) d_Co_accepts_58
          · refine lv_iload_n hx hb d_Co_accepts_31 rfl (lv_at hl 2 rfl) ?_
            refine lv_if_lt (tgt := 40) hx hb d_Co_accepts_32 (by decide) (fun c12 => ?_) (fun c12 => ?_)
            · refine lv_iconst (v := 0) hx hb d_Co_accepts_40 (by decide) ?_
              exact W.zret (v := (0 : Int32)) (ty := .boolean) hx hb hr rfl (fun t ht hW => ⟨_, rfl, (bI0 (by unfold acc; rw [if_neg c1, if_neg c2, if_neg c3, if_neg (fun q => q c4), if_pos ⟨c5, c12⟩])), ht⟩) (fun q h => by cases h) d_Co_accepts_41
            · refine lv_iload_n hx hb d_Co_accepts_35 rfl (lv_at hl 2 rfl) ?_
              refine lv_iconst (v := 4) hx hb d_Co_accepts_36 (by decide) ?_
              refine lv_icmp_lt (tgt := 42) hx hb d_Co_accepts_37 (by decide) (fun c13 => ?_) (fun c13 => ?_)
              · refine lv_iload_n hx hb d_Co_accepts_42 rfl (lv_at hl 1 rfl) ?_
                refine rdS (As := [.int op]) (rest := []) ⟨hx, hb, hml, hown, hg⟩ (c_Co_usesLeft l dC dI cI op) (va_cwS 1 hg (tg_S tw_152 tw_153 tw_2 tw_154) rfl rfl rfl (by decide +kernel) ⟨Nat.le_of_ble_eq_true rfl, Nat.le_of_ble_eq_true rfl⟩) (hK.sub [0] rfl) (hP.sub [] rfl) rfl hl.1 rfl (lv_room (Nat.le_of_ble_eq_true rfl)) d_Co_accepts_43 ⟨Nat.le_of_ble_eq_true rfl, Nat.le_of_ble_eq_true rfl⟩ ?_
                refine wb_if_eqb (tgt := 59) hx hb (uL op) rfl d_Co_accepts_46 (by decide) (fun c14 => ?_) (fun c14 => ?_)
                · refine lv_iload_n hx hb d_Co_accepts_59 rfl (lv_at hl 1 rfl) ?_
                  refine rdS (As := [.int op]) (rest := []) ⟨hx, hb, hml, hown, hg⟩ (c_Co_usesRight l dC dI cI op) (va_cwS 1 hg (tg_S tw_159 tw_160 tw_2 tw_161) rfl rfl rfl (by decide +kernel) ⟨Nat.le_of_ble_eq_true rfl, Nat.le_of_ble_eq_true rfl⟩) (hK.sub [0] rfl) (hP.sub [] rfl) rfl hl.1 rfl (lv_room (Nat.le_of_ble_eq_true rfl)) d_Co_accepts_60 ⟨Nat.le_of_ble_eq_true rfl, Nat.le_of_ble_eq_true rfl⟩ ?_
                  refine wb_if_eqb (tgt := 74) hx hb (uR op) rfl d_Co_accepts_63 (by decide) (fun c15 => ?_) (fun c15 => ?_)
                  · refine lv_iconst (v := 1) hx hb d_Co_accepts_74 (by decide) ?_
                    refine lv_goto (tgt := 79) hx hb d_Co_accepts_75 (by decide) ?_
                    exact W.zret (v := (1 : Int32)) (ty := .boolean) hx hb hr rfl (fun t ht hW => ⟨_, rfl, (bI1 (by unfold acc; rw [if_neg c1, if_neg c2, if_neg c3, if_neg (fun q => q c4), if_neg (fun q => c12 q.2), if_neg (fun q => q.2 c13), if_neg (fun q => by rw [c14] at q; cases q.1), if_neg (fun q => by rw [c15] at q; cases q.1)])), ht⟩) (fun q h => by cases h) d_Co_accepts_79
                  · refine lv_aload_n hx hb d_Co_accepts_66 rfl (lv_at hl 0 rfl) ?_
                    refine lv_iload_n hx hb d_Co_accepts_67 rfl (lv_at hl 3 rfl) ?_
                    refine rdV (ci := 1) (q0 := 0) (As := [.int y]) (rest := []) ⟨hx, hb, hml, hown, hg⟩ (c_Co_isValue l dC dI cI h o1 o2 o3 o4 o5 o6 n vc ops lf rg E U P y hn) (cwV 1 hg (tg_V tw_155 tw_156 tw_157 tw_2 tw_158) rfl rfl rfl (by decide +kernel) ⟨Nat.le_of_ble_eq_true rfl, Nat.le_of_ble_eq_true rfl⟩) (hK.sub [0] rfl) (hP.sub [0, 1, 2, 3, 4, 5, 6] rfl) rfl rfl rfl hl.1 rfl (lv_room (Nat.le_of_ble_eq_true rfl)) d_Co_accepts_68 ⟨Nat.le_of_ble_eq_true rfl, Nat.le_of_ble_eq_true rfl⟩ ?_
                    refine wb_if_eqb (tgt := 78) hx hb (iv ops n y) rfl d_Co_accepts_71 (by decide) (fun c16 => ?_) (fun c16 => ?_)
                    · refine lv_iconst (v := 0) hx hb d_Co_accepts_78 (by decide) ?_
                      exact W.zret (v := (0 : Int32)) (ty := .boolean) hx hb hr rfl (fun t ht hW => ⟨_, rfl, (bI0 (by unfold acc; rw [if_neg c1, if_neg c2, if_neg c3, if_neg (fun q => q c4), if_neg (fun q => c12 q.2), if_neg (fun q => q.2 c13), if_neg (fun q => by rw [c14] at q; cases q.1), if_pos ⟨c15, c16⟩])), ht⟩) (fun q h => by cases h) d_Co_accepts_79
                    · refine lv_iconst (v := 1) hx hb d_Co_accepts_74 (by decide) ?_
                      refine lv_goto (tgt := 79) hx hb d_Co_accepts_75 (by decide) ?_
                      exact W.zret (v := (1 : Int32)) (ty := .boolean) hx hb hr rfl (fun t ht hW => ⟨_, rfl, (bI1 (by unfold acc; rw [if_neg c1, if_neg c2, if_neg c3, if_neg (fun q => q c4), if_neg (fun q => c12 q.2), if_neg (fun q => q.2 c13), if_neg (fun q => by rw [c14] at q; cases q.1), if_neg (fun q => by rw [c16] at q; cases q.2)])), ht⟩) (fun q h => by cases h) d_Co_accepts_79
                · refine lv_aload_n hx hb d_Co_accepts_49 rfl (lv_at hl 0 rfl) ?_
                  refine lv_iload_n hx hb d_Co_accepts_50 rfl (lv_at hl 2 rfl) ?_
                  refine rdV (ci := 1) (q0 := 0) (As := [.int x]) (rest := []) ⟨hx, hb, hml, hown, hg⟩ (c_Co_isValue l dC dI cI h o1 o2 o3 o4 o5 o6 n vc ops lf rg E U P x hn) (cwV 1 hg (tg_V tw_155 tw_156 tw_157 tw_2 tw_158) rfl rfl rfl (by decide +kernel) ⟨Nat.le_of_ble_eq_true rfl, Nat.le_of_ble_eq_true rfl⟩) (hK.sub [0] rfl) (hP.sub [0, 1, 2, 3, 4, 5, 6] rfl) rfl rfl rfl hl.1 rfl (lv_room (Nat.le_of_ble_eq_true rfl)) d_Co_accepts_51 ⟨Nat.le_of_ble_eq_true rfl, Nat.le_of_ble_eq_true rfl⟩ ?_
                  refine wb_if_neb (tgt := 59) hx hb (iv ops n x) rfl d_Co_accepts_54 (by decide) (fun c17 => ?_) (fun c17 => ?_)
                  · refine lv_iload_n hx hb d_Co_accepts_59 rfl (lv_at hl 1 rfl) ?_
                    refine rdS (As := [.int op]) (rest := []) ⟨hx, hb, hml, hown, hg⟩ (c_Co_usesRight l dC dI cI op) (va_cwS 1 hg (tg_S tw_159 tw_160 tw_2 tw_161) rfl rfl rfl (by decide +kernel) ⟨Nat.le_of_ble_eq_true rfl, Nat.le_of_ble_eq_true rfl⟩) (hK.sub [0] rfl) (hP.sub [] rfl) rfl hl.1 rfl (lv_room (Nat.le_of_ble_eq_true rfl)) d_Co_accepts_60 ⟨Nat.le_of_ble_eq_true rfl, Nat.le_of_ble_eq_true rfl⟩ ?_
                    refine wb_if_eqb (tgt := 74) hx hb (uR op) rfl d_Co_accepts_63 (by decide) (fun c18 => ?_) (fun c18 => ?_)
                    · refine lv_iconst (v := 1) hx hb d_Co_accepts_74 (by decide) ?_
                      refine lv_goto (tgt := 79) hx hb d_Co_accepts_75 (by decide) ?_
                      exact W.zret (v := (1 : Int32)) (ty := .boolean) hx hb hr rfl (fun t ht hW => ⟨_, rfl, (bI1 (by unfold acc; rw [if_neg c1, if_neg c2, if_neg c3, if_neg (fun q => q c4), if_neg (fun q => c12 q.2), if_neg (fun q => q.2 c13), if_neg (fun q => by rw [c17] at q; cases q.2), if_neg (fun q => by rw [c18] at q; cases q.1)])), ht⟩) (fun q h => by cases h) d_Co_accepts_79
                    · refine lv_aload_n hx hb d_Co_accepts_66 rfl (lv_at hl 0 rfl) ?_
                      refine lv_iload_n hx hb d_Co_accepts_67 rfl (lv_at hl 3 rfl) ?_
                      refine rdV (ci := 1) (q0 := 0) (As := [.int y]) (rest := []) ⟨hx, hb, hml, hown, hg⟩ (c_Co_isValue l dC dI cI h o1 o2 o3 o4 o5 o6 n vc ops lf rg E U P y hn) (cwV 1 hg (tg_V tw_155 tw_156 tw_157 tw_2 tw_158) rfl rfl rfl (by decide +kernel) ⟨Nat.le_of_ble_eq_true rfl, Nat.le_of_ble_eq_true rfl⟩) (hK.sub [0] rfl) (hP.sub [0, 1, 2, 3, 4, 5, 6] rfl) rfl rfl rfl hl.1 rfl (lv_room (Nat.le_of_ble_eq_true rfl)) d_Co_accepts_68 ⟨Nat.le_of_ble_eq_true rfl, Nat.le_of_ble_eq_true rfl⟩ ?_
                      refine wb_if_eqb (tgt := 78) hx hb (iv ops n y) rfl d_Co_accepts_71 (by decide) (fun c19 => ?_) (fun c19 => ?_)
                      · refine lv_iconst (v := 0) hx hb d_Co_accepts_78 (by decide) ?_
                        exact W.zret (v := (0 : Int32)) (ty := .boolean) hx hb hr rfl (fun t ht hW => ⟨_, rfl, (bI0 (by unfold acc; rw [if_neg c1, if_neg c2, if_neg c3, if_neg (fun q => q c4), if_neg (fun q => c12 q.2), if_neg (fun q => q.2 c13), if_neg (fun q => by rw [c17] at q; cases q.2), if_pos ⟨c18, c19⟩])), ht⟩) (fun q h => by cases h) d_Co_accepts_79
                      · refine lv_iconst (v := 1) hx hb d_Co_accepts_74 (by decide) ?_
                        refine lv_goto (tgt := 79) hx hb d_Co_accepts_75 (by decide) ?_
                        exact W.zret (v := (1 : Int32)) (ty := .boolean) hx hb hr rfl (fun t ht hW => ⟨_, rfl, (bI1 (by unfold acc; rw [if_neg c1, if_neg c2, if_neg c3, if_neg (fun q => q c4), if_neg (fun q => c12 q.2), if_neg (fun q => q.2 c13), if_neg (fun q => by rw [c17] at q; cases q.2), if_neg (fun q => by rw [c19] at q; cases q.2)])), ht⟩) (fun q h => by cases h) d_Co_accepts_79
                  · refine lv_iconst (v := 0) hx hb d_Co_accepts_57 (by decide) ?_
                    exact W.zret (v := (0 : Int32)) (ty := .boolean) hx hb hr rfl (fun t ht hW => ⟨_, rfl, (bI0 (by unfold acc; rw [if_neg c1, if_neg c2, if_neg c3, if_neg (fun q => q c4), if_neg (fun q => c12 q.2), if_neg (fun q => q.2 c13), if_pos ⟨c14, c17⟩])), ht⟩) (fun q h => by cases h) d_Co_accepts_58
              · refine lv_iconst (v := 0) hx hb d_Co_accepts_40 (by decide) ?_
                exact W.zret (v := (0 : Int32)) (ty := .boolean) hx hb hr rfl (fun t ht hW => ⟨_, rfl, (bI0 (by unfold acc; rw [if_neg c1, if_neg c2, if_neg c3, if_neg (fun q => q c4), if_neg (fun q => c12 q.2), if_pos ⟨c5, c13⟩])), ht⟩) (fun q h => by cases h) d_Co_accepts_41
        · refine lv_iconst (v := 0) hx hb d_Co_accepts_24 (by decide) ?_
          exact W.zret (v := (0 : Int32)) (ty := .boolean) hx hb hr rfl (fun t ht hW => ⟨_, rfl, (bI0 (by unfold acc; rw [if_neg c1, if_neg c2, if_neg c3, if_pos c4])), ht⟩) (fun q h => by cases h) d_Co_accepts_25
