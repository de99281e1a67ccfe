set_option maxHeartbeats 4000000 in
set_option maxRecDepth 100000 in
theorem law_loop {p : Program} {l : Launch} {e : Env} {s : State} {m : MethodId} {below : List Frame} {meth : Method} {c : Code} {b L tp : Nat} {xs : Nat → Int32} {dC : Nat → ClassId} {dI : Nat → Nat → Nat} {cI cL cD : ClassId} {A : Nat → Prop} (hL : L ≤ 2560) (C0 : lw_At p s m meth c b L xs) (htr : ∀ e : Env, l.admits e → e.platform.stackTraces = false) (hA : ∀ q : Nat, s.heap.size ≤ q → A q) (hbA : ¬ A b) (hK : va_K (dC, dI) vwCl [(cI, .int), (cL, .long), (cD, .double)] s) (hE : EnvA tp A s s.heap) (hN : NcA s) (hAf : ∀ q : Nat, A q → s.heap.size ≤ q) : ∀ (z9 : AD × CS × MS9 × (Nat → Int64) × (Nat → UInt64) × Nat) (H : Heap) (locs : List Loc) (ls : Array Slot), Rel z9.2.1 z9.2.2.1 ∧ LT z9.1 z9.2.1 ∧ va_P (dC, dI) vwCl (wAll cI cL cD z9.1 z9.2.1 z9.2.2.1 z9.2.2.2.1 z9.2.2.2.2.1) H ∧ va_D A (wAll cI cL cD z9.1 z9.2.1 z9.2.2.1 z9.2.2.2.1 z9.2.2.2.2.1) ∧ va_S A s.heap H locs ∧ lv_has ls 9 [(5, .int (nI (5 * z9.2.2.2.2.2))), (0, .ref b), (1, .ref z9.1.xx), (2, .ref z9.1.mo), (3, .ref z9.1.ou), (4, .ref z9.1.od)] ∧ 5 * z9.2.2.2.2.2 ≤ L → W p l e room_1 s m #[Value.ref b] below meth c H locs (34 + 2 * z9.2.2.2.2.2) (605 + 12 * z9.2.2.2.2.2) (lw_Z below #[Value.ref b] s) (F0 m 28 ls []) := by
  obtain ⟨hx, hb, hr, hml, hown, hts, hX, hbl, hlocks, hgv⟩ := id C0
  have hown : s.vm.findClass R_La = some m.cls := hown
  have hg : ∀ w ∈ TG, w.before #[Value.ref b] s = true := fun w h => hts w (tg_in h)
  refine wb_loopC (σ := AD × CS × MS9 × (Nat → Int64) × (Nat → UInt64) × Nat) 28 (fun z9 H locs ls => Rel z9.2.1 z9.2.2.1 ∧ LT z9.1 z9.2.1 ∧ va_P (dC, dI) vwCl (wAll cI cL cD z9.1 z9.2.1 z9.2.2.1 z9.2.2.2.1 z9.2.2.2.2.1) H ∧ va_D A (wAll cI cL cD z9.1 z9.2.1 z9.2.2.1 z9.2.2.2.1 z9.2.2.2.2.1) ∧ va_S A s.heap H locs ∧ lv_has ls 9 [(5, .int (nI (5 * z9.2.2.2.2.2))), (0, .ref b), (1, .ref z9.1.xx), (2, .ref z9.1.mo), (3, .ref z9.1.ou), (4, .ref z9.1.od)] ∧ 5 * z9.2.2.2.2.2 ≤ L) (fun z9 => L + 1 - 5 * z9.2.2.2.2.2) (fun z9 => 34 + 2 * z9.2.2.2.2.2) (fun z9 => 605 + 12 * z9.2.2.2.2.2) ?_
  intro z9 H locs ls hI9 ih9
  obtain ⟨a, x, y, fo, fd, t⟩ := z9
  obtain ⟨R, hLt, hP, hD, hS, hl, ht5⟩ := hI9
  have R : Rel x y := R
  have hLt : LT a x := hLt
  have hP : va_P (dC, dI) vwCl (wAll cI cL cD a x y fo fd) H := hP
  have hD : va_D A (wAll cI cL cD a x y fo fd) := hD
  have hl : lv_has ls 9 [(5, .int (nI (5 * t))), (0, .ref b), (1, .ref a.xx), (2, .ref a.mo), (3, .ref a.ou), (4, .ref a.od)] := hl
  have ht5 : 5 * t ≤ L := ht5
  show W p l e room_1 s m #[Value.ref b] below meth c H locs (34 + 2 * t) (605 + 12 * t) (lw_Z below #[Value.ref b] s) (F0 m 28 ls [])
  refine lv_iload hx hb d_La_law_28 (lv_at hl 0 rfl) ?_
  refine lv_aload_n hx hb d_La_law_30 rfl (lv_at hl 1 rfl) ?_
  refine va_slen hx hb hX hbl hbA hS d_La_law_31 ?_
  refine lv_iconst (v := 5) hx hb d_La_law_32 (by decide) ?_
  refine lv_isub hx hb d_La_law_33 ?_
  refine lv_icmp_gt (tgt := 936) hx hb d_La_law_34 (by decide) (fun c1 => ?_) (fun c1 => ?_)
  · refine lv_iconst (v := 1) hx hb d_La_law_936 (by decide) ?_
    refine va_forget (fun q hq => hAf _ (hS.2.2 q hq)) ?_
    refine W.widen (k := 1068) (n := 8857) (by show 34 + 2 * t ≤ 1068; omega) (by show 605 + 12 * t ≤ 8857; omega) ?_
    exact lw_ret hx hb hr hlocks d_La_law_937
  · have ht : 5 * t + 5 ≤ L := law_in hL c1 (by omega)
    have ih : (∀ (a : AD) (x : CS) (y : MS9) (fo : Nat → Int64) (fd : Nat → UInt64) (H : Heap) (locs : List Loc) (ls : Array Slot), Rel x y → LT a x → va_P (dC, dI) vwCl (wAll cI cL cD a x y fo fd) H → va_D A (wAll cI cL cD a x y fo fd) → va_S A s.heap H locs → lv_has ls 9 [(5, .int (nI (5 * (t + 1)))), (0, .ref b), (1, .ref a.xx), (2, .ref a.mo), (3, .ref a.ou), (4, .ref a.od)] → W p l e room_1 s m #[Value.ref b] below meth c H locs (34 + 2 * (t + 1)) (605 + 12 * (t + 1)) (lw_Z below #[Value.ref b] s) (F0 m 28 ls [])) := fun a x y fo fd H locs ls R hLt hP hD hS hl => ih9 (a, x, y, fo, fd, t + 1) H locs ls ⟨R, hLt, hP, hD, hS, hl, by show 5 * (t + 1) ≤ L; omega⟩ (by show L + 1 - 5 * (t + 1) < L + 1 - 5 * t; omega)
    refine lv_aload_n hx hb d_La_law_37 rfl (lv_at hl 1 rfl) ?_
    refine lv_iload hx hb d_La_law_38 (lv_at hl 0 rfl) ?_
    refine va_sld hx hb hX hbl hbA hS (vp_in_nI (n := 5 * t) (by omega) (by omega)) d_La_law_40 ?_
    refine lv_bipush (v := 15) hx hb d_La_law_41 (by decide) ?_
    refine lv_iand hx hb d_La_law_43 ?_
    rcases Decidable.em ((xs (nI (5 * t)).toNatClampNeg) &&& ((15 : Int32)) = 0) with k2 | k2
    · refine lv_tableIn (tgt := 108) hx hb d_La_law_44 (by rw [k2]; decide) (by rw [k2]; decide) (by rw [k2]; rfl) (by decide) ?_
      exact lo_add hL C0 htr hA hbA hK hE hN t ht a x y fo fd H locs ls R hLt hP hD hS hl ih
    · rcases Decidable.em ((xs (nI (5 * t)).toNatClampNeg) &&& ((15 : Int32)) = 1) with k3 | k3
      · refine lv_tableIn (tgt := 200) hx hb d_La_law_44 (by rw [k3]; decide) (by rw [k3]; decide) (by rw [k3]; rfl) (by decide) ?_
        exact lo_clear hL C0 htr hA hbA hK hE hN t ht a x y fo fd H locs ls R hLt hP hD hS hl ih
      · rcases Decidable.em ((xs (nI (5 * t)).toNatClampNeg) &&& ((15 : Int32)) = 2) with k4 | k4
        · refine lv_tableIn (tgt := 213) hx hb d_La_law_44 (by rw [k4]; decide) (by rw [k4]; decide) (by rw [k4]; rfl) (by decide) ?_
          exact lo_allocate hL C0 htr hA hbA hK hE hN t ht a x y fo fd H locs ls R hLt hP hD hS hl ih
        · rcases Decidable.em ((xs (nI (5 * t)).toNatClampNeg) &&& ((15 : Int32)) = 3) with k5 | k5
          · refine lv_tableIn (tgt := 269) hx hb d_La_law_44 (by rw [k5]; decide) (by rw [k5]; decide) (by rw [k5]; rfl) (by decide) ?_
            exact lo_place hL C0 htr hA hbA hK hE hN t ht a x y fo fd H locs ls R hLt hP hD hS hl ih
          · rcases Decidable.em ((xs (nI (5 * t)).toNatClampNeg) &&& ((15 : Int32)) = 4) with k6 | k6
            · refine lv_tableIn (tgt := 325) hx hb d_La_law_44 (by rw [k6]; decide) (by rw [k6]; decide) (by rw [k6]; rfl) (by decide) ?_
              exact lo_weight hL C0 htr hA hbA hK hE hN t ht a x y fo fd H locs ls R hLt hP hD hS hl ih
            · rcases Decidable.em ((xs (nI (5 * t)).toNatClampNeg) &&& ((15 : Int32)) = 5) with k7 | k7
              · refine lv_tableIn (tgt := 402) hx hb d_La_law_44 (by rw [k7]; decide) (by rw [k7]; decide) (by rw [k7]; rfl) (by decide) ?_
                exact lo_told hL C0 htr hA hbA hK hE hN t ht a x y fo fd H locs ls R hLt hP hD hS hl ih
              · rcases Decidable.em ((xs (nI (5 * t)).toNatClampNeg) &&& ((15 : Int32)) = 6) with k8 | k8
                · refine lv_tableIn (tgt := 470) hx hb d_La_law_44 (by rw [k8]; decide) (by rw [k8]; decide) (by rw [k8]; rfl) (by decide) ?_
                  exact lo_cost hL C0 htr hA hbA hK hE hN t ht a x y fo fd H locs ls R hLt hP hD hS hl ih
                · rcases Decidable.em ((xs (nI (5 * t)).toNatClampNeg) &&& ((15 : Int32)) = 7) with k9 | k9
                  · refine lv_tableIn (tgt := 535) hx hb d_La_law_44 (by rw [k9]; decide) (by rw [k9]; decide) (by rw [k9]; rfl) (by decide) ?_
                    exact lo_run hL C0 htr hA hbA hK hE hN t ht a x y fo fd H locs ls R hLt hP hD hS hl ih
                  · rcases Decidable.em ((xs (nI (5 * t)).toNatClampNeg) &&& ((15 : Int32)) = 8) with k10 | k10
                    · refine lv_tableIn (tgt := 627) hx hb d_La_law_44 (by rw [k10]; decide) (by rw [k10]; decide) (by rw [k10]; rfl) (by decide) ?_
                      exact lo_go hL C0 htr hA hbA hK hE hN t ht a x y fo fd H locs ls R hLt hP hD hS hl ih
                    · rcases Decidable.em ((xs (nI (5 * t)).toNatClampNeg) &&& ((15 : Int32)) = 9) with k11 | k11
                      · refine lv_tableIn (tgt := 719) hx hb d_La_law_44 (by rw [k11]; decide) (by rw [k11]; decide) (by rw [k11]; rfl) (by decide) ?_
                        exact lo_same hL C0 htr hA hbA hK hE hN t ht a x y fo fd H locs ls R hLt hP hD hS hl ih
                      · rcases Decidable.em ((xs (nI (5 * t)).toNatClampNeg) &&& ((15 : Int32)) = 10) with k12 | k12
                        · refine lv_tableIn (tgt := 818) hx hb d_La_law_44 (by rw [k12]; decide) (by rw [k12]; decide) (by rw [k12]; rfl) (by decide) ?_
                          exact lo_said hL C0 htr hA hbA hK hE hN t ht a x y fo fd H locs ls R hLt hP hD hS hl ih
                        · rcases Decidable.em ((xs (nI (5 * t)).toNatClampNeg) &&& ((15 : Int32)) = 11) with k13 | k13
                          · refine lv_tableIn (tgt := 874) hx hb d_La_law_44 (by rw [k13]; decide) (by rw [k13]; decide) (by rw [k13]; rfl) (by decide) ?_
                            exact lo_count hL C0 htr hA hbA hK hE hN t ht a x y fo fd H locs ls R hLt hP hD hS hl ih
                          · refine lv_tableOut (tgt := 930) hx hb d_La_law_44 (by have a0 := lv_neT k2 (a := 0) (by decide); have a1 := lv_neT k3 (a := 1) (by decide); have a2 := lv_neT k4 (a := 2) (by decide); have a3 := lv_neT k5 (a := 3) (by decide); have a4 := lv_neT k6 (a := 4) (by decide); have a5 := lv_neT k7 (a := 5) (by decide); have a6 := lv_neT k8 (a := 6) (by decide); have a7 := lv_neT k9 (a := 7) (by decide); have a8 := lv_neT k10 (a := 8) (by decide); have a9 := lv_neT k11 (a := 9) (by decide); have a10 := lv_neT k12 (a := 10) (by decide); have a11 := lv_neT k13 (a := 11) (by decide); omega) (by decide) ?_
                            refine lv_iinc (v := (nI (5 * t + 5))) (lv' := [(5, .int (nI (5 * t + 5))), (0, .ref b), (1, .ref a.xx), (2, .ref a.mo), (3, .ref a.ou), (4, .ref a.od)]) hx hb d_La_law_930 hl (k := 0) rfl (nI_add _ 5) (by decide) rfl (fun ls hl => ?_)
                            refine lv_goto (tgt := 28) hx hb d_La_law_933 (by decide) ?_
                            refine W.widen (k := 34 + 2 * (t + 1)) (n := 605 + 12 * (t + 1)) (by show 34 + 2 * t ≤ 34 + 2 * (t + 1); omega) (by show 605 + 12 * t ≤ 605 + 12 * (t + 1); omega) ?_
                            exact ih a x y fo fd _ _ ls R hLt hP hD hS (lv_sub hl [0, 1, 2, 3, 4, 5] rfl)
