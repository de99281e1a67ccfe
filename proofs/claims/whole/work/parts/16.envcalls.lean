/-! calls of methods that also need what stays as it was -/
def PBE (D : va_G) (cl : List vw_C) (ws : va_W) (tys : List (ClassId × FieldType)) (tp : Nat) : State → Prop := fun U => va_P D cl ws U.heap ∧ va_K D cl tys U ∧ EnvA tp (fun _ => False) U U.heap
def PME (D : va_G) (cl : List vw_C) (ws : va_W) (tys : List (ClassId × FieldType)) (sz tp : Nat) : State → Prop := fun U => U.heap.size = sz ∧ va_P D cl ws U.heap ∧ va_K D cl tys U ∧ va_D (fun _ => True) ws ∧ EnvA tp (va_A ws sz) U U.heap
theorem PBE_blind {av : List Value} {D : va_G} {cl : List vw_C} {ws : va_W} {tys : List (ClassId × FieldType)} {tp : Nat} : FrameBlind (va_Pc av (PBE D cl ws tys tp)) :=
  fun a U g mk q => ⟨q.1, q.2.1, va_K.moved (u := U) (U := U.calling g mk a) (Vm.Alike.refl U.vm) q.2.2.1, EnvA.blind g mk a q.2.2.2⟩
theorem PME_blind {av : List Value} {D : va_G} {cl : List vw_C} {ws : va_W} {tys : List (ClassId × FieldType)} {sz tp : Nat} : FrameBlind (va_Pc av (PME D cl ws tys sz tp)) :=
  fun a U g mk q => ⟨q.1, q.2.1, q.2.2.1, va_K.moved (u := U) (U := U.calling g mk a) (Vm.Alike.refl U.vm) q.2.2.2.1, q.2.2.2.2.1, EnvA.blind g mk a q.2.2.2.2.2⟩
section WCE
variable {p : Program} {l : Launch} {e : Env} {R : Room} {s : State} {m : MethodId} {args : Array Value} {below : List Frame} {meth : Method} {c : Code} {H : Heap} {locs : List Loc} {cells slots : Nat} {Q : State → Prop}
variable {y : MethodName} {bytes cc : ByteArray} {maxL nL mc ms n index : Nat} {ret : Option FieldType} {ws : List Cond} {rm : Room} {Ts : List Cond} {own C : String} {b : Addr} {As rest st0 : List Value} {pc : Nat} {ls : Array Slot}
variable {D : va_G} {cl : List vw_C} {wc : va_W} {tc : List (ClassId × FieldType)} {tp : Nat} {A : Nat → Prop}
theorem PBE_V {ci q0 : Nat} {fs : List Value} {T : u_T} {N : Nat} (hE : EnvA tp A s s.heap) (hS : va_S A s.heap H locs) (hK : va_K D cl tc s) (hP : va_P D cl wc H) (hc : cl[ci]? = some (C, T, N)) (he : wc[q0]? = some (b, .inr (ci, fs))) : PreV s H C b (va_Pc (.ref b :: As) (PBE D cl wc tc tp)) As :=
  ⟨PBE_blind, va_recv hK hP hc he, fun U hU hW => ⟨rfl, by rw [hU]; exact hP, va_K.moved hW.alike hK, hE.go hS.2.1 (fun _ h => h.elim) hU hW⟩⟩
theorem PME_V {ci q0 : Nat} {fs : List Value} {T : u_T} {N : Nat} (hE : EnvA tp A s s.heap) (hS : va_S A s.heap H locs) (hF : ∀ q, va_A wc H.size q → A q) (hK : va_K D cl tc s) (hP : va_P D cl wc H) (hD : va_D A wc) (hc : cl[ci]? = some (C, T, N)) (he : wc[q0]? = some (b, .inr (ci, fs))) : PreV s H C b (va_Pc (.ref b :: As) (PME D cl wc tc H.size tp)) As :=
  ⟨PME_blind, va_recv hK hP hc he, fun U hU hW => ⟨rfl, by rw [hU], by rw [hU]; exact hP, va_K.moved hW.alike hK, hD.weaken (fun _ _ _ _ => trivial), hE.go hS.2.1 hF hU hW⟩⟩
theorem rdVE {x : Int32} {ci q0 : Nat} {fs : List Value} {T : u_T} {N : Nat} (S : CallFix p m c cc nL s args Ts own) (hM : Met l y ws rm (va_Pc (.ref b :: As) (PBE D cl wc tc tp)) (vp_Si (fun r => r = x)) 0 0 (fun _ => False)) (cw : CallW R s args own C index y bytes maxL ret ws rm 0 0 n)
    (hE : EnvA tp A s s.heap) (hS : va_S A s.heap H locs) (hK : va_K D cl tc s) (hP : va_P D cl wc H) (hc : cl[ci]? = some (C, T, N)) (he : wc[q0]? = some (b, .inr (ci, fs))) (hn : As.length = n) (hsize : ls.size = nL) (hst : st0 = As.reverse ++ .ref b :: rest) (hW : 2 * (F0 m pc ls rest).monitorRoom + (rest.map fun v => v.category).sum ≤ 8) (hdg : decode cc pc = .ok (.invokevirtual index, 3)) (hf : cells + 0 ≤ R.cells ∧ slots + 0 ≤ R.slots)
    (kk : W p l e R s m args below meth c H locs cells slots Q (F0 m (pc + 3) ls (.int x :: rest))) : W p l e R s m args below meth c H locs cells slots Q (F0 m pc ls st0) :=
  vp_callSi (W.runV (g := F0 m pc ls st0) S hM cw (PBE_V hE hS hK hP hc he) rfl hn hsize hst hW hdg hf) (fun r hr => hr ▸ kk)
variable {S' : Type} {post : S' → Prop} {posti : Int32 → S' → Prop} {wp : S' → va_W} {w0 wr : va_W}
theorem chVvE {ci q0 : Nat} {fs : List Value} {T : u_T} {N : Nat} (S : CallFix p m c cc nL s args Ts own)
    (hM : Met l y ws rm (va_Pc (.ref b :: As) (PME D cl wc tc H.size tp)) (va_Qv post (MB D cl wp tc (va_A wc H.size)) (va_A wc H.size)) mc ms (va_A wc H.size)) (cw : CallW R s args own C index y bytes maxL ret ws rm mc ms n)
    (hE : EnvA tp A s s.heap) (hK : va_K D cl tc s) (hP : va_P D cl w0 H) (hD : va_D A w0) (hS : va_S A s.heap H locs) (hA : ∀ q, s.heap.size ≤ q → A q) (isC isR : List Nat) (hC : isC.map (fun i => w0[i]?) = wc.map some) (hR : isR.map (fun i => w0[i]?) = wr.map some) (hnc : va_nd isC = true) (hnr : va_nd isR = true) (hdis : ∀ i ∈ isR, i ∉ isC)
    (hc : cl[ci]? = some (C, T, N)) (he : wc[q0]? = some (b, .inr (ci, fs))) (hn : As.length = n) (hsize : ls.size = nL) (hst : st0 = As.reverse ++ .ref b :: rest) (hW : 2 * (F0 m pc ls rest).monitorRoom + (rest.map fun v => v.category).sum ≤ 8) (hdg : decode cc pc = .ok (.invokevirtual index, 3)) (hf : cells + mc ≤ R.cells ∧ slots + ms ≤ R.slots)
    (kk : ∀ (u : S') (H1 : Heap) (locs1 : List Loc), post u → va_P D cl (wr ++ wp u) H1 → va_D A (wr ++ wp u) → va_S A s.heap H1 locs1 → W p l e R s m args below meth c H1 locs1 (cells + mc) (slots + ms) Q (F0 m (pc + 3) ls rest)) :
    W p l e R s m args below meth c H locs cells slots Q (F0 m pc ls st0) := by
  have hPc := hP.sub isC (sub_of isC hC)
  have hDc := hD.sub isC hnc hC
  have hFc := va_free (wc := wc) hD hS hA isC hC
  refine va_callv (va_runV (g := F0 m pc ls st0) S hM cw (PME_V hE hS hFc hK hPc hDc hc he) rfl hn hsize hst hW hdg hf) hS (fun q _ h => hFc q h) hFc (fun u t H1 locs1 ht hvm hw hB hz1 hk1 hS1 => ?_)
  obtain ⟨hP1, -, hD1⟩ := hB
  rw [ht] at hP1
  obtain ⟨hP2, hD2⟩ := va_join (wr := wr) (w1 := wp u) hP hD isC isR hC hR hnr hdis hk1 hFc hP1 hD1
  exact kk u H1 locs1 hw hP2 hD2 hS1
theorem wb_ti {t : Nat} (hexec : p.tables.exec = Jvm.exec) (hb : c.code = cc) (hE : EnvA t A s s.heap) (hS : va_S A s.heap H locs) {i : Int32} (j : Nat) (hi : i = nI j) (hj : j < 4) (hdg : decode cc pc = .ok (.iaload, 1))
    (kk : W p l e R s m args below meth c H locs cells slots Q (F0 m (pc + 1) ls (.int (nI (prc j)) :: rest))) : W p l e R s m args below meth c H locs cells slots Q (F0 m pc ls (.int i :: .ref t :: rest)) := by
  subst hi
  exact va_ti hexec hb hE.2.1 hS (vp_in_nI hj (by decide)) (by rw [nI_clamp (Nat.lt_trans hj (by decide))]) hdg kk
end WCE
/-! what 'accepts' says -/
def acc (ops : Nat → Int32) (n : Nat) (op a b d : Int32) : Bool :=
  if op < 0 then false else if 7 < op then false else if d < 0 then false else if ¬ d < nI 4 then false else if op = 1 ∧ a < 0 then false else if op = 1 ∧ ¬ a < 4 then false
  else if uL op = true ∧ iv ops n a = false then false else if uR op = true ∧ iv ops n b = false then false else true
