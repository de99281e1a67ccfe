section
-- ===== PART A: goes FIRST, ahead of the names: the tables' words, and 'selects' of the private methods out of them =====
/-- a private method of a class that the tables say can be made, by its rows of tables_1 -/
def lw_okq (q : MethodName × Nat) : Prop := (q.1.cls ≠ "java/lang/invoke/MethodHandle" ∧ q.1.cls ≠ "java/lang/invoke/VarHandle") ∧ Cond.instantiable q.1.cls q.2 ∈ tables_1 ∧ Cond.privateMethod q.1 ∈ tables_1 ∧ Cond.instanceMethod q.1 ∈ tables_1
theorem lw_p0 : lw_okq (⟨"java/lang/Throwable", "fillInStackTrace", "(I)Ljava/lang/Throwable;"⟩, 6) := ⟨⟨by decide +kernel, by decide +kernel⟩, List.mem_of_getElem? (i := 202) (by decide +kernel), List.mem_of_getElem? (i := 200) (by decide +kernel), List.mem_of_getElem? (i := 201) (by decide +kernel)⟩
theorem lw_p1 : lw_okq (⟨"AllocForge$Code", "noteUse", "(II)V"⟩, 8) := ⟨⟨by decide +kernel, by decide +kernel⟩, List.mem_of_getElem? (i := 24) (by decide +kernel), List.mem_of_getElem? (i := 252) (by decide +kernel), List.mem_of_getElem? (i := 253) (by decide +kernel)⟩
theorem lw_p2 : lw_okq (⟨"AllocForge$Allocation", "longestWaiting", "(LAllocForge$Code;)I"⟩, 3) := ⟨⟨by decide +kernel, by decide +kernel⟩, List.mem_of_getElem? (i := 81) (by decide +kernel), List.mem_of_getElem? (i := 270) (by decide +kernel), List.mem_of_getElem? (i := 271) (by decide +kernel)⟩
theorem lw_p3 : lw_okq (⟨"AllocForge$Allocation", "takeRegister", "(LAllocForge$Code;I)Z"⟩, 3) := ⟨⟨by decide +kernel, by decide +kernel⟩, List.mem_of_getElem? (i := 81) (by decide +kernel), List.mem_of_getElem? (i := 280) (by decide +kernel), List.mem_of_getElem? (i := 281) (by decide +kernel)⟩
theorem lw_p4 : lw_okq (⟨"AllocForge$Allocation", "heaviestMeeting", "(LAllocForge$Code;II)D"⟩, 3) := ⟨⟨by decide +kernel, by decide +kernel⟩, List.mem_of_getElem? (i := 81) (by decide +kernel), List.mem_of_getElem? (i := 296) (by decide +kernel), List.mem_of_getElem? (i := 297) (by decide +kernel)⟩
theorem lw_p5 : lw_okq (⟨"AllocForge$Allocation", "evictMeeting", "(LAllocForge$Code;II)V"⟩, 3) := ⟨⟨by decide +kernel, by decide +kernel⟩, List.mem_of_getElem? (i := 81) (by decide +kernel), List.mem_of_getElem? (i := 304) (by decide +kernel), List.mem_of_getElem? (i := 305) (by decide +kernel)⟩
theorem lw_p6 : lw_okq (⟨"AllocForge$Allocation", "takeSlot", "(LAllocForge$Code;I)Z"⟩, 3) := ⟨⟨by decide +kernel, by decide +kernel⟩, List.mem_of_getElem? (i := 81) (by decide +kernel), List.mem_of_getElem? (i := 308) (by decide +kernel), List.mem_of_getElem? (i := 309) (by decide +kernel)⟩
theorem lw_p7 : lw_okq (⟨"AllocForge$Allocation", "valuesFrom", "(II)I"⟩, 3) := ⟨⟨by decide +kernel, by decide +kernel⟩, List.mem_of_getElem? (i := 81) (by decide +kernel), List.mem_of_getElem? (i := 317) (by decide +kernel), List.mem_of_getElem? (i := 318) (by decide +kernel)⟩
theorem lw_p8 : lw_okq (⟨"AllocForge$Allocation", "valuesAt", "(I)I"⟩, 3) := ⟨⟨by decide +kernel, by decide +kernel⟩, List.mem_of_getElem? (i := 81) (by decide +kernel), List.mem_of_getElem? (i := 321) (by decide +kernel), List.mem_of_getElem? (i := 322) (by decide +kernel)⟩
theorem lw_p9 : lw_okq (⟨"AllocForge", "requireValue", "(I)V"⟩, 7) := ⟨⟨by decide +kernel, by decide +kernel⟩, List.mem_of_getElem? (i := 16) (by decide +kernel), List.mem_of_getElem? (i := 333) (by decide +kernel), List.mem_of_getElem? (i := 334) (by decide +kernel)⟩
theorem lw_p10 : lw_okq (⟨"AllocForge", "requireAllocated", "()V"⟩, 7) := ⟨⟨by decide +kernel, by decide +kernel⟩, List.mem_of_getElem? (i := 16) (by decide +kernel), List.mem_of_getElem? (i := 354) (by decide +kernel), List.mem_of_getElem? (i := 355) (by decide +kernel)⟩
theorem lw_p11 : lw_okq (⟨"AllocForge", "runWritten", "(IIII)V"⟩, 7) := ⟨⟨by decide +kernel, by decide +kernel⟩, List.mem_of_getElem? (i := 16) (by decide +kernel), List.mem_of_getElem? (i := 420) (by decide +kernel), List.mem_of_getElem? (i := 421) (by decide +kernel)⟩
theorem lw_p12 : lw_okq (⟨"AllocForge$Machine", "step", "(LAllocForge$Code;I[II)V"⟩, 6) := ⟨⟨by decide +kernel, by decide +kernel⟩, List.mem_of_getElem? (i := 56) (by decide +kernel), List.mem_of_getElem? (i := 434) (by decide +kernel), List.mem_of_getElem? (i := 435) (by decide +kernel)⟩
theorem lw_p13 : lw_okq (⟨"AllocForge$Machine", "compute", "(III)I"⟩, 6) := ⟨⟨by decide +kernel, by decide +kernel⟩, List.mem_of_getElem? (i := 56) (by decide +kernel), List.mem_of_getElem? (i := 452) (by decide +kernel), List.mem_of_getElem? (i := 453) (by decide +kernel)⟩
theorem lw_p14 : lw_okq (⟨"AllocForge$Machine", "divide", "(II)I"⟩, 6) := ⟨⟨by decide +kernel, by decide +kernel⟩, List.mem_of_getElem? (i := 56) (by decide +kernel), List.mem_of_getElem? (i := 456) (by decide +kernel), List.mem_of_getElem? (i := 457) (by decide +kernel)⟩
theorem lw_p15 : lw_okq (⟨"AllocForge$Machine", "spoil", "(I)V"⟩, 6) := ⟨⟨by decide +kernel, by decide +kernel⟩, List.mem_of_getElem? (i := 56) (by decide +kernel), List.mem_of_getElem? (i := 460) (by decide +kernel), List.mem_of_getElem? (i := 461) (by decide +kernel)⟩
def lw_privs_1 : List (MethodName × Nat) := [(⟨"java/lang/Throwable", "fillInStackTrace", "(I)Ljava/lang/Throwable;"⟩, 6), (⟨"AllocForge$Code", "noteUse", "(II)V"⟩, 8), (⟨"AllocForge$Allocation", "longestWaiting", "(LAllocForge$Code;)I"⟩, 3), (⟨"AllocForge$Allocation", "takeRegister", "(LAllocForge$Code;I)Z"⟩, 3), (⟨"AllocForge$Allocation", "heaviestMeeting", "(LAllocForge$Code;II)D"⟩, 3), (⟨"AllocForge$Allocation", "evictMeeting", "(LAllocForge$Code;II)V"⟩, 3), (⟨"AllocForge$Allocation", "takeSlot", "(LAllocForge$Code;I)Z"⟩, 3), (⟨"AllocForge$Allocation", "valuesFrom", "(II)I"⟩, 3), (⟨"AllocForge$Allocation", "valuesAt", "(I)I"⟩, 3), (⟨"AllocForge", "requireValue", "(I)V"⟩, 7), (⟨"AllocForge", "requireAllocated", "()V"⟩, 7), (⟨"AllocForge", "runWritten", "(IIII)V"⟩, 7), (⟨"AllocForge$Machine", "step", "(LAllocForge$Code;I[II)V"⟩, 6), (⟨"AllocForge$Machine", "compute", "(III)I"⟩, 6), (⟨"AllocForge$Machine", "divide", "(II)I"⟩, 6), (⟨"AllocForge$Machine", "spoil", "(I)V"⟩, 6)]
theorem lw_r1 : ∀ q ∈ lw_privs_1, lw_okq q := List.forall_mem_cons.mpr ⟨lw_p0, List.forall_mem_cons.mpr ⟨lw_p1, List.forall_mem_cons.mpr ⟨lw_p2, List.forall_mem_cons.mpr ⟨lw_p3, List.forall_mem_cons.mpr ⟨lw_p4, List.forall_mem_cons.mpr ⟨lw_p5, List.forall_mem_cons.mpr ⟨lw_p6, List.forall_mem_cons.mpr ⟨lw_p7, List.forall_mem_cons.mpr ⟨lw_p8, List.forall_mem_cons.mpr ⟨lw_p9, List.forall_mem_cons.mpr ⟨lw_p10, List.forall_mem_cons.mpr ⟨lw_p11, List.forall_mem_cons.mpr ⟨lw_p12, List.forall_mem_cons.mpr ⟨lw_p13, List.forall_mem_cons.mpr ⟨lw_p14, List.forall_mem_cons.mpr ⟨lw_p15, fun _ h => absurd h List.not_mem_nil⟩⟩⟩⟩⟩⟩⟩⟩⟩⟩⟩⟩⟩⟩⟩⟩
theorem lw_p16 : lw_okq (⟨"AllocForge", "runAllocated", "(IIII)V"⟩, 7) := ⟨⟨by decide +kernel, by decide +kernel⟩, List.mem_of_getElem? (i := 16) (by decide +kernel), List.mem_of_getElem? (i := 498) (by decide +kernel), List.mem_of_getElem? (i := 499) (by decide +kernel)⟩
theorem lw_p17 : lw_okq (⟨"AllocForge$Allocation", "homesUsed", "(II)I"⟩, 3) := ⟨⟨by decide +kernel, by decide +kernel⟩, List.mem_of_getElem? (i := 81) (by decide +kernel), List.mem_of_getElem? (i := 556) (by decide +kernel), List.mem_of_getElem? (i := 557) (by decide +kernel)⟩
theorem lw_p18 : lw_okq (⟨"AllocForgeModel", "isValue", "(I)Z"⟩, 18) := ⟨⟨by decide +kernel, by decide +kernel⟩, List.mem_of_getElem? (i := 565) (by decide +kernel), List.mem_of_getElem? (i := 637) (by decide +kernel), List.mem_of_getElem? (i := 638) (by decide +kernel)⟩
theorem lw_p19 : lw_okq (⟨"AllocForgeModel", "fail", "(I)I"⟩, 18) := ⟨⟨by decide +kernel, by decide +kernel⟩, List.mem_of_getElem? (i := 565) (by decide +kernel), List.mem_of_getElem? (i := 644) (by decide +kernel), List.mem_of_getElem? (i := 645) (by decide +kernel)⟩
theorem lw_p20 : lw_okq (⟨"AllocForgeModel", "next", "()I"⟩, 18) := ⟨⟨by decide +kernel, by decide +kernel⟩, List.mem_of_getElem? (i := 565) (by decide +kernel), List.mem_of_getElem? (i := 656) (by decide +kernel), List.mem_of_getElem? (i := 657) (by decide +kernel)⟩
theorem lw_p21 : lw_okq (⟨"AllocForgeModel", "end", "(I)I"⟩, 18) := ⟨⟨by decide +kernel, by decide +kernel⟩, List.mem_of_getElem? (i := 565) (by decide +kernel), List.mem_of_getElem? (i := 660) (by decide +kernel), List.mem_of_getElem? (i := 661) (by decide +kernel)⟩
theorem lw_p22 : lw_okq (⟨"AllocForgeModel", "uses", "(II)I"⟩, 18) := ⟨⟨by decide +kernel, by decide +kernel⟩, List.mem_of_getElem? (i := 565) (by decide +kernel), List.mem_of_getElem? (i := 664) (by decide +kernel), List.mem_of_getElem? (i := 665) (by decide +kernel)⟩
theorem lw_p23 : lw_okq (⟨"AllocForgeModel", "give", "(II)Z"⟩, 18) := ⟨⟨by decide +kernel, by decide +kernel⟩, List.mem_of_getElem? (i := 565) (by decide +kernel), List.mem_of_getElem? (i := 668) (by decide +kernel), List.mem_of_getElem? (i := 669) (by decide +kernel)⟩
theorem lw_p24 : lw_okq (⟨"AllocForgeModel", "isCrossed", "(I)Z"⟩, 18) := ⟨⟨by decide +kernel, by decide +kernel⟩, List.mem_of_getElem? (i := 565) (by decide +kernel), List.mem_of_getElem? (i := 672) (by decide +kernel), List.mem_of_getElem? (i := 673) (by decide +kernel)⟩
theorem lw_p25 : lw_okq (⟨"AllocForgeModel", "free", "(III)I"⟩, 18) := ⟨⟨by decide +kernel, by decide +kernel⟩, List.mem_of_getElem? (i := 565) (by decide +kernel), List.mem_of_getElem? (i := 676) (by decide +kernel), List.mem_of_getElem? (i := 677) (by decide +kernel)⟩
theorem lw_p26 : lw_okq (⟨"AllocForgeModel", "isFree", "(II)Z"⟩, 18) := ⟨⟨by decide +kernel, by decide +kernel⟩, List.mem_of_getElem? (i := 565) (by decide +kernel), List.mem_of_getElem? (i := 680) (by decide +kernel), List.mem_of_getElem? (i := 681) (by decide +kernel)⟩
theorem lw_p27 : lw_okq (⟨"AllocForgeModel", "meet", "(II)Z"⟩, 18) := ⟨⟨by decide +kernel, by decide +kernel⟩, List.mem_of_getElem? (i := 565) (by decide +kernel), List.mem_of_getElem? (i := 684) (by decide +kernel), List.mem_of_getElem? (i := 685) (by decide +kernel)⟩
theorem lw_p28 : lw_okq (⟨"AllocForgeModel", "heaviest", "(II)D"⟩, 18) := ⟨⟨by decide +kernel, by decide +kernel⟩, List.mem_of_getElem? (i := 565) (by decide +kernel), List.mem_of_getElem? (i := 688) (by decide +kernel), List.mem_of_getElem? (i := 689) (by decide +kernel)⟩
theorem lw_p29 : lw_okq (⟨"AllocForgeModel", "heavy", "(I)D"⟩, 18) := ⟨⟨by decide +kernel, by decide +kernel⟩, List.mem_of_getElem? (i := 565) (by decide +kernel), List.mem_of_getElem? (i := 692) (by decide +kernel), List.mem_of_getElem? (i := 693) (by decide +kernel)⟩
theorem lw_p30 : lw_okq (⟨"AllocForgeModel", "sum", "(I)I"⟩, 18) := ⟨⟨by decide +kernel, by decide +kernel⟩, List.mem_of_getElem? (i := 565) (by decide +kernel), List.mem_of_getElem? (i := 696) (by decide +kernel), List.mem_of_getElem? (i := 697) (by decide +kernel)⟩
theorem lw_p31 : lw_okq (⟨"AllocForgeModel", "perform", "(IIIIZ)Z"⟩, 18) := ⟨⟨by decide +kernel, by decide +kernel⟩, List.mem_of_getElem? (i := 565) (by decide +kernel), List.mem_of_getElem? (i := 723) (by decide +kernel), List.mem_of_getElem? (i := 724) (by decide +kernel)⟩
def lw_privs_2 : List (MethodName × Nat) := [(⟨"AllocForge", "runAllocated", "(IIII)V"⟩, 7), (⟨"AllocForge$Allocation", "homesUsed", "(II)I"⟩, 3), (⟨"AllocForgeModel", "isValue", "(I)Z"⟩, 18), (⟨"AllocForgeModel", "fail", "(I)I"⟩, 18), (⟨"AllocForgeModel", "next", "()I"⟩, 18), (⟨"AllocForgeModel", "end", "(I)I"⟩, 18), (⟨"AllocForgeModel", "uses", "(II)I"⟩, 18), (⟨"AllocForgeModel", "give", "(II)Z"⟩, 18), (⟨"AllocForgeModel", "isCrossed", "(I)Z"⟩, 18), (⟨"AllocForgeModel", "free", "(III)I"⟩, 18), (⟨"AllocForgeModel", "isFree", "(II)Z"⟩, 18), (⟨"AllocForgeModel", "meet", "(II)Z"⟩, 18), (⟨"AllocForgeModel", "heaviest", "(II)D"⟩, 18), (⟨"AllocForgeModel", "heavy", "(I)D"⟩, 18), (⟨"AllocForgeModel", "sum", "(I)I"⟩, 18), (⟨"AllocForgeModel", "perform", "(IIIIZ)Z"⟩, 18)]
theorem lw_r2 : ∀ q ∈ lw_privs_2, lw_okq q := List.forall_mem_cons.mpr ⟨lw_p16, List.forall_mem_cons.mpr ⟨lw_p17, List.forall_mem_cons.mpr ⟨lw_p18, List.forall_mem_cons.mpr ⟨lw_p19, List.forall_mem_cons.mpr ⟨lw_p20, List.forall_mem_cons.mpr ⟨lw_p21, List.forall_mem_cons.mpr ⟨lw_p22, List.forall_mem_cons.mpr ⟨lw_p23, List.forall_mem_cons.mpr ⟨lw_p24, List.forall_mem_cons.mpr ⟨lw_p25, List.forall_mem_cons.mpr ⟨lw_p26, List.forall_mem_cons.mpr ⟨lw_p27, List.forall_mem_cons.mpr ⟨lw_p28, List.forall_mem_cons.mpr ⟨lw_p29, List.forall_mem_cons.mpr ⟨lw_p30, List.forall_mem_cons.mpr ⟨lw_p31, fun _ h => absurd h List.not_mem_nil⟩⟩⟩⟩⟩⟩⟩⟩⟩⟩⟩⟩⟩⟩⟩⟩
theorem lw_p32 : lw_okq (⟨"AllocForgeModel", "taken", "(IZ)I"⟩, 18) := ⟨⟨by decide +kernel, by decide +kernel⟩, List.mem_of_getElem? (i := 565) (by decide +kernel), List.mem_of_getElem? (i := 727) (by decide +kernel), List.mem_of_getElem? (i := 728) (by decide +kernel)⟩
theorem lw_p33 : lw_okq (⟨"AllocForgeModel", "used", "(II)I"⟩, 18) := ⟨⟨by decide +kernel, by decide +kernel⟩, List.mem_of_getElem? (i := 565) (by decide +kernel), List.mem_of_getElem? (i := 747) (by decide +kernel), List.mem_of_getElem? (i := 748) (by decide +kernel)⟩
def lw_privs_3 : List (MethodName × Nat) := [(⟨"AllocForgeModel", "taken", "(IZ)I"⟩, 18), (⟨"AllocForgeModel", "used", "(II)I"⟩, 18)]
theorem lw_r3 : ∀ q ∈ lw_privs_3, lw_okq q := List.forall_mem_cons.mpr ⟨lw_p32, List.forall_mem_cons.mpr ⟨lw_p33, fun _ h => absurd h List.not_mem_nil⟩⟩
def lw_privs : List (MethodName × Nat) := lw_privs_1 ++ (lw_privs_2 ++ (lw_privs_3))
def lw_tbl : List Cond := k2_sels lw_privs ++ tables_1
theorem lw_privs_ok : ∀ q ∈ lw_privs, lw_okq q := by
  show ∀ q ∈ lw_privs_1 ++ (lw_privs_2 ++ (lw_privs_3)), lw_okq q
  exact List.forall_mem_append.mpr ⟨lw_r1, List.forall_mem_append.mpr ⟨lw_r2, lw_r3⟩⟩

/-- the words that every contract carries: those of the tables that hold wherever the classes are as they were -/
def TG : List Cond := lw_tbl.filter goodWord
theorem tg_of {w : Cond} (h : w ∈ lw_tbl) (g : goodWord w = true) : w ∈ TG := List.mem_filter.mpr ⟨h, g⟩
theorem tg_t {w : Cond} (h : w ∈ tables_1) (g : goodWord w = true) : w ∈ TG := tg_of (List.mem_append_right _ h) g
theorem tg_s {w : Cond} (h : w ∈ k2_sels lw_privs) (g : goodWord w = true) : w ∈ TG := tg_of (List.mem_append_left _ h) g
theorem tg_in {w : Cond} (h : w ∈ TG) : w ∈ lw_tbl := (List.mem_filter.mp h).1
theorem tg_good {w : Cond} (h : w ∈ TG) : (w.onTables && w.keeps) = true ∨ ∃ ty, w = .arrayClass ty := good_of_word (List.mem_filter.mp h).2
theorem tg_V {own C : String} {idx maxL : Nat} {y : MethodName} {bytes : ByteArray} {ret : Option FieldType} (h1 : Cond.methodLink own idx y ∈ TG) (h2 : Cond.instanceMethod y ∈ TG) (h3 : Cond.selects C y y ∈ TG) (h4 : Cond.initialized C ∈ TG) (h5 : Cond.code y bytes maxL ret ∈ TG) :
    GoodIn TG (wsV own idx C y (.code y bytes maxL ret :: TG)) := by
  have key : ∀ w ∈ wsV own idx C y (.code y bytes maxL ret :: TG), w ∈ TG := by
    intro w hw
    simp only [wsV, List.cons_append, List.nil_append, List.mem_cons] at hw
    rcases hw with rfl | rfl | rfl | rfl | rfl | h
    · exact h1
    · exact h2
    · exact h3
    · exact h4
    · exact h5
    · exact h
  exact fun w hw => ⟨key w hw, tg_good (key w hw)⟩
theorem tg_S {own : String} {idx maxL : Nat} {y : MethodName} {bytes : ByteArray} {ret : Option FieldType} (h1 : Cond.methodLink own idx y ∈ TG) (h2 : Cond.static y ∈ TG) (h4 : Cond.initialized y.cls ∈ TG) (h5 : Cond.code y bytes maxL ret ∈ TG) :
    GoodIn TG (va_wsS own idx y (.code y bytes maxL ret :: TG)) := by
  have key : ∀ w ∈ va_wsS own idx y (.code y bytes maxL ret :: TG), w ∈ TG := by
    intro w hw
    simp only [va_wsS, List.cons_append, List.nil_append, List.mem_cons] at hw
    rcases hw with rfl | rfl | rfl | rfl | h
    · exact h1
    · exact h2
    · exact h4
    · exact h5
    · exact h
  exact fun w hw => ⟨key w hw, tg_good (key w hw)⟩
theorem tg_I {y : MethodName} {bytes : ByteArray} {maxL : Nat} {ret : Option FieldType} (h5 : Cond.code y bytes maxL ret ∈ TG) : GoodIn TG (.code y bytes maxL ret :: TG) := by
  have key : ∀ w ∈ (.code y bytes maxL ret :: TG : List Cond), w ∈ TG := by
    intro w hw
    rcases List.mem_cons.mp hw with rfl | h
    · exact h5
    · exact h
  exact fun w hw => ⟨key w hw, tg_good (key w hw)⟩
end
section
/-! Methods that may throw: contracts, calls, the throw itself, the catching. Own rows over the library's Stand laws. -/
section EXA
variable {p : Program} {l : Launch} {e : Env} {R : Room} {s : State} {m : MethodId} {args : Array Value} {below : List Frame} {meth : Method} {c : Code} {T : State} {H : Heap} {locs : List Loc} {cells slots : Nat} {Q : State → Prop}
variable {y : MethodName} {ws ws' : List Cond} {rm : Room} {Pc : Array Value → State → Prop} {Qc : Array Value → State → Outcome → State → Prop} {mc ms : Nat} {free : Addr → Prop} {bytes cc : ByteArray} {maxL : Nat} {ret : Option FieldType}
/-- the end of a method, whatever its outcome: its own word, and what it wrote and made -/
def ex_End (Qc : Array Value → State → Outcome → State → Prop) (mc ms : Nat) (free : Addr → Prop) (a : Array Value) (st : State) (o : Outcome) (t : State) : Prop :=
  Qc a st o t ∧ st.WarmedH t.vm ∧ ∃ L : List Loc, st.sameButNew ({ t with vm := st.vm } : State) L mc ms ∧ ∀ q ∈ L, free q.base
/-- the contract of a method that returns or throws -/
def ex_Met (l : Launch) (y : MethodName) (ws : List Cond) (rm : Room) (Pc : Array Value → State → Prop) (Qc : Array Value → State → Outcome → State → Prop) (mc ms : Nat) (free : Addr → Prop) : Prop :=
  MetFree l y (headSpec ws rm) Pc (fun _ _ _ _ _ => True) (ex_End Qc mc ms free)
/-- what a body owes -/
def ex_MQ (below : List Frame) (Qc : Array Value → State → Outcome → State → Prop) (a : Array Value) (s : State) (mc ms : Nat) (free : Addr → Prop) : State → Prop := fun t =>
  ∃ o, t.status = .running ∧ Ended t below o ∧ ex_End Qc mc ms free a s o t
theorem ex_ret {g : JFrame} (k : W p l e R s m args below meth c H locs cells slots (MQ below Qc args s mc ms free) g) : W p l e R s m args below meth c H locs cells slots (ex_MQ below Qc args s mc ms free) g := by
  intro T hT X
  obtain ⟨t, a1, o, b1, b2, b3, L, hF, hL⟩ := k T hT X
  exact ⟨t, a1, o, b1, b2, b3, hF.2.1, L, hF.2.2, hL⟩
theorem ex_ofW (hy : plainName y.cls = true) (hw : ws = Cond.code y cc maxL ret :: ws')
    (body : ∀ p e s m args below meth c s₁, BodyLoose p l y (headSpec ws rm) cc maxL ret e s m args below meth c s₁ → c.maxLocals = maxL → (∀ x ∈ c.exceptionTable.toList, False) → Pc args s →
      W p l e (headSpec ws rm).room s m args below meth c s.heap [] 0 0 (ex_MQ below Qc args s mc ms free) (entryFrame m args maxL)) : ex_Met l y ws rm Pc Qc mc ms free := by
  refine MetFree.of_bodyS (code := cc) (maxLocals := maxL) (ret := ret) hy ?_ ?_
  · intro args s m h hn
    obtain ⟨meth, c, h1, h2, h3, h4, h5, h6, -, -⟩ := Cond.code_spec hn (atoms_spec (ws := ws) h _ (by rw [hw]; exact List.mem_cons_self))
    exact ⟨meth, c, h1, h2, h3, h4, h5, h6⟩
  · intro p e s m args below meth c s₁ B hml hP _
    have hh0 : s₁.heap = s.heap := by rw [B.state]; rfl
    have ht : c.exceptionTable.isEmpty = true := B.noHandlers (atoms_spec (ws := ws) B.pre _ (by rw [hw]; exact List.mem_cons_self))
    obtain ⟨t, a1, o, b1, b2, b3⟩ := body p e s m args below meth c s₁ B hml (fun x hx => by rw [Array.isEmpty_iff.mp ht] at hx; cases hx) hP s₁ hh0 (Stand.of_body B)
    exact ⟨t, o, a1, b1, b2, b3⟩
theorem ex_heapTop (T' : State) (g : JFrame) : (T'.setTop g).heap = T'.heap := by
  first | rfl | simp [State.setTop, State.modifyTopJava]
theorem ex_vmTop (T' : State) (g : JFrame) : (T'.setTop g).vm = T'.vm := by
  first | rfl | simp [State.setTop, State.modifyTopJava]
/-- into the callee and out of it, whichever way it ends -/
theorem ex_back {len W9 : Nat} (hM : ex_Met l y ws rm Pc Qc mc ms free) (hblind : FrameBlind Pc) (hrc : rm.cells = mc) (hrs : rm.slots = ms)
    (hframes : rm.frames + 1 ≤ R.frames) (hlocals : W9 + (maxL + 11) + rm.locals ≤ R.locals)
    (hws : ∀ w ∈ ws, ∀ (a' : Array Value) (U : State), s.WarmedH U.vm → w.before a' U = true) (hcode : Cond.code y bytes maxL ret ∈ ws) (hinit : (Cond.initialized y.cls).before args s = true)
    (X : Stand p l e R s m args below meth c T locs cells slots) {g : JFrame} (hg : g.method = m) (hsize : g.locals.size = c.maxLocals) {ig : Instr} (hdg : decode c.code g.pc = .ok (ig, len))
    (hW : 2 * g.monitorRoom + (g.stack.map fun v => v.category).sum ≤ W9) {mk : MethodId} (hn : T.methodNamed? y = some mk) {a : Array Value} (hPc : Pc a T) (h4 : cells + mc ≤ R.cells) (h5 : slots + ms ≤ R.slots) :
    ∃ (o : Outcome) (st t T' : State) (L : List Loc), st.heap = T.heap ∧ st.vm = T.vm ∧ Qc a st o t ∧ T'.heap = t.heap ∧ T'.vm = t.vm ∧ Stand p l e R s m args below meth c T' (locs ++ L) (cells + mc) (slots + ms) ∧ (∀ q ∈ L, free q.base) ∧
      ((∃ v, o = .returned v ∧ Steps p.tables e below (doInvoke e (T.setTop g) [] mk a).1 (T'.setTop { g with pc := g.pc + len, stack := v.toList ++ g.stack })) ∨
       (∃ q, o = .threw q ∧ Steps p.tables e below (doInvoke e (T.setTop g) [] mk a).1 ((T'.setTop g).pushFrame (.throwing q)))) := by
  have h1 : (headSpec ws rm).pre.before a T = true := atoms_intro fun w hw => hws w hw _ _ X.warmed
  have h2 : (Cond.code y bytes maxL ret).before a T = true := hws _ hcode _ _ X.warmed
  have h3 : (Cond.initialized y.cls).before a T = true := word_at X.warmed (Or.inl (by first | rfl | simp [Cond.onTables, Cond.keeps, Cond.steady])) hinit
  obtain ⟨methY, cY, hmY, hcY, -, hlY, -, -, -, -⟩ := Cond.code_spec hn h2
  obtain ⟨kY, hkY, -⟩ := className_of_methodNamed hn
  have hinitY : kY.init = .initialized := Cond.initialized_spec (findClass_of_methodNamed hn) hkY h3
  have h : At T g.method c below := by rw [hg]; exact X.here
  have hloc : 2 * g.monitorRoom + (g.stack.map fun v => v.category).sum + (cY.maxLocals + 11) + (headSpec ws rm).room.locals ≤ R.locals := by
    rw [hlY]
    show 2 * g.monitorRoom + (g.stack.map fun v => v.category).sum + (maxL + 11) + rm.locals ≤ R.locals
    omega
  have happ : (headSpec ws rm).appliesLoose y e.platform (T.calling g mk a) = true :=
    Spec.appliesLoose_calling (g := g) h hdg hn hkY hinitY
      (X.room_calling (g := g) (R' := (headSpec ws rm).room) hsize hmY hcY hframes hloc (by rw [show (headSpec ws rm).room.cells = mc from hrc]; exact h4) (by rw [show (headSpec ws rm).room.slots = ms from hrs]; exact h5)) h1
  obtain ⟨mid, hmid⟩ := h.above
  have hfr : (T.setTop g).frames = (.java g :: mid) ++ below := by rw [State.frames_setTop' g h.top, hmid]; rfl
  obtain ⟨o, s₂, hsteps, -, hend, hq, hW₂, L, hsame, hL⟩ := Steps.callFree hM p X.admits X.cas X.clock (acts := []) hfr happ (hblind _ _ _ _ hPc) trivial
  rw [State.frames_setTop' g h.top, X.tail] at hend
  have hst : ((T.setTop g).pushFrame (.invoking mk a)).heap = T.heap := by
    simp [State.pushFrame, State.setFrames, State.setTop, State.modifyTopJava]
  have hsv : ((T.setTop g).pushFrame (.invoking mk a)).vm = T.vm := by
    simp [State.pushFrame, State.setFrames, State.setTop, State.modifyTopJava]
  cases o with
  | returned v =>
    obtain ⟨T', X', -, -, ht⟩ := X.outOf hg hdg hend hW₂ hsame
    exact ⟨.returned v, _, s₂, T', L, hst, hsv, hq, by rw [ht, ex_heapTop], by rw [ht, ex_vmTop], X', hL, Or.inl ⟨v, rfl, by rw [← ht]; exact hsteps⟩⟩
  | threw q =>
    obtain ⟨T', X', -, -, ht⟩ := X.outOfThrown hg hend hW₂ hsame
    exact ⟨.threw q, _, s₂, T', L, hst, hsv, hq, by rw [ht, Stand.throwing_heap], by rw [ht, Stand.throwing_vm], X', hL, Or.inr ⟨q, rfl, by rw [← ht]; exact hsteps⟩⟩
end EXA
section EXB
variable {p : Program} {l : Launch} {e : Env} {R : Room} {s : State} {m : MethodId} {args : Array Value} {below : List Frame} {meth : Method} {c : Code} {H : Heap} {locs : List Loc} {cells slots : Nat} {Q : State → Prop}
variable {y : MethodName} {bytes cc : ByteArray} {maxL nL mc ms n index : Nat} {ret : Option FieldType} {ws : List Cond} {rm : Room} {Pc : Array Value → State → Prop} {Qc : Array Value → State → Outcome → State → Prop} {free : Addr → Prop} {Ts : List Cond} {own C : String} {b : Addr} {As rest : List Value} {g : JFrame}
/-- the machine with an exception under way over the frame g comes to a state with Q -/
def ex_W (p : Program) (l : Launch) (e : Env) (R : Room) (s : State) (m : MethodId) (args : Array Value) (below : List Frame) (meth : Method) (c : Code) (H : Heap) (locs : List Loc) (cells slots : Nat) (Q : State → Prop) (g : JFrame) (q : Addr) : Prop :=
  ∀ T : State, T.heap = H → Stand p l e R s m args below meth c T locs cells slots → ∃ t, Steps p.tables e below ((T.setTop g).pushFrame (.throwing q)) t ∧ Q t
/-- a call that returns or throws -/
def ex_Run (p : Program) (l : Launch) (e : Env) (R : Room) (s : State) (m : MethodId) (args : Array Value) (below : List Frame) (meth : Method) (c : Code) (H : Heap) (locs : List Loc) (cells slots mc ms : Nat) (g : JFrame) (rest : List Value) (Qa : State → Outcome → State → Prop) (free : Addr → Prop) : Prop :=
  ∀ T : State, T.heap = H → Stand p l e R s m args below meth c T locs cells slots → ∃ (o : Outcome) (st t T' : State) (L : List Loc), st.heap = H ∧ s.WarmedH st.vm ∧ Qa st o t ∧ T'.heap = t.heap ∧ T'.vm = t.vm ∧ Stand p l e R s m args below meth c T' (locs ++ L) (cells + mc) (slots + ms) ∧ (∀ q ∈ L, free q.base) ∧
    ((∃ v, o = .returned v ∧ Steps p.tables e below (T.setTop g) (T'.setTop { g with pc := g.pc + 3, stack := v.toList ++ rest })) ∨
     (∃ q, o = .threw q ∧ Steps p.tables e below (T.setTop g) ((T'.setTop { g with stack := rest }).pushFrame (.throwing q))))
theorem ex_runV (S : CallFix p m c cc nL s args Ts own) (hM : ex_Met l y ws rm Pc Qc mc ms free) (cw : CallW R s args own C index y bytes maxL ret ws rm mc ms n) (hp : PreV s H C b Pc As)
    (hg : g.method = m) (hn : As.length = n) (hsize : g.locals.size = nL) (hstack : g.stack = As.reverse ++ .ref b :: rest) (hW : 2 * g.monitorRoom + (rest.map fun v => v.category).sum ≤ 8) (hdg : decode cc g.pc = .ok (.invokevirtual index, 3)) (hf : cells + mc ≤ R.cells ∧ slots + ms ≤ R.slots) :
    ex_Run p l e R s m args below meth c H locs cells slots mc ms g rest (Qc (Value.ref b :: As).toArray) free := by
  obtain ⟨⟨hrc, hrs, hfr, hlo, hws, hcw, hcode, hini, hy, hlen, hl⟩, hin, hse⟩ := cw
  obtain ⟨hx, hb, hml, ho, -⟩ := S
  obtain ⟨hbl, ⟨cellB, hcB, hoB, hclB⟩, hPc⟩ := hp
  intro T hT X
  have hdg' : decode c.code g.pc = .ok (.invokevirtual index, 3) := by rw [hb]; exact hdg
  obtain ⟨mk, methM, hnamed, hmethM, hstM, habM⟩ := Cond.instanceMethod_spec hin
  obtain ⟨methM', cM, hmethM', -, -, -, -, -, -, hsigM⟩ := Cond.code_spec hnamed hcode
  cases hmethM.symm.trans hmethM'
  obtain ⟨c2, r2, m2, q1, q2, q3, q4, kP, hkP, hkPi⟩ := Cond.selects_spec hse
  cases hclB.symm.trans q1
  cases (State.methodFound?_of_named hnamed hy).symm.trans q2
  cases hnamed.symm.trans q3
  have hselP : selectMethod e.platform s.vm cellB.cls mk = .method mk := by rw [Launch.admits_selectMethod X.admits]; exact q4
  obtain ⟨vm₁, X₁, hstep₁⟩ := X.invokevirtual hx ho hl hnamed hmethM hstM hkP hkPi hy (a := b) (cell := cellB) (by rw [hT]; exact hcB)
    (fun z h => by rw [h] at hoB; cases hoB) hselP hmethM habM hkP hkPi (g := g) hg (argsL := As) (rest := rest) (hn.trans (hlen _ hsigM)) hstack hdg'
  obtain ⟨o, st, t, T', L, e1, e2, hq, e3, e4, X', hL, hgo⟩ := ex_back (len := 3) (W9 := 8) (bytes := bytes) (maxL := maxL) (ret := ret) hM hbl hrc hrs hfr hlo hws hcw hini X₁ (g := { g with stack := rest }) hg (hsize.trans hml.symm) hdg' hW (X₁.named hnamed) (hPc (T.setVm vm₁) hT X₁.warmed) hf.1 hf.2
  refine ⟨o, st, t, T', L, e1.trans hT, by rw [e2]; exact X₁.warmed, hq, e3, e4, X', hL, ?_⟩
  rcases hgo with ⟨v, ho', hs'⟩ | ⟨q, ho', hs'⟩
  · exact Or.inl ⟨v, ho', hstep₁ _ fun acts => by rw [doInvoke_state]; exact hs'⟩
  · exact Or.inr ⟨q, ho', hstep₁ _ fun acts => by rw [doInvoke_state]; exact hs'⟩
theorem ex_runS (S : CallFix p m c cc nL s args Ts own) (hM : ex_Met l y ws rm Pc Qc mc ms free) (cw : CallB R s args own index y bytes maxL ret ws rm mc ms n ∧ (Cond.static y).before args s = true) (hp : PreS s H Pc As)
    (hg : g.method = m) (hn : As.length = n) (hsize : g.locals.size = nL) (hstack : g.stack = As.reverse ++ rest) (hW : 2 * g.monitorRoom + (rest.map fun v => v.category).sum ≤ 8) (hdg : decode cc g.pc = .ok (.invokestatic index, 3)) (hf : cells + mc ≤ R.cells ∧ slots + ms ≤ R.slots) :
    ex_Run p l e R s m args below meth c H locs cells slots mc ms g rest (Qc As.toArray) free := by
  obtain ⟨⟨hrc, hrs, hfr, hlo, hws, hcw, hcode, hini, hy, hlen, hl⟩, hstt⟩ := cw
  obtain ⟨hx, hb, hml, ho, -⟩ := S
  intro T hT X
  have hdg' : decode c.code g.pc = .ok (.invokestatic index, 3) := by rw [hb]; exact hdg
  obtain ⟨mk, hnamed⟩ := Cond.code_named hcode
  obtain ⟨methM, cM, hmethM, -, -, -, -, -, -, hsigM⟩ := Cond.code_spec hnamed hcode
  have hstatic : methM.isStatic = true := Cond.static_spec hnamed hmethM hstt
  obtain ⟨kP, hkP, -⟩ := className_of_methodNamed hnamed
  have hinitP : kP.init = .initialized := Cond.initialized_spec (findClass_of_methodNamed hnamed) hkP hini
  obtain ⟨vm₁, X₁, hstep₁⟩ := X.invokestatic hx ho hl hnamed hmethM hstatic hkP hinitP hy (g := g) hg (argsL := As) (rest := rest) (hn.trans (hlen _ hsigM)) hstack hdg'
  obtain ⟨o, st, t, T', L, e1, e2, hq, e3, e4, X', hL, hgo⟩ := ex_back (len := 3) (W9 := 8) (bytes := bytes) (maxL := maxL) (ret := ret) hM hp.1 hrc hrs hfr hlo hws hcw hini X₁ (g := { g with stack := rest }) hg (hsize.trans hml.symm) hdg' hW (X₁.named hnamed) (hp.2 (T.setVm vm₁) hT X₁.warmed) hf.1 hf.2
  refine ⟨o, st, t, T', L, e1.trans hT, by rw [e2]; exact X₁.warmed, hq, e3, e4, X', hL, ?_⟩
  rcases hgo with ⟨v, ho', hs'⟩ | ⟨q, ho', hs'⟩
  · exact Or.inl ⟨v, ho', hstep₁ _ fun acts => by rw [doInvoke_state]; exact hs'⟩
  · exact Or.inr ⟨q, ho', hstep₁ _ fun acts => by rw [doInvoke_state]; exact hs'⟩
/-- what a method that may throw says of its end: what it returned, or the class of what it threw; its world; its frame -/
def ex_Q {S : Type} (post : Option Value ⊕ String → S → Prop) (B : S → State → Prop) (A : Nat → Prop) : Array Value → State → Outcome → State → Prop := fun _ st o t =>
  (∃ u : S, ((∃ v, o = .returned v ∧ post (.inl v) u) ∨ (∃ (q : Addr) (E : String) (ce : Cell), o = .threw q ∧ t.heap[q]? = some ce ∧ ce.vm = .none ∧ st.vm.findClass E = some ce.cls ∧ post (.inr E) u)) ∧ B u t) ∧ va_F A st t
theorem ex_call {S : Type} {post : Option Value ⊕ String → S → Prop} {B : S → State → Prop} {A0 A1 : Nat → Prop} {H0 : Heap} {pc : Nat} {ls : Array Slot} {st0 : List Value} {a : Array Value}
    (hr : ex_Run p l e R s m args below meth c H locs cells slots mc ms (F0 m pc ls st0) rest (ex_Q post B A1 a) free) (hS : va_S A0 H0 H locs) (hA : ∀ q, q < H.size → A1 q → A0 q) (hf : ∀ q, free q → A0 q)
    (kk : ∀ (v : Option Value) (u : S) (t : State) (H1 : Heap) (locs1 : List Loc), t.heap = H1 → s.vm.Alike t.vm → post (.inl v) u → B u t → H.size ≤ H1.size → (∀ q : Nat, q < H.size → ¬ A1 q → H1[q]? = H[q]?) → va_S A0 H0 H1 locs1 → W p l e R s m args below meth c H1 locs1 (cells + mc) (slots + ms) Q (F0 m (pc + 3) ls (v.toList ++ rest)))
    (kx : ∀ (E : String) (ce : Cell) (q9 : Addr) (u : S) (t : State) (H1 : Heap) (locs1 : List Loc), t.heap = H1 → s.vm.Alike t.vm → post (.inr E) u → B u t → H.size ≤ H1.size → (∀ q : Nat, q < H.size → ¬ A1 q → H1[q]? = H[q]?) → va_S A0 H0 H1 locs1 → H1[q9]? = some ce → ce.vm = .none → s.vm.findClass E = some ce.cls → ex_W p l e R s m args below meth c H1 locs1 (cells + mc) (slots + ms) Q (F0 m pc ls rest) q9) :
    W p l e R s m args below meth c H locs cells slots Q (F0 m pc ls st0) := by
  intro T hT X
  obtain ⟨o, st, t, T', L, h0, hWs, ⟨⟨u, hu, hB⟩, hz, hk⟩, e1, e2, X', hL, hgo⟩ := hr T hT X
  rw [h0] at hz hk
  have hS' : va_S A0 H0 T'.heap (locs ++ L) := ⟨Nat.le_trans hS.1 (by rw [e1]; exact hz), fun q h1 h2 => by rw [e1, hk q (Nat.lt_of_lt_of_le h1 hS.1) (fun z => h2 (hA q (Nat.lt_of_lt_of_le h1 hS.1) z))]; exact hS.2.1 q h1 h2, fun q hq => by
      rcases List.mem_append.mp hq with h | h
      · exact hS.2.2 q h
      · exact hf _ (hL q h)⟩
  have hal : s.vm.Alike t.vm := by rw [← e2]; exact X'.warmed.alike
  rcases hgo with ⟨v, ho, hs⟩ | ⟨q, ho, hs⟩
  · rcases hu with ⟨v', ho', hp⟩ | ⟨q, E, ce, ho', -⟩
    · rw [ho] at ho'
      cases ho'
      obtain ⟨t2, a1, b1⟩ := kk v u t T'.heap (locs ++ L) e1.symm hal hp hB (by rw [e1]; exact hz) (fun q h1 h2 => by rw [e1]; exact hk q h1 h2) hS' T' rfl X'
      exact ⟨t2, hs.trans a1, b1⟩
    · rw [ho] at ho'
      cases ho'
  · rcases hu with ⟨v', ho', hp⟩ | ⟨q', E, ce, ho', hce, hcv, hcl, hp⟩
    · rw [ho] at ho'
      cases ho'
    · rw [ho] at ho'
      cases ho'
      obtain ⟨t2, a1, b1⟩ := kx E ce q u t T'.heap (locs ++ L) e1.symm hal hp hB (by rw [e1]; exact hz) (fun q h1 h2 => by rw [e1]; exact hk q h1 h2) hS' (by rw [e1]; exact hce) hcv (by rw [← hWs.alike.findClass]; exact hcl) T' rfl X'
      exact ⟨t2, hs.trans a1, b1⟩
/-- not caught here: it goes on to the caller -/
theorem ex_out {pc : Nat} {ls : Array Slot} {q : Addr} (hout : ∀ x ∈ c.exceptionTable.toList, covers x pc = false) (hlocks : meth.locks = false)
    (hq : ∀ t : State, t.heap = H → s.vm.Alike t.vm → Qc args s (.threw q) t) (hf : ∀ z ∈ locs, free z.base) (hc : cells ≤ mc) (hs : slots ≤ ms) :
    ex_W p l e R s m args below meth c H locs cells slots (ex_MQ below Qc args s mc ms free) (F0 m pc ls rest) q := by
  intro T hT X
  obtain ⟨st1, hrun, hend, hW, hsm⟩ := X.leaveThrown q (g := F0 m pc ls rest) rfl rfl rfl hout hlocks
  exact ⟨_, st1, .threw q, hrun, hend, hq _ hT hW.alike, hW, locs, hsm.mono hc hs, hf⟩
end EXB
/-! the statics of Throwable that its constructors read: they hold references, nobody writes them -/
def ex_L (C n d : String) (A : Nat → Prop) (U : State) (H : Heap) : Prop := ∃ (c : ClassId) (k : Class) (i : Nat) (f : Field) (a : Nat) (cell : Cell), U.vm.findClass C = some c ∧ U.fieldFound? C n d = some (c, k, i, f) ∧ f.isStatic = true ∧ k.statics = some a ∧ H[a]? = some cell ∧ cell.vm.isStatics = true ∧ cell.cls = c ∧ f.slot < cell.slots.size ∧ k.staticTypes[f.slot]? = some f.type ∧ (∃ v : Value, cell.slots[f.slot]? = some v ∧ v.isRef = true) ∧ ¬ A a
theorem ex_L.moved {C n d : String} {A : Nat → Prop} {u U : State} {H : Heap} (hvm : u.vm.Alike U.vm) (h : ex_L C n d A u H) : ex_L C n d A U H := by
  obtain ⟨c, k, i, f, a, cell, h0, h1, h2, h3, h4, h5, h6, h7, h8, h9⟩ := h
  obtain ⟨k', hi', he⟩ := State.fieldFound?_setVm hvm h1
  exact ⟨c, k', i, f, a, cell, by rw [hvm.findClass]; exact h0, hi', h2, by rw [he]; exact h3, h4, h5, h6, h7, by rw [he]; exact h8, h9⟩
theorem ex_L.kept {C n d : String} {A : Nat → Prop} {U : State} {H H1 : Heap} (h : ex_L C n d A U H) (hq : ∀ a : Nat, a < H.size → ¬ A a → H1[a]? = H[a]?) : ex_L C n d A U H1 := by
  obtain ⟨c, k, i, f, a, cell, h0, h1, h2, h3, h4, h5, h6, h7, h8, h9, h10⟩ := h
  exact ⟨c, k, i, f, a, cell, h0, h1, h2, h3, by rw [hq a (Array.getElem?_eq_some_iff.mp h4).1 h10]; exact h4, h5, h6, h7, h8, h9, h10⟩
theorem ex_L.narrow {C n d : String} {A B : Nat → Prop} {U : State} {H : Heap} (h : ex_L C n d A U H) (hAB : ∀ q, B q → A q) : ex_L C n d B U H := by
  obtain ⟨c, k, i, f, a, cell, h0, h1, h2, h3, h4, h5, h6, h7, h8, h9, h10⟩ := h
  exact ⟨c, k, i, f, a, cell, h0, h1, h2, h3, h4, h5, h6, h7, h8, h9, fun z => h10 (hAB a z)⟩
theorem ex_L.of {args : Array Value} {s : State} {C n d : String} {A : Nat → Prop} (hl : (Cond.laysStatic C n d).before args s = true) (hr : (Cond.isRef (.static C n d)).before args s = true) (hA : ∀ a : Nat, a < s.heap.size → ¬ A a) : ex_L C n d A s s.heap := by
  obtain ⟨c, k, i, f, a, cell, hc, hi, hst, ha, hcell, hs, hcls, hlt, hty⟩ := Cond.laysStatic_spec hl
  have hv : ∃ v : Value, (Term.static C n d).eval args s none [] s = some v ∧ v.isRef = true := by
    simp only [Cond.before, Cond.holds, Cond.value] at hr
    cases hv : (Term.static C n d).eval args s none [] s with
    | none => simp [hv] at hr
    | some w => cases w <;> simp_all [Value.isRef]
  obtain ⟨v, hv, hvr⟩ := hv
  obtain ⟨hst', a', cell', ha', hcell', -, hslot⟩ := Term.static_spec hi hv
  cases ha.symm.trans ha'
  cases hcell.symm.trans hcell'
  exact ⟨c, k, i, f, a, cell, hc, hi, hst, ha, hcell, hs, hcls, hlt, hty, ⟨v, hslot, hvr⟩, hA a (Array.getElem?_eq_some_iff.mp hcell).1⟩
theorem ex_L.lays {C n d : String} {A : Nat → Prop} {s : State} {args : Array Value} (h : ex_L C n d A s s.heap) : (Cond.laysStatic C n d).before args s = true := by
  obtain ⟨c, k, i, f, a, cell, h0, h1, h2, h3, h4, h5, h6, h7, h8, h9⟩ := h
  simp [Cond.before, Cond.holds, Cond.value, h0, h1, h2, h3, h4, h5, h6, h7, h8]
theorem ex_L.isRef {C n d : String} {A : Nat → Prop} {s : State} {args : Array Value} (h : ex_L C n d A s s.heap) : (Cond.isRef (.static C n d)).before args s = true := by
  obtain ⟨c, k, i, f, a, cell, h0, h1, h2, h3, h4, h5, h6, h7, h8, ⟨v, h9, h10⟩, -⟩ := h
  have hv : (Term.static C n d).eval args s none [] s = some v := by
    simp [Term.eval, State.fieldNamed?, h1, h2, h3, h4, h5, h9]
  simp only [Cond.before, Cond.holds, Cond.value, hv]
  cases v <;> simp_all [Value.isRef]
/-! the search for a handler, with catch classes resolved on the way -/
section EXH
variable {Q : Handler → Pre} {E : CtlPost} {e : Env} {d : Bool} {acts : List Action} {S s0 : State} {f : JFrame} {a : Addr} {cell : Cell}
theorem ex_row {z : ExceptionTableEntry} {t : List ExceptionTableEntry} {cz : ClassId} (hz : covers z f.pc = true) (h0 : z.catchType ≠ 0) (hl : S.vm.ClassLinks e.platform f.method.cls z.catchType cz)
    (hcell : S.heap[a]? = some cell) (hobj : ∀ k, cell.vm ≠ .statics k) (hk : ∃ k, S.vm.classes[cell.cls]? = some k) (hc : ∃ k, S.vm.classes[cz]? = some k) :
    wp (findHandler.go f a (z :: t)) Q E e d acts S ↔
      if S.vm.assignable cell.cls cz = true then Q (.found z.handlerPc) d acts (S.setVm (S.vm.noted f.method.cls z.catchType (.cls cz))) else wp (findHandler.go f a t) Q E e d acts (S.setVm (S.vm.noted f.method.cls z.catchType (.cls cz))) := by
  simp only [covers] at hz
  obtain ⟨ha, ht⟩ := (resolveClass_links e.toSetting hl).op (op := VmOp.resolveClass f.method.cls z.catchType) rfl
  have hal : S.vm.Alike (S.vm.noted f.method.cls z.catchType (.cls cz)) := (Vm.Alike.refl S.vm).noted _ _ _
  obtain ⟨k1, hk1⟩ := hk
  obtain ⟨k2, hk2⟩ := hc
  obtain ⟨k1', hk1', -⟩ := hal.2.2 _ _ hk1
  obtain ⟨k2', hk2', -⟩ := hal.2.2 _ _ hk2
  have hfe : (S.vm.noted f.method.cls z.catchType (.cls cz)).assignable cell.cls cz = S.vm.assignable cell.cls cz := by rw [hal.assignable]
  cases hfit : S.vm.assignable cell.cls cz <;> rw [hfit] at hfe <;>
    simp [findHandler.go, hz, h0, ha, ht, hcell, hobj, hk1', hk2', hfe, VmOp.dirties, VmOp.acts]
theorem ex_go (hobj : ∀ k, cell.vm ≠ .statics k) (hk0 : ∃ k, s0.vm.classes[cell.cls]? = some k) {x : ExceptionTableEntry} {rest : List ExceptionTableEntry} {cx : ClassId} (hx : covers x f.pc = true) (h0 : x.catchType ≠ 0)
    (hl : s0.vm.ClassLinks e.platform f.method.cls x.catchType cx) (hfit : s0.vm.assignable cell.cls cx = true) :
    ∀ (pre : List ExceptionTableEntry) (S : State), s0.WarmedH S.vm → S.heap[a]? = some cell →
      (∀ z ∈ pre, covers z f.pc = false ∨ (z.catchType ≠ 0 ∧ ∃ cz, s0.vm.ClassLinks e.platform f.method.cls z.catchType cz ∧ s0.vm.assignable cell.cls cz = false)) →
      ∃ vm', s0.WarmedH vm' ∧ ∀ (Q : Handler → Pre) (E : CtlPost) (d : Bool) (acts : List Action), wp (findHandler.go f a (pre ++ x :: rest)) Q E e d acts S ↔ Q (.found x.handlerPc) d acts (S.setVm vm') := by
  obtain ⟨k0, hk0⟩ := hk0
  have row : ∀ {z : ExceptionTableEntry} {cz : ClassId} {S : State}, s0.WarmedH S.vm → s0.vm.ClassLinks e.platform f.method.cls z.catchType cz →
      S.vm.ClassLinks e.platform f.method.cls z.catchType cz ∧ (∃ k, S.vm.classes[cell.cls]? = some k) ∧ (∃ k, S.vm.classes[cz]? = some k) ∧ s0.WarmedH (S.vm.noted f.method.cls z.catchType (.cls cz)) := by
    intro z cz S hW hlz
    obtain ⟨k0', hk0', -⟩ := hW.alike.2.2 _ _ hk0
    obtain ⟨dk, _, _, kt, hd, _, _, _, _, hkt, _, hopen⟩ := hlz.here
    obtain ⟨kt', hkt', -⟩ := hW.alike.2.2 _ _ hkt
    exact ⟨hW.classLinks hlz, ⟨k0', hk0'⟩, ⟨kt', hkt'⟩, hW.noted hd hopen (State.rightAt_cls hlz)⟩
  intro pre
  induction pre with
  | nil =>
    intro S hW hcell _
    obtain ⟨r1, r2, r3, r4⟩ := row hW hl
    refine ⟨_, r4, fun Q E d acts => ?_⟩
    rw [List.nil_append, ex_row hx h0 r1 hcell hobj r2 r3, if_pos (by rw [hW.alike.assignable]; exact hfit)]
  | cons z zs ih =>
    intro S hW hcell hpass
    have hrest := fun w hw => hpass w (List.mem_cons_of_mem _ hw)
    rcases Bool.eq_false_or_eq_true (covers z f.pc) with hcov | hcov
    · rcases hpass z (List.mem_cons_self ..) with h | ⟨hz0, cz, hlz, hno⟩
      · rw [h] at hcov; cases hcov
      · obtain ⟨r1, r2, r3, r4⟩ := row hW hlz
        obtain ⟨vm', hW', hq⟩ := ih (S.setVm (S.vm.noted f.method.cls z.catchType (.cls cz))) r4 hcell hrest
        refine ⟨vm', hW', fun Q E d acts => ?_⟩
        rw [List.cons_append, ex_row hcov hz0 r1 hcell hobj r2 r3, if_neg (by rw [hW.alike.assignable, hno]; decide)]
        exact hq Q E d acts
    · obtain ⟨vm', hW', hq⟩ := ih S hW hcell hrest
      refine ⟨vm', hW', fun Q E d acts => ?_⟩
      rw [List.cons_append, W.findHandler_go_skip hcov]
      exact hq Q E d acts
end EXH
section EXC
variable {p : Program} {l : Launch} {e : Env} {R : Room} {s : State} {m : MethodId} {args : Array Value} {below : List Frame} {meth : Method} {c : Code} {H : Heap} {locs : List Loc} {cells slots : Nat} {Q : State → Prop} {pc : Nat} {ls : Array Slot} {rest : List Value}
/-- caught by the row x of the method's table, past rows of other classes -/
theorem ex_catch {own name E : String} {ce : Cell} {q : Addr} (hown : s.vm.findClass own = some m.cls) (pre : List ExceptionTableEntry) (x : ExceptionTableEntry) (suf : List ExceptionTableEntry) (hsplit : c.exceptionTable.toList = pre ++ x :: suf)
    (hpass : ∀ z ∈ pre, covers z pc = false ∨ (z.catchType ≠ 0 ∧ ∃ nm : String, (Cond.classLink own z.catchType nm).before args s = true ∧ va_Nc E nm s)) (hx : covers x pc = true) (h0 : x.catchType ≠ 0)
    (hlink : (Cond.classLink own x.catchType name).before args s = true) (hcast : (Cond.castable E name).before args s = true) (hcell : H[q]? = some ce) (hv : ce.vm = .none) (hcl : s.vm.findClass E = some ce.cls)
    (kk : W p l e R s m args below meth c H locs cells slots Q (F0 m x.handlerPc ls [.ref q])) : ex_W p l e R s m args below meth c H locs cells slots Q (F0 m pc ls rest) q := by
  intro T hT X
  have hpl : e.platform.magicAccessors = ({} : Platform).magicAccessors := by rw [X.admits.platform]
  obtain ⟨c3, c4, hc3, hc4, hasg⟩ := Cond.castable_spec hcast
  cases Option.some.inj (hc3.symm.trans hcl)
  obtain ⟨c5, hc5, hcl5⟩ := Cond.classLink_spec hown hlink e.platform hpl
  cases Option.some.inj (hc4.symm.trans hc5)
  obtain ⟨k9, h9, -⟩ := Vm.findClass_spec hcl
  have hcellT : ((T.setTop (F0 m pc ls rest)).pushFrame (.throwing q)).heap[q]? = some ce := by rw [Stand.throwing_heap, hT]; exact hcell
  obtain ⟨vm', hW', hgo⟩ := ex_go (e := e) (s0 := s) (f := F0 m pc ls rest) (a := q) (cell := ce) (rest := suf) (fun k h => by rw [hv] at h; cases h) ⟨k9, h9⟩ hx h0 hcl5 hasg pre ((T.setTop (F0 m pc ls rest)).pushFrame (.throwing q)) (by rw [Stand.throwing_vm]; exact X.warmed) hcellT
    (fun z hz => by
      rcases hpass z hz with h | ⟨hz0, nm, hl1, hn1⟩
      · exact Or.inl h
      · obtain ⟨c6, hc6, hcl6⟩ := Cond.classLink_spec hown hl1 e.platform hpl
        obtain ⟨a8, b8, h1, h2, h3⟩ := hn1
        cases Option.some.inj (h1.symm.trans hcl)
        cases Option.some.inj (h2.symm.trans hc6)
        exact Or.inr ⟨hz0, _, hcl6, h3⟩)
  obtain ⟨t, a1, b1⟩ := kk (T.setVm vm') hT (X.noted hW')
  refine ⟨t, ?_, b1⟩
  have hAt : At T m c below := X.here
  obtain ⟨hgo1, hw1⟩ := hAt.throwing (g := F0 m pc ls rest) q
  refine Steps.head hgo1 hw1 ?_
  have hfind : ∀ (Q : Handler → Pre) (E : CtlPost) (d : Bool) (acts : List Action), wp (findHandler (F0 m pc ls rest) q) Q E e d acts ((T.setTop (F0 m pc ls rest)).pushFrame (.throwing q)) ↔ Q (.found x.handlerPc) d acts (((T.setTop (F0 m pc ls rest)).pushFrame (.throwing q)).setVm vm') := by
    intro Q E d acts
    rw [W.findHandler_eq (meth := meth) (code := c) (by rw [Stand.throwing_vm]; exact X.method') X.code, hsplit]
    exact hgo Q E d acts
  have hstep : (stepThrowing e ((T.setTop (F0 m pc ls rest)).pushFrame (.throwing q)) q (.java (F0 m pc ls rest) :: T.frames.tail)).Is ((((T.setTop (F0 m pc ls rest)).pushFrame (.throwing q)).setVm vm').setFrames (.java { F0 m pc ls rest with pc := x.handlerPc, stack := [.ref q] } :: T.frames.tail)) [] := by
    simp only [stepThrowing, searchFrame, vmDo]
    generalize hr : Sem.go _ e false [] ((T.setTop (F0 m pc ls rest)).pushFrame (.throwing q)) = res
    obtain ⟨as, rfl, ha⟩ := Sem.eq_ok_of hr (a := Handler.found x.handlerPc) (s' := ((T.setTop (F0 m pc ls rest)).pushFrame (.throwing q)).setVm vm') (acts' := []) (by simp [hfind _ _ _ _])
    exact ⟨rfl, ha⟩
  rw [stepThread_throwing (frames_entered hAt.top _), hstep.1]
  obtain ⟨g₀, hr⟩ := X.frames_eq
  have hr' : (T.setVm vm').frames = .java g₀ :: below := hr
  rw [State.setTop_of_frames _ hr'] at a1
  have hfin : (((T.setTop (F0 m pc ls rest)).pushFrame (.throwing q)).setVm vm').setFrames (.java { F0 m pc ls rest with pc := x.handlerPc, stack := [.ref q] } :: T.frames.tail) = (T.setVm vm').setFrames (.java (F0 m x.handlerPc ls [.ref q]) :: below) := by
    rw [X.tail, State.pushFrame, State.setTop_of_frames _ hr]
    have e1 : ∀ (u : State) (F G : List Frame), ((u.setFrames F).setVm vm').setFrames G = (u.setVm vm').setFrames G := by
      intro u F G
      have h1 : (u.setFrames F).setVm vm' = (u.setVm vm').setFrames F := rfl
      rw [h1, State.setFrames_setFrames]
    rw [e1, e1]
  rw [hfin]
  exact a1
end EXC
end
section
/-! Own wrappers: rows with natural numbers in them, booleans, loops. -/
def bI (b : Bool) : Int32 := if b = true then 1 else 0
theorem bI_t : bI true = 1 := rfl
theorem bI_f : bI false = 0 := rfl
theorem bI_0 {b : Bool} (h : bI b = 0) : b = false := by
  cases b
  · rfl
  · exact absurd h (by decide)
theorem bI_n0 {b : Bool} (h : ¬ bI b = 0) : b = true := by
  cases b
  · exact absurd rfl h
  · rfl
theorem bI_narrow (b : Bool) : narrow .boolean (.int (bI b)) = .int (bI b) := by cases b <;> rfl
theorem bI_fits (b : Bool) : fits .boolean (.int (bI b)) = true := by cases b <;> rfl
section WB
variable {p : Program} {l : Launch} {e : Env} {R : Room} {s : State} {m : MethodId} {args : Array Value} {below : List Frame} {meth : Method} {c : Code} {H : Heap} {locs : List Loc} {cells slots : Nat} {Q : State → Prop}
variable {cc : ByteArray} {pc : Nat} {ls : Array Slot} {rest : List Value} {D : va_G} {cl : List vw_C} {A : Nat → Prop} {a : Nat} {tys : List (ClassId × FieldType)} {ws : va_W} {H0 : Heap}
theorem wb_iald (hexec : p.tables.exec = Jvm.exec) (hb : c.code = cc) (hK : va_K D cl tys s) (hP : va_P D cl ws H) (q0 t0 : Nat) {cA : ClassId} {n : Nat} {f : Nat → Int32} (ha : ws[q0]? = some (a, .inl (cA, n, .inl f))) (ht : tys[t0]? = some (cA, .int)) {i : Int32} (j : Nat) (hi : i = nI j) (hj : j < n) (hn : n < 2 ^ 31) (hdg : decode cc pc = .ok (.iaload, 1))
    (kk : W p l e R s m args below meth c H locs cells slots Q (F0 m (pc + 1) ls (.int (f j) :: rest))) : W p l e R s m args below meth c H locs cells slots Q (F0 m pc ls (.int i :: .ref a :: rest)) := by
  subst hi
  refine va_iald hexec hb hK hP q0 t0 ha ht (vp_in_nI hj hn) hdg ?_
  rw [nI_clamp (Nat.lt_trans hj hn)]
  exact kk
theorem wb_iast (hexec : p.tables.exec = Jvm.exec) (hb : c.code = cc) (hK : va_K D cl tys s) (hP : va_P D cl ws H) (hD : va_D A ws) (hS : va_S A H0 H locs) (q0 t0 : Nat) {cA : ClassId} {n : Nat} {f : Nat → Int32} (ha : ws[q0]? = some (a, .inl (cA, n, .inl f))) (ht : tys[t0]? = some (cA, .int)) {i : Int32} {x : Int32} (j : Nat) (hi : i = nI j) (hj : j < n) (hn : n < 2 ^ 31) (hdg : decode cc pc = .ok (.iastore, 1))
    (kk : ∀ (H1 : Heap) (locs1 : List Loc), va_P D cl (ws.set q0 (a, .inl (cA, n, .inl (upd f j x)))) H1 → va_D A (ws.set q0 (a, .inl (cA, n, .inl (upd f j x)))) → va_S A H0 H1 locs1 → W p l e R s m args below meth c H1 locs1 cells slots Q (F0 m (pc + 1) ls rest)) : W p l e R s m args below meth c H locs cells slots Q (F0 m pc ls (.int x :: .int i :: .ref a :: rest)) := by
  subst hi
  refine va_iast hexec hb hK hP hD hS q0 t0 ha ht (vp_in_nI hj hn) hdg ?_
  rw [nI_clamp (Nat.lt_trans hj hn)]
  exact kk
theorem wb_iadd (hexec : p.tables.exec = Jvm.exec) (hb : c.code = cc) {x y : Int32} (i j : Nat) (hx : x = nI i) (hy : y = nI j) (hdg : decode cc pc = .ok (.iadd, 1))
    (k : W p l e R s m args below meth c H locs cells slots Q (F0 m (pc + 1) ls (.int (nI (i + j)) :: rest))) : W p l e R s m args below meth c H locs cells slots Q (F0 m pc ls (.int y :: .int x :: rest)) := by
  subst hx; subst hy
  refine lv_iadd hexec hb hdg ?_
  rw [nI_add]
  exact k
theorem wb_isub (hexec : p.tables.exec = Jvm.exec) (hb : c.code = cc) {x y : Int32} (i j : Nat) (hx : x = nI i) (hy : y = nI j) (hij : j ≤ i) (hdg : decode cc pc = .ok (.isub, 1))
    (k : W p l e R s m args below meth c H locs cells slots Q (F0 m (pc + 1) ls (.int (nI (i - j)) :: rest))) : W p l e R s m args below meth c H locs cells slots Q (F0 m pc ls (.int y :: .int x :: rest)) := by
  subst hx; subst hy
  refine lv_isub hexec hb hdg ?_
  rw [pk_sub hij]
  exact k
theorem wb_if_eqb (hexec : p.tables.exec = Jvm.exec) (hb : c.code = cc) {x : Int32} (b : Bool) (hx : x = bI b) {off : Int} {tgt : Nat} (hdg : decode cc pc = .ok (.ifCond .eq off, 3)) (ht : (pc : Int) + off = (tgt : Int))
    (kt : b = false → W p l e R s m args below meth c H locs cells slots Q (F0 m tgt ls rest)) (kf : b = true → W p l e R s m args below meth c H locs cells slots Q (F0 m (pc + 3) ls rest)) : W p l e R s m args below meth c H locs cells slots Q (F0 m pc ls (.int x :: rest)) :=
  lv_if_eq hexec hb hdg ht (fun h => kt (bI_0 (hx ▸ h))) (fun h => kf (bI_n0 (hx ▸ h)))
theorem wb_if_neb (hexec : p.tables.exec = Jvm.exec) (hb : c.code = cc) {x : Int32} (b : Bool) (hx : x = bI b) {off : Int} {tgt : Nat} (hdg : decode cc pc = .ok (.ifCond .ne off, 3)) (ht : (pc : Int) + off = (tgt : Int))
    (kt : b = true → W p l e R s m args below meth c H locs cells slots Q (F0 m tgt ls rest)) (kf : b = false → W p l e R s m args below meth c H locs cells slots Q (F0 m (pc + 3) ls rest)) : W p l e R s m args below meth c H locs cells slots Q (F0 m pc ls (.int x :: rest)) :=
  lv_if_ne hexec hb hdg ht (fun h => kt (bI_n0 (hx ▸ h))) (fun h => kf (bI_0 (hx ▸ h)))
theorem wb_icmp_lt (hexec : p.tables.exec = Jvm.exec) (hb : c.code = cc) {x y : Int32} (i j : Nat) (hx : x = nI i) (hy : y = nI j) (hi : i < 2 ^ 31) (hj : j < 2 ^ 31) {off : Int} {tgt : Nat} (hdg : decode cc pc = .ok (.if_icmp .lt off, 3)) (ht : (pc : Int) + off = (tgt : Int))
    (kt : i < j → W p l e R s m args below meth c H locs cells slots Q (F0 m tgt ls rest)) (kf : j ≤ i → W p l e R s m args below meth c H locs cells slots Q (F0 m (pc + 3) ls rest)) : W p l e R s m args below meth c H locs cells slots Q (F0 m pc ls (.int y :: .int x :: rest)) := by
  subst hx; subst hy
  exact lv_icmp_lt hexec hb hdg ht (fun h => kt ((nI_ltI hi hj).mp h)) (fun h => kf (Nat.not_lt.mp fun q => h ((nI_ltI hi hj).mpr q)))
theorem wb_icmp_ge (hexec : p.tables.exec = Jvm.exec) (hb : c.code = cc) {x y : Int32} (i j : Nat) (hx : x = nI i) (hy : y = nI j) (hi : i < 2 ^ 31) (hj : j < 2 ^ 31) {off : Int} {tgt : Nat} (hdg : decode cc pc = .ok (.if_icmp .ge off, 3)) (ht : (pc : Int) + off = (tgt : Int))
    (kt : j ≤ i → W p l e R s m args below meth c H locs cells slots Q (F0 m tgt ls rest)) (kf : i < j → W p l e R s m args below meth c H locs cells slots Q (F0 m (pc + 3) ls rest)) : W p l e R s m args below meth c H locs cells slots Q (F0 m pc ls (.int y :: .int x :: rest)) := by
  subst hx; subst hy
  exact lv_icmp_ge hexec hb hdg ht (fun h => kt ((nI_leI hj hi).mp h)) (fun h => kf (Nat.not_le.mp fun q => h ((nI_leI hj hi).mpr q)))
theorem wb_icmp_gt (hexec : p.tables.exec = Jvm.exec) (hb : c.code = cc) {x y : Int32} (i j : Nat) (hx : x = nI i) (hy : y = nI j) (hi : i < 2 ^ 31) (hj : j < 2 ^ 31) {off : Int} {tgt : Nat} (hdg : decode cc pc = .ok (.if_icmp .gt off, 3)) (ht : (pc : Int) + off = (tgt : Int))
    (kt : j < i → W p l e R s m args below meth c H locs cells slots Q (F0 m tgt ls rest)) (kf : i ≤ j → W p l e R s m args below meth c H locs cells slots Q (F0 m (pc + 3) ls rest)) : W p l e R s m args below meth c H locs cells slots Q (F0 m pc ls (.int y :: .int x :: rest)) := by
  subst hx; subst hy
  exact lv_icmp_gt hexec hb hdg ht (fun h => kt ((nI_ltI hj hi).mp h)) (fun h => kf (Nat.not_lt.mp fun q => h ((nI_ltI hj hi).mpr q)))
theorem wb_icmp_le (hexec : p.tables.exec = Jvm.exec) (hb : c.code = cc) {x y : Int32} (i j : Nat) (hx : x = nI i) (hy : y = nI j) (hi : i < 2 ^ 31) (hj : j < 2 ^ 31) {off : Int} {tgt : Nat} (hdg : decode cc pc = .ok (.if_icmp .le off, 3)) (ht : (pc : Int) + off = (tgt : Int))
    (kt : i ≤ j → W p l e R s m args below meth c H locs cells slots Q (F0 m tgt ls rest)) (kf : j < i → W p l e R s m args below meth c H locs cells slots Q (F0 m (pc + 3) ls rest)) : W p l e R s m args below meth c H locs cells slots Q (F0 m pc ls (.int y :: .int x :: rest)) := by
  subst hx; subst hy
  exact lv_icmp_le hexec hb hdg ht (fun h => kt ((nI_leI hi hj).mp h)) (fun h => kf (Nat.not_le.mp fun q => h ((nI_leI hi hj).mpr q)))
theorem wb_icmp_eq (hexec : p.tables.exec = Jvm.exec) (hb : c.code = cc) {x y : Int32} (i j : Nat) (hx : x = nI i) (hy : y = nI j) (hi : i < 2 ^ 31) (hj : j < 2 ^ 31) {off : Int} {tgt : Nat} (hdg : decode cc pc = .ok (.if_icmp .eq off, 3)) (ht : (pc : Int) + off = (tgt : Int))
    (kt : i = j → W p l e R s m args below meth c H locs cells slots Q (F0 m tgt ls rest)) (kf : i ≠ j → W p l e R s m args below meth c H locs cells slots Q (F0 m (pc + 3) ls rest)) : W p l e R s m args below meth c H locs cells slots Q (F0 m pc ls (.int y :: .int x :: rest)) := by
  subst hx; subst hy
  exact lv_icmp_eq hexec hb hdg ht (fun h => kt ((nI_eq hi hj).mp h)) (fun h => kf fun q => h ((nI_eq hi hj).mpr q))
theorem wb_icmp_ne (hexec : p.tables.exec = Jvm.exec) (hb : c.code = cc) {x y : Int32} (i j : Nat) (hx : x = nI i) (hy : y = nI j) (hi : i < 2 ^ 31) (hj : j < 2 ^ 31) {off : Int} {tgt : Nat} (hdg : decode cc pc = .ok (.if_icmp .ne off, 3)) (ht : (pc : Int) + off = (tgt : Int))
    (kt : i ≠ j → W p l e R s m args below meth c H locs cells slots Q (F0 m tgt ls rest)) (kf : i = j → W p l e R s m args below meth c H locs cells slots Q (F0 m (pc + 3) ls rest)) : W p l e R s m args below meth c H locs cells slots Q (F0 m pc ls (.int y :: .int x :: rest)) := by
  subst hx; subst hy
  exact lv_icmp_ne hexec hb hdg ht (fun h => kt fun q => h ((nI_eq hi hj).mpr q)) (fun h => kf ((nI_eq hi hj).mp h))
/-- a loop over its head, the heap as it comes -/
theorem wb_loop {σ : Type} (pc : Nat) (I : σ → Heap → List Loc → Array Slot → Prop) (μ : σ → Nat)
    (hs : ∀ (x : σ) (H : Heap) (locs : List Loc) (ls : Array Slot), I x H locs ls → (∀ (x' : σ) (H' : Heap) (locs' : List Loc) (ls' : Array Slot), I x' H' locs' ls' → μ x' < μ x → W p l e R s m args below meth c H' locs' cells slots Q (F0 m pc ls' [])) → W p l e R s m args below meth c H locs cells slots Q (F0 m pc ls []))
    (x : σ) (H : Heap) (locs : List Loc) (ls : Array Slot) (h : I x H locs ls) : W p l e R s m args below meth c H locs cells slots Q (F0 m pc ls []) := by
  have key : ∀ (n : Nat) (x : σ) (H : Heap) (locs : List Loc) (ls : Array Slot), μ x < n → I x H locs ls → W p l e R s m args below meth c H locs cells slots Q (F0 m pc ls []) := by
    intro n
    induction n with
    | zero => intro x H locs ls hn; exact absurd hn (Nat.not_lt_zero _)
    | succ n ih =>
      intro x H locs ls hn hI
      exact hs x H locs ls hI fun x' H' locs' ls' hI' hlt => ih x' H' locs' ls' (by omega) hI'
  exact key (μ x + 1) x H locs ls (Nat.lt_succ_self _) h
/-- a loop that leaves the heap alone -/
theorem wb_loopP {σ : Type} (pc : Nat) (I : σ → Array Slot → Prop) (μ : σ → Nat)
    (hs : ∀ (x : σ) (ls : Array Slot), I x ls → (∀ (x' : σ) (ls' : Array Slot), I x' ls' → μ x' < μ x → W p l e R s m args below meth c H locs cells slots Q (F0 m pc ls' [])) → W p l e R s m args below meth c H locs cells slots Q (F0 m pc ls []))
    (x : σ) (ls : Array Slot) (h : I x ls) : W p l e R s m args below meth c H locs cells slots Q (F0 m pc ls []) := by
  have key : ∀ (n : Nat) (x : σ) (ls : Array Slot), μ x < n → I x ls → W p l e R s m args below meth c H locs cells slots Q (F0 m pc ls []) := by
    intro n
    induction n with
    | zero => intro x ls hn; exact absurd hn (Nat.not_lt_zero _)
    | succ n ih =>
      intro x ls hn hI
      exact hs x ls hI fun x' ls' hI' hlt => ih x' ls' (by omega) hI'
  exact key (μ x + 1) x ls (Nat.lt_succ_self _) h
end WB
end
section
/-! Own wrappers for calls: read-only ones, and ones that give a new picture of their cells. -/
/-- a world that a method only reads -/
def PB (D : va_G) (cl : List vw_C) (ws : va_W) (tys : List (ClassId × FieldType)) : State → Prop := fun U => va_P D cl ws U.heap ∧ va_K D cl tys U
/-- a world that a method changes: the heap's size is known, the cells are apart -/
def PM (D : va_G) (cl : List vw_C) (ws : va_W) (tys : List (ClassId × FieldType)) (sz : Nat) : State → Prop := fun U => U.heap.size = sz ∧ va_P D cl ws U.heap ∧ va_K D cl tys U ∧ va_D (fun _ => True) ws
/-- what it leaves -/
def MB {S : Type} (D : va_G) (cl : List vw_C) (wp : S → va_W) (tys : List (ClassId × FieldType)) (A : Nat → Prop) : S → State → Prop := fun u t => va_P D cl (wp u) t.heap ∧ va_K D cl tys t ∧ va_D A (wp u)
theorem PB_blind {av : List Value} {D : va_G} {cl : List vw_C} {ws : va_W} {tys : List (ClassId × FieldType)} : FrameBlind (va_Pc av (PB D cl ws tys)) :=
  fun a U g mk q => ⟨q.1, q.2.1, va_K.moved (u := U) (U := U.calling g mk a) (Vm.Alike.refl U.vm) q.2.2⟩
theorem PM_blind {av : List Value} {D : va_G} {cl : List vw_C} {ws : va_W} {tys : List (ClassId × FieldType)} {sz : Nat} : FrameBlind (va_Pc av (PM D cl ws tys sz)) :=
  fun a U g mk q => ⟨q.1, q.2.1, q.2.2.1, va_K.moved (u := U) (U := U.calling g mk a) (Vm.Alike.refl U.vm) q.2.2.2.1, q.2.2.2.2⟩
section WC
variable {p : Program} {l : Launch} {e : Env} {R : Room} {s : State} {m : MethodId} {args : Array Value} {below : List Frame} {meth : Method} {c : Code} {H : Heap} {locs : List Loc} {cells slots : Nat} {Q : State → Prop}
variable {y : MethodName} {bytes cc : ByteArray} {maxL nL mc ms n index : Nat} {ret : Option FieldType} {ws : List Cond} {rm : Room} {Ts : List Cond} {own C : String} {b : Addr} {As rest st0 : List Value} {pc : Nat} {ls : Array Slot}
variable {D : va_G} {cl : List vw_C} {wc : va_W} {tc tys : List (ClassId × FieldType)}
theorem PB_S (hK : va_K D cl tc s) (hP : va_P D cl wc H) : PreS s H (va_Pc As (PB D cl wc tc)) As :=
  ⟨PB_blind, fun U hU hW => ⟨rfl, by rw [hU]; exact hP, va_K.moved hW.alike hK⟩⟩
theorem PB_V {ci q0 : Nat} {fs : List Value} {T : u_T} {N : Nat} (hK : va_K D cl tc s) (hP : va_P D cl wc H) (hc : cl[ci]? = some (C, T, N)) (he : wc[q0]? = some (b, .inr (ci, fs))) : PreV s H C b (va_Pc (.ref b :: As) (PB D cl wc tc)) As :=
  ⟨PB_blind, va_recv hK hP hc he, fun U hU hW => ⟨rfl, by rw [hU]; exact hP, va_K.moved hW.alike hK⟩⟩
/-- a read-only virtual call with an int for an answer -/
theorem rdV {x : Int32} {ci q0 : Nat} {fs : List Value} {T : u_T} {N : Nat} (S : CallFix p m c cc nL s args Ts own) (hM : Met l y ws rm (va_Pc (.ref b :: As) (PB D cl wc tc)) (vp_Si (fun r => r = x)) 0 0 (fun _ => False)) (cw : CallW R s args own C index y bytes maxL ret ws rm 0 0 n)
    (hK : va_K D cl tc s) (hP : va_P D cl wc H) (hc : cl[ci]? = some (C, T, N)) (he : wc[q0]? = some (b, .inr (ci, fs))) (hn : As.length = n) (hsize : ls.size = nL) (hst : st0 = As.reverse ++ .ref b :: rest) (hW : 2 * (F0 m pc ls rest).monitorRoom + (rest.map fun v => v.category).sum ≤ 8) (hdg : decode cc pc = .ok (.invokevirtual index, 3)) (hf : cells + 0 ≤ R.cells ∧ slots + 0 ≤ R.slots)
    (kk : W p l e R s m args below meth c H locs cells slots Q (F0 m (pc + 3) ls (.int x :: rest))) : W p l e R s m args below meth c H locs cells slots Q (F0 m pc ls st0) :=
  vp_callSi (W.runV (g := F0 m pc ls st0) S hM cw (PB_V hK hP hc he) rfl hn hsize hst hW hdg hf) (fun r hr => hr ▸ kk)
theorem rdVd {x : UInt64} {ci q0 : Nat} {fs : List Value} {T : u_T} {N : Nat} (S : CallFix p m c cc nL s args Ts own) (hM : Met l y ws rm (va_Pc (.ref b :: As) (PB D cl wc tc)) (vp_Sd (fun r => r = x)) 0 0 (fun _ => False)) (cw : CallW R s args own C index y bytes maxL ret ws rm 0 0 n)
    (hK : va_K D cl tc s) (hP : va_P D cl wc H) (hc : cl[ci]? = some (C, T, N)) (he : wc[q0]? = some (b, .inr (ci, fs))) (hn : As.length = n) (hsize : ls.size = nL) (hst : st0 = As.reverse ++ .ref b :: rest) (hW : 2 * (F0 m pc ls rest).monitorRoom + (rest.map fun v => v.category).sum ≤ 8) (hdg : decode cc pc = .ok (.invokevirtual index, 3)) (hf : cells + 0 ≤ R.cells ∧ slots + 0 ≤ R.slots)
    (kk : W p l e R s m args below meth c H locs cells slots Q (F0 m (pc + 3) ls (.double x :: rest))) : W p l e R s m args below meth c H locs cells slots Q (F0 m pc ls st0) :=
  vp_callSd (W.runV (g := F0 m pc ls st0) S hM cw (PB_V hK hP hc he) rfl hn hsize hst hW hdg hf) (fun r hr => hr ▸ kk)
/-- a read-only static call -/
theorem rdS {x : Int32} (S : CallFix p m c cc nL s args Ts own) (hM : Met l y ws rm (va_Pc As (PB D cl wc tc)) (vp_Si (fun r => r = x)) 0 0 (fun _ => False)) (cw : CallB R s args own index y bytes maxL ret ws rm 0 0 n ∧ (Cond.static y).before args s = true)
    (hK : va_K D cl tc s) (hP : va_P D cl wc H) (hn : As.length = n) (hsize : ls.size = nL) (hst : st0 = As.reverse ++ rest) (hW : 2 * (F0 m pc ls rest).monitorRoom + (rest.map fun v => v.category).sum ≤ 8) (hdg : decode cc pc = .ok (.invokestatic index, 3)) (hf : cells + 0 ≤ R.cells ∧ slots + 0 ≤ R.slots)
    (kk : W p l e R s m args below meth c H locs cells slots Q (F0 m (pc + 3) ls (.int x :: rest))) : W p l e R s m args below meth c H locs cells slots Q (F0 m pc ls st0) :=
  vp_callSi (W.runS (g := F0 m pc ls st0) S hM cw (PB_S hK hP) rfl hn hsize hst hW hdg hf) (fun r hr => hr ▸ kk)
variable {S' : Type} {post : S' → Prop} {posti : Int32 → S' → Prop} {wp : S' → va_W} {w0 wr : va_W} {A : Nat → Prop} {H0 : Heap}
theorem sub_of (isC : List Nat) {w0 wc : va_W} (hC : isC.map (fun i => w0[i]?) = wc.map some) : isC.filterMap (fun i => w0[i]?) = wc := by
  have h : ∀ (is : List Nat) (w : va_W), is.map (fun i => w0[i]?) = w.map some → is.filterMap (fun i => w0[i]?) = w := by
    intro is
    induction is with
    | nil => intro w h; cases w with
      | nil => rfl
      | cons a t => simp at h
    | cons i t ih => intro w h; cases w with
      | nil => simp at h
      | cons a t' =>
        simp only [List.map_cons, List.cons.injEq] at h
        rw [List.filterMap_cons, h.1]
        simp [ih t' h.2]
  exact h isC wc hC
theorem PM_S (hK : va_K D cl tc s) (hP : va_P D cl wc H) (hD : va_D A wc) : PreS s H (va_Pc As (PM D cl wc tc H.size)) As :=
  ⟨PM_blind, fun U hU hW => ⟨rfl, by rw [hU], by rw [hU]; exact hP, va_K.moved hW.alike hK, hD.weaken (fun _ _ _ _ => trivial)⟩⟩
theorem PM_V {ci q0 : Nat} {fs : List Value} {T : u_T} {N : Nat} (hK : va_K D cl tc s) (hP : va_P D cl wc H) (hD : va_D A wc) (hc : cl[ci]? = some (C, T, N)) (he : wc[q0]? = some (b, .inr (ci, fs))) : PreV s H C b (va_Pc (.ref b :: As) (PM D cl wc tc H.size)) As :=
  ⟨PM_blind, va_recv hK hP hc he, fun U hU hW => ⟨rfl, by rw [hU], by rw [hU]; exact hP, va_K.moved hW.alike hK, hD.weaken (fun _ _ _ _ => trivial)⟩⟩
/-- a virtual call that changes cells and returns nothing -/
theorem chVv {ci q0 : Nat} {fs : List Value} {T : u_T} {N : Nat} (S : CallFix p m c cc nL s args Ts own)
    (hM : Met l y ws rm (va_Pc (.ref b :: As) (PM D cl wc tc H.size)) (va_Qv post (MB D cl wp tc (va_A wc H.size)) (va_A wc H.size)) mc ms (va_A wc H.size)) (cw : CallW R s args own C index y bytes maxL ret ws rm mc ms n)
    (hK : va_K D cl tc s) (hP : va_P D cl w0 H) (hD : va_D A w0) (hS : va_S A H0 H locs) (hA : ∀ q, H0.size ≤ q → A q) (isC isR : List Nat) (hC : isC.map (fun i => w0[i]?) = wc.map some) (hR : isR.map (fun i => w0[i]?) = wr.map some) (hnc : va_nd isC = true) (hnr : va_nd isR = true) (hdis : ∀ i ∈ isR, i ∉ isC)
    (hc : cl[ci]? = some (C, T, N)) (he : wc[q0]? = some (b, .inr (ci, fs))) (hn : As.length = n) (hsize : ls.size = nL) (hst : st0 = As.reverse ++ .ref b :: rest) (hW : 2 * (F0 m pc ls rest).monitorRoom + (rest.map fun v => v.category).sum ≤ 8) (hdg : decode cc pc = .ok (.invokevirtual index, 3)) (hf : cells + mc ≤ R.cells ∧ slots + ms ≤ R.slots)
    (kk : ∀ (u : S') (H1 : Heap) (locs1 : List Loc), post u → va_P D cl (wr ++ wp u) H1 → va_D A (wr ++ wp u) → va_S A H0 H1 locs1 → W p l e R s m args below meth c H1 locs1 (cells + mc) (slots + ms) Q (F0 m (pc + 3) ls rest)) :
    W p l e R s m args below meth c H locs cells slots Q (F0 m pc ls st0) := by
  have hPc := hP.sub isC (sub_of isC hC)
  have hDc := hD.sub isC hnc hC
  have hFc := va_free (wc := wc) hD hS hA isC hC
  refine va_callv (va_runV (g := F0 m pc ls st0) S hM cw (PM_V hK hPc hDc hc he) rfl hn hsize hst hW hdg hf) hS (fun q _ h => hFc q h) hFc (fun u t H1 locs1 ht hvm hw hB hz1 hk1 hS1 => ?_)
  obtain ⟨hP1, -, hD1⟩ := hB
  rw [ht] at hP1
  obtain ⟨hP2, hD2⟩ := va_join (wr := wr) (w1 := wp u) hP hD isC isR hC hR hnr hdis hk1 hFc hP1 hD1
  exact kk u H1 locs1 hw hP2 hD2 hS1
/-- a virtual call that changes cells and answers an int -/
theorem chVi {ci q0 : Nat} {fs : List Value} {T : u_T} {N : Nat} (S : CallFix p m c cc nL s args Ts own)
    (hM : Met l y ws rm (va_Pc (.ref b :: As) (PM D cl wc tc H.size)) (va_Qi posti (MB D cl wp tc (va_A wc H.size)) (va_A wc H.size)) mc ms (va_A wc H.size)) (cw : CallW R s args own C index y bytes maxL ret ws rm mc ms n)
    (hK : va_K D cl tc s) (hP : va_P D cl w0 H) (hD : va_D A w0) (hS : va_S A H0 H locs) (hA : ∀ q, H0.size ≤ q → A q) (isC isR : List Nat) (hC : isC.map (fun i => w0[i]?) = wc.map some) (hR : isR.map (fun i => w0[i]?) = wr.map some) (hnc : va_nd isC = true) (hnr : va_nd isR = true) (hdis : ∀ i ∈ isR, i ∉ isC)
    (hc : cl[ci]? = some (C, T, N)) (he : wc[q0]? = some (b, .inr (ci, fs))) (hn : As.length = n) (hsize : ls.size = nL) (hst : st0 = As.reverse ++ .ref b :: rest) (hW : 2 * (F0 m pc ls rest).monitorRoom + (rest.map fun v => v.category).sum ≤ 8) (hdg : decode cc pc = .ok (.invokevirtual index, 3)) (hf : cells + mc ≤ R.cells ∧ slots + ms ≤ R.slots)
    (kk : ∀ (r : Int32) (u : S') (H1 : Heap) (locs1 : List Loc), posti r u → va_P D cl (wr ++ wp u) H1 → va_D A (wr ++ wp u) → va_S A H0 H1 locs1 → W p l e R s m args below meth c H1 locs1 (cells + mc) (slots + ms) Q (F0 m (pc + 3) ls (.int r :: rest))) :
    W p l e R s m args below meth c H locs cells slots Q (F0 m pc ls st0) := by
  have hPc := hP.sub isC (sub_of isC hC)
  have hDc := hD.sub isC hnc hC
  have hFc := va_free (wc := wc) hD hS hA isC hC
  refine va_calli (va_runV (g := F0 m pc ls st0) S hM cw (PM_V hK hPc hDc hc he) rfl hn hsize hst hW hdg hf) hS (fun q _ h => hFc q h) hFc (fun r u t H1 locs1 ht hvm hw hB hz1 hk1 hS1 => ?_)
  obtain ⟨hP1, -, hD1⟩ := hB
  rw [ht] at hP1
  obtain ⟨hP2, hD2⟩ := va_join (wr := wr) (w1 := wp u) hP hD isC isR hC hR hnr hdis hk1 hFc hP1 hD1
  exact kk r u H1 locs1 hw hP2 hD2 hS1
/-- a constructor -/
theorem chI (S : CallFix p m c cc nL s args Ts own)
    (hM : Met l y ws rm (va_Pc (.ref b :: As) (PM D cl wc tc H.size)) (va_Qv post (MB D cl wp tc (va_A wc H.size)) (va_A wc H.size)) mc ms (va_A wc H.size)) (cw : CallB R s args own index y bytes maxL none ws rm mc ms n ∧ y.name = "<init>" ∧ (Cond.instanceMethod y).before args s = true)
    (hK : va_K D cl tc s) (hP : va_P D cl w0 H) (hD : va_D A w0) (hS : va_S A H0 H locs) (hA : ∀ q, H0.size ≤ q → A q) (isC isR : List Nat) (hC : isC.map (fun i => w0[i]?) = wc.map some) (hR : isR.map (fun i => w0[i]?) = wr.map some) (hnc : va_nd isC = true) (hnr : va_nd isR = true) (hdis : ∀ i ∈ isR, i ∉ isC)
    (hn : As.length = n) (hsize : ls.size = nL) (hst : st0 = As.reverse ++ .ref b :: rest) (hW : 2 * (F0 m pc ls rest).monitorRoom + (rest.map fun v => v.category).sum ≤ 8) (hdg : decode cc pc = .ok (.invokespecial index, 3)) (hf : cells + mc ≤ R.cells ∧ slots + ms ≤ R.slots)
    (kk : ∀ (u : S') (H1 : Heap) (locs1 : List Loc), post u → va_P D cl (wr ++ wp u) H1 → va_D A (wr ++ wp u) → va_S A H0 H1 locs1 → W p l e R s m args below meth c H1 locs1 (cells + mc) (slots + ms) Q (F0 m (pc + 3) ls rest)) :
    W p l e R s m args below meth c H locs cells slots Q (F0 m pc ls st0) := by
  have hPc := hP.sub isC (sub_of isC hC)
  have hDc := hD.sub isC hnc hC
  have hFc := va_free (wc := wc) hD hS hA isC hC
  refine va_callv (va_runI (g := F0 m pc ls st0) S hM cw (PM_S hK hPc hDc) rfl hn hsize hst hW hdg hf) hS (fun q _ h => hFc q h) hFc (fun u t H1 locs1 ht hvm hw hB hz1 hk1 hS1 => ?_)
  obtain ⟨hP1, -, hD1⟩ := hB
  rw [ht] at hP1
  obtain ⟨hP2, hD2⟩ := va_join (wr := wr) (w1 := wp u) hP hD isC isR hC hR hnr hdis hk1 hFc hP1 hD1
  exact kk u H1 locs1 hw hP2 hD2 hS1
end WC
end
section
/-! A throw of an exception with a written text, from its 'new' to the method's end. -/
section EXT
variable {p : Program} {l : Launch} {e : Env} {R : Room} {s : State} {m : MethodId} {args : Array Value} {below : List Frame} {meth : Method} {c : Code} {T : State} {H : Heap} {locs : List Loc} {cells slots : Nat} {Q : State → Prop}
/-- the same walk, as if it began here -/
theorem ex_rebase (X : Stand p l e R s m args below meth c T locs cells slots) {R' : Room} (hf : R'.frames ≤ R.frames) (hl : R'.locals ≤ R.locals) (hc : cells + R'.cells ≤ R.cells) (hs : slots + R'.slots ≤ R.slots) :
    Stand p l e R' ((T.setVm s.vm).setFrames (.invoking m args :: below)) m args below meth c T [] 0 0 := by
  obtain ⟨g₀, hfr⟩ := X.frames_eq
  have hcur : T.cur < T.threads.size := State.cur_lt_of_frames hfr
  obtain ⟨th, hth, -⟩ := State.frames_cons hfr
  have hF : ((T.setVm s.vm).setFrames (.invoking m args :: below)).frames = .invoking m args :: below := State.frames_setFrames _ hcur
  obtain ⟨t', ht', -⟩ := State.frames_cons hF
  have hlu : ((T.setVm s.vm).setFrames (.invoking m args :: below)).localsInUse = s.localsInUse := by
    rw [State.localsInUse_invoking hF X.method X.code, State.localsInUse_invoking X.frames X.method X.code]
  have hme : e.platform.stackLimits ((T.setVm s.vm).setFrames (.invoking m args :: below)).me = e.platform.stackLimits s.me := by
    rw [State.stackLimits_setFrames]; exact X.limits
  have hby : ((T.setVm s.vm).setFrames (.invoking m args :: below)).me.stackBytes = s.me.stackBytes := by
    rw [State.stackBytes_setFrames]; exact X.bytes
  have c1 : T.heap.size + R'.cells ≤ e.platform.maxCells := X.cellsAbove hc
  have c2 : T.slotsUsed + R'.slots ≤ e.platform.maxSlots := X.slotsAbove hs
  have hroom : ((T.setVm s.vm).setFrames (.invoking m args :: below)).hasRoom e.platform R' = true := by
    have h := X.room
    simp only [State.hasRoom, Bool.and_eq_true, decide_eq_true_eq] at h ⊢
    rw [hlu, hF, hme, hby]
    rw [X.frames] at h
    obtain ⟨⟨⟨⟨h1, h2, h3, h4, h5, h6⟩, h7⟩, h8⟩, h9⟩ := h
    exact ⟨⟨⟨⟨by omega, by omega, by omega, by omega, by omega, h6⟩, c1⟩, c2⟩, X.book⟩
  refine ⟨X.admits, X.cas, X.clock, hF, hroom, X.hears, X.method, X.code, X.here, X.tail, X.warmed, ?_, ?_, ?_⟩
  · rw [hme]; exact X.limits
  · rw [hby]; exact X.bytes
  · have h := (State.sameButNew.refl _ ht').setFrames T.frames (State.cur_lt_of_frames hF)
    rw [State.setFrames_setFrames] at h
    have e1 : (T.setVm s.vm).setFrames T.frames = T.setVm s.vm := State.setFrames_self (s := T.setVm s.vm) hth
    rw [e1] at h
    exact h
variable {cc : ByteArray} {pc : Nat} {ls : Array Slot} {rest : List Value} {Qc : Array Value → State → Outcome → State → Prop} {free : Addr → Prop} {mc ms : Nat}
theorem ex_throwS (hexec : p.tables.exec = Jvm.exec) (hb : c.code = cc) (htr : ∀ e : Env, l.admits e → e.platform.stackTraces = false) {own cls text : String} {names : List String} {ik is ic sa : Nat} {A : Nat → Prop}
    (hown : s.vm.findClass own = some m.cls) (hcls : Bundle.fit cls = true) (hnames : ∀ n ∈ names, Bundle.fit n = true)
    (hk : (Cond.classLink own ik cls).before args s = true) (hini : (Cond.initialized cls).before args s = true) (hins : (Cond.instantiable cls 6).before args s = true) (hstr : vk_R own is text sa s)
    (hat : ∀ w ∈ Bundle.ownAtoms own ic cls names, (w.onTables = true ∧ w.before args s = true) ∨ w = .isRef (.static Bundle.tN "UNASSIGNED_STACK" Bundle.steD) ∨ w = .isRef (.static Bundle.tN "SUPPRESSED_SENTINEL" Bundle.listD) ∨ w = .laysStatic Bundle.tN "UNASSIGNED_STACK" Bundle.steD ∨ w = .laysStatic Bundle.tN "SUPPRESSED_SENTINEL" Bundle.listD)
    (hU : ex_L Bundle.tN "UNASSIGNED_STACK" Bundle.steD A s s.heap) (hN : ex_L Bundle.tN "SUPPRESSED_SENTINEL" Bundle.listD A s s.heap) (hS : va_S A s.heap H locs) (hsize : ls.size = c.maxLocals)
    (d0 : decode cc pc = .ok (.new ik, 3)) (d3 : decode cc (pc + 3) = .ok (.dup, 1)) (d4 : decode cc (pc + 4) = .ok (.ldc is, 2)) (d6 : decode cc (pc + 6) = .ok (.invokespecial ic, 3)) (d9 : decode cc (pc + 9) = .ok (.athrow, 1))
    (hout : ∀ x ∈ c.exceptionTable.toList, False)
    (hRframes : names.length + 3 < R.frames) (hRlocals : (rest.map fun v => v.category).sum + (13 * (names.length + 1) + 43) ≤ R.locals) (hRcells : cells + 1 ≤ R.cells) (hRslots : slots + 6 ≤ R.slots) (hlocks : meth.locks = false)
    (hq : ∀ (t : State) (q : Addr) (ce : Cell), s.vm.Alike t.vm → H.size ≤ t.heap.size → (∀ a : Nat, a < H.size → t.heap[a]? = H[a]?) → t.heap[q]? = some ce → ce.vm = .none → s.vm.findClass cls = some ce.cls → Qc args s (.threw q) t)
    (hf : ∀ z ∈ locs, free z.base) (hc : cells + 1 ≤ mc) (hs : slots + 6 ≤ ms) :
    W p l e R s m args below meth c H locs cells slots (ex_MQ below Qc args s mc ms free) (F0 m pc ls rest) := by
  intro T hT X
  subst hT
  have Y := ex_rebase X (R' := { frames := R.frames, cells := 1, slots := 6, locals := R.locals }) (Nat.le_refl _) (Nat.le_refl _) hRcells hRslots
  generalize hs' : (T.setVm s.vm).setFrames (.invoking m args :: below) = s' at Y
  have hvm : s'.vm = s.vm := by rw [← hs']; rfl
  have hhp : s'.heap = T.heap := by rw [← hs']; rfl
  have hW' : s.WarmedH s'.vm := by rw [hvm]; exact State.WarmedH.refl s
  have hal : s.vm.Alike s'.vm := hW'.alike
  have gw : ∀ w : Cond, w.onTables = true → w.before args s = true → w.before args s' = true := fun w h1 h2 => va_tabs h1 hvm.symm h2
  have hU' : ex_L Bundle.tN "UNASSIGNED_STACK" Bundle.steD A s' s'.heap := by rw [hhp]; exact (hU.kept hS.2.1).moved hal
  have hN' : ex_L Bundle.tN "SUPPRESSED_SENTINEL" Bundle.listD A s' s'.heap := by rw [hhp]; exact (hN.kept hS.2.1).moved hal
  have hat' : ∀ w ∈ Bundle.ownAtoms own ic cls names, w.before args s' = true := by
    intro w hw
    rcases hat w hw with ⟨h1, h2⟩ | rfl | rfl | rfl | rfl
    · exact gw w h1 h2
    · exact hU'.isRef
    · exact hN'.isRef
    · exact hU'.lays
    · exact hN'.lays
  have hown' : s'.vm.findClass own = some m.cls := by rw [hvm]; exact hown
  have hk' : (Cond.classLink own ik cls).before args s' = true := gw _ rfl hk
  have hini' : (Cond.initialized cls).before args s' = true := gw _ rfl hini
  have hins' : (Cond.instantiable cls 6).before args s' = true := gw _ rfl hins
  obtain ⟨cX, kX, hcX, hkX, -⟩ := Cond.instantiable_spec hins'
  have K : W p l e { frames := R.frames, cells := 1, slots := 6, locals := R.locals } s' m args below meth c T.heap [] 0 0 (fun U => U.status = .running ∧ Ended U below (.threw T.heap.size) ∧ s'.WarmedH U.vm ∧ s'.sameButNew ({ U with vm := s'.vm } : State) [] 1 6 ∧ ∃ ce, U.heap[T.heap.size]? = some ce ∧ Bundle.OwnCell args s' cls T.heap.size (.ref sa) ce) (F0 m pc ls rest) := by
    refine W.newcK (n := 6) hexec hb hown' hk' hins' hini' rfl d0 (Nat.le_refl 1) (Nat.le_refl 6) hcX rfl (fun H' kC h1 h2 h3 h4 => ?_)
    cases Option.some.inj (hkX.symm.trans h1)
    refine W.eq (g2 := F0 m (pc + 3) ls (.ref T.heap.size :: rest)) rfl ?_
    refine lv_dup hexec hb d3 rfl ?_
    refine va_ldcS hexec hb hown' (hstr.warm hW') d4 ?_
    intro T2 hT2 X2
    obtain ⟨U, st, hrun, hend, hW, hsame, ce, hce, hoc⟩ := X2.ctorThrowS hexec (htr e X2.admits) hown' hcls hnames hat' (fun x hx => by cases hx) hcX hkX (a := T.heap.size) (by rw [hT2]; exact h2) (by rw [hhp]; exact Nat.le_refl _) (msg := .ref sa) rfl
      (g := F0 m (pc + 6) ls (.ref sa :: .ref T.heap.size :: .ref T.heap.size :: rest)) rfl hsize rfl rfl (rest := rest) rfl (by rw [hb]; exact d6) (by rw [hb]; exact d9) (fun x hx => (hout x hx).elim) hRframes
      (by
        have h0 : (F0 m (pc + 6) ls (.ref sa :: .ref T.heap.size :: .ref T.heap.size :: rest)).monitorRoom = 0 := rfl
        rw [h0]
        simp only [List.map_cons, List.sum_cons, Value.category]
        show 2 * 0 + (1 + (rest.map fun v => v.category).sum) + (13 * (names.length + 1) + 42) ≤ R.locals
        omega) hlocks
    exact ⟨U, st, hrun, hend, hW, hsame, ce, hce, hoc⟩
  obtain ⟨U, st, hrun, hend, hW, hsame, ce, hce, hoc⟩ := K T rfl Y
  have hfr : ∀ a : Nat, a < T.heap.size → U.heap[a]? = T.heap[a]? := by
    intro a ha
    obtain ⟨-, -, -, -, -, h6⟩ := hsame
    obtain ⟨c9, e1, e2, e3, e4⟩ := h6 a _ (by rw [hhp]; exact Array.getElem?_eq_getElem ha)
    have h9 : c9.slots = (T.heap[a]).slots := Array.ext_getElem? fun i => e4 i (by simp)
    rw [h9] at e2
    have e5 : U.heap[a]? = some c9 := e1
    rw [e5, e2, Array.getElem?_eq_getElem ha]
  have hsz : T.heap.size ≤ U.heap.size := by
    have h2 := hsame.2.1
    rw [hhp] at h2
    exact h2
  have hWs : s.WarmedH U.vm := by
    have h9 := hW
    rw [← hs'] at h9
    exact h9
  have hsm : s.sameButNew ({ U with vm := s.vm } : State) locs (cells + 1) (slots + 6) := by
    have h9 : (T.setVm s.vm).sameButNew ({ U with vm := s.vm } : State) [] 1 6 := by
      have h8 := hsame
      rw [hvm, ← hs'] at h8
      obtain ⟨q1, q2⟩ := h8
      exact ⟨by rw [State.setFrames_setFrames] at q1; exact q1, q2⟩
    have h7 := X.same.trans h9
    rw [List.append_nil] at h7
    exact h7
  exact ⟨U, st, .threw T.heap.size, hrun, hend, hq U T.heap.size ce hWs.alike hsz hfr hce hoc.vm (by have h5 := hoc.cls; rw [hvm] at h5; exact h5), hWs, locs, hsm.mono hc hs, hf⟩
end EXT
end
section
/-! the good words of the tables, by their places; and which private methods a class selects -/
theorem tw_0 : (Jvm.Cond.initialized "AllocForgeLaw") ∈ TG := tg_t (List.mem_of_getElem? (i := 0) (by decide +kernel)) rfl
theorem tw_1 : (Jvm.Cond.initialized "AllocForge") ∈ TG := tg_t (List.mem_of_getElem? (i := 1) (by decide +kernel)) rfl
theorem tw_2 : (Jvm.Cond.initialized "AllocForge$Code") ∈ TG := tg_t (List.mem_of_getElem? (i := 2) (by decide +kernel)) rfl
theorem tw_3 : (Jvm.Cond.initialized "AllocForge$Machine") ∈ TG := tg_t (List.mem_of_getElem? (i := 3) (by decide +kernel)) rfl
theorem tw_4 : (Jvm.Cond.initialized "AllocForge$Allocation") ∈ TG := tg_t (List.mem_of_getElem? (i := 4) (by decide +kernel)) rfl
theorem tw_5 : (Jvm.Cond.initialized "java/util/Arrays") ∈ TG := tg_t (List.mem_of_getElem? (i := 5) (by decide +kernel)) rfl
theorem tw_6 : (Jvm.Cond.initialized "AllocForgeModel") ∈ TG := tg_t (List.mem_of_getElem? (i := 6) (by decide +kernel)) rfl
theorem tw_7 : (Jvm.Cond.initialized "java/lang/Throwable") ∈ TG := tg_t (List.mem_of_getElem? (i := 7) (by decide +kernel)) rfl
theorem tw_8 : (Jvm.Cond.initialized "java/lang/Exception") ∈ TG := tg_t (List.mem_of_getElem? (i := 8) (by decide +kernel)) rfl
theorem tw_9 : (Jvm.Cond.initialized "java/lang/RuntimeException") ∈ TG := tg_t (List.mem_of_getElem? (i := 9) (by decide +kernel)) rfl
theorem tw_10 : (Jvm.Cond.initialized "java/lang/IllegalArgumentException") ∈ TG := tg_t (List.mem_of_getElem? (i := 10) (by decide +kernel)) rfl
theorem tw_11 : (Jvm.Cond.initialized "java/lang/IllegalStateException") ∈ TG := tg_t (List.mem_of_getElem? (i := 11) (by decide +kernel)) rfl
theorem tw_12 : (Jvm.Cond.initialized "java/lang/Math") ∈ TG := tg_t (List.mem_of_getElem? (i := 12) (by decide +kernel)) rfl
theorem tw_13 : (Jvm.Cond.initialized "java/lang/IndexOutOfBoundsException") ∈ TG := tg_t (List.mem_of_getElem? (i := 13) (by decide +kernel)) rfl
theorem tw_14 : (Jvm.Cond.initialized "java/lang/ArithmeticException") ∈ TG := tg_t (List.mem_of_getElem? (i := 14) (by decide +kernel)) rfl
theorem tw_15 : (Jvm.Cond.classLink "AllocForgeLaw" (8 : Nat) "AllocForge") ∈ TG := tg_t (List.mem_of_getElem? (i := 15) (by decide +kernel)) rfl
theorem tw_16 : (Jvm.Cond.instantiable "AllocForge" (7 : Nat)) ∈ TG := tg_t (List.mem_of_getElem? (i := 16) (by decide +kernel)) rfl
theorem tw_17 : (Jvm.Cond.methodLink "AllocForgeLaw" (56 : Nat) ({ cls := "AllocForge", name := "<init>", desc := "()V" } : Jvm.MethodName)) ∈ TG := tg_t (List.mem_of_getElem? (i := 17) (by decide +kernel)) rfl
theorem tw_18 : (Jvm.Cond.instanceMethod ({ cls := "AllocForge", name := "<init>", desc := "()V" } : Jvm.MethodName)) ∈ TG := tg_t (List.mem_of_getElem? (i := 18) (by decide +kernel)) rfl
theorem tw_19 : (Jvm.Cond.code ({ cls := "AllocForge", name := "<init>", desc := "()V" } : Jvm.MethodName) prog_1_method_1_code (2 : Nat) (Option.none : Option Jvm.ClassFile.FieldType)) ∈ TG := tg_t (List.mem_of_getElem? (i := 19) (by decide +kernel)) rfl
theorem tw_20 : (Jvm.Cond.methodLink "AllocForge" (1 : Nat) ({ cls := "java/lang/Object", name := "<init>", desc := "()V" } : Jvm.MethodName)) ∈ TG := tg_t (List.mem_of_getElem? (i := 20) (by decide +kernel)) rfl
theorem tw_21 : (Jvm.Cond.instanceMethod ({ cls := "java/lang/Object", name := "<init>", desc := "()V" } : Jvm.MethodName)) ∈ TG := tg_t (List.mem_of_getElem? (i := 21) (by decide +kernel)) rfl
theorem tw_22 : (Jvm.Cond.code ({ cls := "java/lang/Object", name := "<init>", desc := "()V" } : Jvm.MethodName) object_method_1_code (1 : Nat) (Option.none : Option Jvm.ClassFile.FieldType)) ∈ TG := tg_t (List.mem_of_getElem? (i := 22) (by decide +kernel)) rfl
theorem tw_23 : (Jvm.Cond.classLink "AllocForge" (7 : Nat) "AllocForge$Code") ∈ TG := tg_t (List.mem_of_getElem? (i := 23) (by decide +kernel)) rfl
theorem tw_24 : (Jvm.Cond.instantiable "AllocForge$Code" (8 : Nat)) ∈ TG := tg_t (List.mem_of_getElem? (i := 24) (by decide +kernel)) rfl
theorem tw_26 : (Jvm.Cond.instanceMethod ({ cls := "AllocForge$Code", name := "<init>", desc := "()V" } : Jvm.MethodName)) ∈ TG := tg_t (List.mem_of_getElem? (i := 26) (by decide +kernel)) rfl
theorem tw_27 : (Jvm.Cond.code ({ cls := "AllocForge$Code", name := "<init>", desc := "()V" } : Jvm.MethodName) prog_3_method_1_code (1 : Nat) (Option.none : Option Jvm.ClassFile.FieldType)) ∈ TG := tg_t (List.mem_of_getElem? (i := 27) (by decide +kernel)) rfl
theorem tw_28 : (Jvm.Cond.methodLink "AllocForge$Code" (3 : Nat) ({ cls := "java/lang/Object", name := "<init>", desc := "()V" } : Jvm.MethodName)) ∈ TG := tg_t (List.mem_of_getElem? (i := 28) (by decide +kernel)) rfl
theorem tw_29 : (Jvm.Cond.fieldLink "AllocForge$Code" (9 : Nat) "AllocForge$Code" "ops" "[I") ∈ TG := tg_t (List.mem_of_getElem? (i := 29) (by decide +kernel)) rfl
theorem tw_30 : (Jvm.Cond.fieldLink "AllocForge$Code" (15 : Nat) "AllocForge$Code" "lefts" "[I") ∈ TG := tg_t (List.mem_of_getElem? (i := 30) (by decide +kernel)) rfl
theorem tw_31 : (Jvm.Cond.fieldLink "AllocForge$Code" (18 : Nat) "AllocForge$Code" "rights" "[I") ∈ TG := tg_t (List.mem_of_getElem? (i := 31) (by decide +kernel)) rfl
theorem tw_32 : (Jvm.Cond.fieldLink "AllocForge$Code" (21 : Nat) "AllocForge$Code" "ends" "[I") ∈ TG := tg_t (List.mem_of_getElem? (i := 32) (by decide +kernel)) rfl
theorem tw_33 : (Jvm.Cond.fieldLink "AllocForge$Code" (24 : Nat) "AllocForge$Code" "uses" "[I") ∈ TG := tg_t (List.mem_of_getElem? (i := 33) (by decide +kernel)) rfl
theorem tw_34 : (Jvm.Cond.fieldLink "AllocForge$Code" (27 : Nat) "AllocForge$Code" "prices" "[I") ∈ TG := tg_t (List.mem_of_getElem? (i := 34) (by decide +kernel)) rfl
theorem tw_35 : (Jvm.Cond.fieldLink "AllocForge$Code" (43 : Nat) "AllocForge$Code" "size" "I") ∈ TG := tg_t (List.mem_of_getElem? (i := 35) (by decide +kernel)) rfl
theorem tw_36 : (Jvm.Cond.fieldLink "AllocForge$Code" (51 : Nat) "AllocForge$Code" "values" "I") ∈ TG := tg_t (List.mem_of_getElem? (i := 36) (by decide +kernel)) rfl
theorem tw_37 : (Jvm.Cond.laysFinal "AllocForge$Code" "AllocForge$Code" "ops" "[I") ∈ TG := tg_t (List.mem_of_getElem? (i := 37) (by decide +kernel)) rfl
theorem tw_38 : (Jvm.Cond.soleField "AllocForge$Code" "ops") ∈ TG := tg_t (List.mem_of_getElem? (i := 38) (by decide +kernel)) rfl
theorem tw_39 : (Jvm.Cond.laysFinal "AllocForge$Code" "AllocForge$Code" "lefts" "[I") ∈ TG := tg_t (List.mem_of_getElem? (i := 39) (by decide +kernel)) rfl
theorem tw_40 : (Jvm.Cond.soleField "AllocForge$Code" "lefts") ∈ TG := tg_t (List.mem_of_getElem? (i := 40) (by decide +kernel)) rfl
theorem tw_41 : (Jvm.Cond.laysFinal "AllocForge$Code" "AllocForge$Code" "rights" "[I") ∈ TG := tg_t (List.mem_of_getElem? (i := 41) (by decide +kernel)) rfl
theorem tw_42 : (Jvm.Cond.soleField "AllocForge$Code" "rights") ∈ TG := tg_t (List.mem_of_getElem? (i := 42) (by decide +kernel)) rfl
theorem tw_43 : (Jvm.Cond.laysFinal "AllocForge$Code" "AllocForge$Code" "ends" "[I") ∈ TG := tg_t (List.mem_of_getElem? (i := 43) (by decide +kernel)) rfl
theorem tw_44 : (Jvm.Cond.soleField "AllocForge$Code" "ends") ∈ TG := tg_t (List.mem_of_getElem? (i := 44) (by decide +kernel)) rfl
theorem tw_45 : (Jvm.Cond.laysFinal "AllocForge$Code" "AllocForge$Code" "uses" "[I") ∈ TG := tg_t (List.mem_of_getElem? (i := 45) (by decide +kernel)) rfl
theorem tw_46 : (Jvm.Cond.soleField "AllocForge$Code" "uses") ∈ TG := tg_t (List.mem_of_getElem? (i := 46) (by decide +kernel)) rfl
theorem tw_47 : (Jvm.Cond.laysFinal "AllocForge$Code" "AllocForge$Code" "prices" "[I") ∈ TG := tg_t (List.mem_of_getElem? (i := 47) (by decide +kernel)) rfl
theorem tw_48 : (Jvm.Cond.soleField "AllocForge$Code" "prices") ∈ TG := tg_t (List.mem_of_getElem? (i := 48) (by decide +kernel)) rfl
theorem tw_49 : (Jvm.Cond.lays "AllocForge$Code" "AllocForge$Code" "size" "I") ∈ TG := tg_t (List.mem_of_getElem? (i := 49) (by decide +kernel)) rfl
theorem tw_50 : (Jvm.Cond.soleField "AllocForge$Code" "size") ∈ TG := tg_t (List.mem_of_getElem? (i := 50) (by decide +kernel)) rfl
theorem tw_51 : (Jvm.Cond.lays "AllocForge$Code" "AllocForge$Code" "values" "I") ∈ TG := tg_t (List.mem_of_getElem? (i := 51) (by decide +kernel)) rfl
theorem tw_52 : (Jvm.Cond.soleField "AllocForge$Code" "values") ∈ TG := tg_t (List.mem_of_getElem? (i := 52) (by decide +kernel)) rfl
theorem tw_53 : (Jvm.Cond.superclass "AllocForge$Code" "java/lang/Object") ∈ TG := tg_t (List.mem_of_getElem? (i := 53) (by decide +kernel)) rfl
theorem tw_54 : (Jvm.Cond.arrayClass Jvm.ClassFile.FieldType.int) ∈ TG := tg_t (List.mem_of_getElem? (i := 54) (by decide +kernel)) rfl
theorem tw_55 : (Jvm.Cond.classLink "AllocForge" (20 : Nat) "AllocForge$Machine") ∈ TG := tg_t (List.mem_of_getElem? (i := 55) (by decide +kernel)) rfl
theorem tw_56 : (Jvm.Cond.instantiable "AllocForge$Machine" (6 : Nat)) ∈ TG := tg_t (List.mem_of_getElem? (i := 56) (by decide +kernel)) rfl
theorem tw_58 : (Jvm.Cond.instanceMethod ({ cls := "AllocForge$Machine", name := "<init>", desc := "()V" } : Jvm.MethodName)) ∈ TG := tg_t (List.mem_of_getElem? (i := 58) (by decide +kernel)) rfl
theorem tw_59 : (Jvm.Cond.code ({ cls := "AllocForge$Machine", name := "<init>", desc := "()V" } : Jvm.MethodName) prog_4_method_1_code (1 : Nat) (Option.none : Option Jvm.ClassFile.FieldType)) ∈ TG := tg_t (List.mem_of_getElem? (i := 59) (by decide +kernel)) rfl
theorem tw_60 : (Jvm.Cond.methodLink "AllocForge$Machine" (3 : Nat) ({ cls := "java/lang/Object", name := "<init>", desc := "()V" } : Jvm.MethodName)) ∈ TG := tg_t (List.mem_of_getElem? (i := 60) (by decide +kernel)) rfl
theorem tw_61 : (Jvm.Cond.fieldLink "AllocForge$Machine" (9 : Nat) "AllocForge$Machine" "cells" "[I") ∈ TG := tg_t (List.mem_of_getElem? (i := 61) (by decide +kernel)) rfl
theorem tw_62 : (Jvm.Cond.fieldLink "AllocForge$Machine" (15 : Nat) "AllocForge$Machine" "numbers" "[I") ∈ TG := tg_t (List.mem_of_getElem? (i := 62) (by decide +kernel)) rfl
theorem tw_63 : (Jvm.Cond.fieldLink "AllocForge$Machine" (18 : Nat) "AllocForge$Machine" "said" "[I") ∈ TG := tg_t (List.mem_of_getElem? (i := 63) (by decide +kernel)) rfl
theorem tw_64 : (Jvm.Cond.fieldLink "AllocForge$Machine" (27 : Nat) "AllocForge$Machine" "saidCount" "I") ∈ TG := tg_t (List.mem_of_getElem? (i := 64) (by decide +kernel)) rfl
theorem tw_65 : (Jvm.Cond.fieldLink "AllocForge$Machine" (31 : Nat) "AllocForge$Machine" "result" "I") ∈ TG := tg_t (List.mem_of_getElem? (i := 65) (by decide +kernel)) rfl
theorem tw_66 : (Jvm.Cond.fieldLink "AllocForge$Machine" (34 : Nat) "AllocForge$Machine" "fault" "Z") ∈ TG := tg_t (List.mem_of_getElem? (i := 66) (by decide +kernel)) rfl
theorem tw_67 : (Jvm.Cond.laysFinal "AllocForge$Machine" "AllocForge$Machine" "cells" "[I") ∈ TG := tg_t (List.mem_of_getElem? (i := 67) (by decide +kernel)) rfl
theorem tw_68 : (Jvm.Cond.soleField "AllocForge$Machine" "cells") ∈ TG := tg_t (List.mem_of_getElem? (i := 68) (by decide +kernel)) rfl
theorem tw_69 : (Jvm.Cond.laysFinal "AllocForge$Machine" "AllocForge$Machine" "numbers" "[I") ∈ TG := tg_t (List.mem_of_getElem? (i := 69) (by decide +kernel)) rfl
theorem tw_70 : (Jvm.Cond.soleField "AllocForge$Machine" "numbers") ∈ TG := tg_t (List.mem_of_getElem? (i := 70) (by decide +kernel)) rfl
theorem tw_71 : (Jvm.Cond.laysFinal "AllocForge$Machine" "AllocForge$Machine" "said" "[I") ∈ TG := tg_t (List.mem_of_getElem? (i := 71) (by decide +kernel)) rfl
theorem tw_72 : (Jvm.Cond.soleField "AllocForge$Machine" "said") ∈ TG := tg_t (List.mem_of_getElem? (i := 72) (by decide +kernel)) rfl
theorem tw_73 : (Jvm.Cond.lays "AllocForge$Machine" "AllocForge$Machine" "saidCount" "I") ∈ TG := tg_t (List.mem_of_getElem? (i := 73) (by decide +kernel)) rfl
theorem tw_74 : (Jvm.Cond.soleField "AllocForge$Machine" "saidCount") ∈ TG := tg_t (List.mem_of_getElem? (i := 74) (by decide +kernel)) rfl
theorem tw_75 : (Jvm.Cond.lays "AllocForge$Machine" "AllocForge$Machine" "result" "I") ∈ TG := tg_t (List.mem_of_getElem? (i := 75) (by decide +kernel)) rfl
theorem tw_76 : (Jvm.Cond.soleField "AllocForge$Machine" "result") ∈ TG := tg_t (List.mem_of_getElem? (i := 76) (by decide +kernel)) rfl
theorem tw_77 : (Jvm.Cond.lays "AllocForge$Machine" "AllocForge$Machine" "fault" "Z") ∈ TG := tg_t (List.mem_of_getElem? (i := 77) (by decide +kernel)) rfl
theorem tw_78 : (Jvm.Cond.soleField "AllocForge$Machine" "fault") ∈ TG := tg_t (List.mem_of_getElem? (i := 78) (by decide +kernel)) rfl
theorem tw_79 : (Jvm.Cond.superclass "AllocForge$Machine" "java/lang/Object") ∈ TG := tg_t (List.mem_of_getElem? (i := 79) (by decide +kernel)) rfl
theorem tw_80 : (Jvm.Cond.classLink "AllocForge" (33 : Nat) "AllocForge$Allocation") ∈ TG := tg_t (List.mem_of_getElem? (i := 80) (by decide +kernel)) rfl
theorem tw_81 : (Jvm.Cond.instantiable "AllocForge$Allocation" (3 : Nat)) ∈ TG := tg_t (List.mem_of_getElem? (i := 81) (by decide +kernel)) rfl
theorem tw_82 : (Jvm.Cond.methodLink "AllocForge" (35 : Nat) ({ cls := "AllocForge$Allocation", name := "<init>", desc := "()V" } : Jvm.MethodName)) ∈ TG := tg_t (List.mem_of_getElem? (i := 82) (by decide +kernel)) rfl
theorem tw_83 : (Jvm.Cond.instanceMethod ({ cls := "AllocForge$Allocation", name := "<init>", desc := "()V" } : Jvm.MethodName)) ∈ TG := tg_t (List.mem_of_getElem? (i := 83) (by decide +kernel)) rfl
theorem tw_84 : (Jvm.Cond.code ({ cls := "AllocForge$Allocation", name := "<init>", desc := "()V" } : Jvm.MethodName) prog_2_method_1_code (1 : Nat) (Option.none : Option Jvm.ClassFile.FieldType)) ∈ TG := tg_t (List.mem_of_getElem? (i := 84) (by decide +kernel)) rfl
theorem tw_85 : (Jvm.Cond.methodLink "AllocForge$Allocation" (3 : Nat) ({ cls := "java/lang/Object", name := "<init>", desc := "()V" } : Jvm.MethodName)) ∈ TG := tg_t (List.mem_of_getElem? (i := 85) (by decide +kernel)) rfl
theorem tw_86 : (Jvm.Cond.methodLink "AllocForge$Allocation" (15 : Nat) ({ cls := "java/util/Arrays", name := "fill", desc := "([II)V" } : Jvm.MethodName)) ∈ TG := tg_t (List.mem_of_getElem? (i := 86) (by decide +kernel)) rfl
theorem tw_87 : (Jvm.Cond.static ({ cls := "java/util/Arrays", name := "fill", desc := "([II)V" } : Jvm.MethodName)) ∈ TG := tg_t (List.mem_of_getElem? (i := 87) (by decide +kernel)) rfl
theorem tw_88 : (Jvm.Cond.code ({ cls := "java/util/Arrays", name := "fill", desc := "([II)V" } : Jvm.MethodName) prog_16_method_103_code (4 : Nat) (Option.none : Option Jvm.ClassFile.FieldType)) ∈ TG := tg_t (List.mem_of_getElem? (i := 88) (by decide +kernel)) rfl
theorem tw_89 : (Jvm.Cond.fieldLink "AllocForge$Allocation" (9 : Nat) "AllocForge$Allocation" "homes" "[I") ∈ TG := tg_t (List.mem_of_getElem? (i := 89) (by decide +kernel)) rfl
theorem tw_90 : (Jvm.Cond.fieldLink "AllocForge$Allocation" (21 : Nat) "AllocForge$Allocation" "registers" "I") ∈ TG := tg_t (List.mem_of_getElem? (i := 90) (by decide +kernel)) rfl
theorem tw_91 : (Jvm.Cond.fieldLink "AllocForge$Allocation" (25 : Nat) "AllocForge$Allocation" "evictions" "I") ∈ TG := tg_t (List.mem_of_getElem? (i := 91) (by decide +kernel)) rfl
theorem tw_92 : (Jvm.Cond.laysFinal "AllocForge$Allocation" "AllocForge$Allocation" "homes" "[I") ∈ TG := tg_t (List.mem_of_getElem? (i := 92) (by decide +kernel)) rfl
theorem tw_93 : (Jvm.Cond.soleField "AllocForge$Allocation" "homes") ∈ TG := tg_t (List.mem_of_getElem? (i := 93) (by decide +kernel)) rfl
theorem tw_94 : (Jvm.Cond.lays "AllocForge$Allocation" "AllocForge$Allocation" "registers" "I") ∈ TG := tg_t (List.mem_of_getElem? (i := 94) (by decide +kernel)) rfl
theorem tw_95 : (Jvm.Cond.soleField "AllocForge$Allocation" "registers") ∈ TG := tg_t (List.mem_of_getElem? (i := 95) (by decide +kernel)) rfl
theorem tw_96 : (Jvm.Cond.lays "AllocForge$Allocation" "AllocForge$Allocation" "evictions" "I") ∈ TG := tg_t (List.mem_of_getElem? (i := 96) (by decide +kernel)) rfl
theorem tw_97 : (Jvm.Cond.soleField "AllocForge$Allocation" "evictions") ∈ TG := tg_t (List.mem_of_getElem? (i := 97) (by decide +kernel)) rfl
theorem tw_98 : (Jvm.Cond.superclass "AllocForge$Allocation" "java/lang/Object") ∈ TG := tg_t (List.mem_of_getElem? (i := 98) (by decide +kernel)) rfl
theorem tw_99 : (Jvm.Cond.fieldLink "AllocForge" (10 : Nat) "AllocForge" "code" "LAllocForge$Code;") ∈ TG := tg_t (List.mem_of_getElem? (i := 99) (by decide +kernel)) rfl
theorem tw_100 : (Jvm.Cond.fieldLink "AllocForge" (16 : Nat) "AllocForge" "ownCells" "[I") ∈ TG := tg_t (List.mem_of_getElem? (i := 100) (by decide +kernel)) rfl
theorem tw_101 : (Jvm.Cond.fieldLink "AllocForge" (23 : Nat) "AllocForge" "written" "LAllocForge$Machine;") ∈ TG := tg_t (List.mem_of_getElem? (i := 101) (by decide +kernel)) rfl
theorem tw_102 : (Jvm.Cond.fieldLink "AllocForge" (27 : Nat) "AllocForge" "allocated" "LAllocForge$Machine;") ∈ TG := tg_t (List.mem_of_getElem? (i := 102) (by decide +kernel)) rfl
theorem tw_103 : (Jvm.Cond.fieldLink "AllocForge" (30 : Nat) "AllocForge" "latest" "LAllocForge$Machine;") ∈ TG := tg_t (List.mem_of_getElem? (i := 103) (by decide +kernel)) rfl
theorem tw_104 : (Jvm.Cond.fieldLink "AllocForge" (36 : Nat) "AllocForge" "kept" "LAllocForge$Allocation;") ∈ TG := tg_t (List.mem_of_getElem? (i := 104) (by decide +kernel)) rfl
theorem tw_105 : (Jvm.Cond.fieldLink "AllocForge" (40 : Nat) "AllocForge" "trial" "LAllocForge$Allocation;") ∈ TG := tg_t (List.mem_of_getElem? (i := 105) (by decide +kernel)) rfl
theorem tw_106 : (Jvm.Cond.laysFinal "AllocForge" "AllocForge" "code" "LAllocForge$Code;") ∈ TG := tg_t (List.mem_of_getElem? (i := 106) (by decide +kernel)) rfl
theorem tw_107 : (Jvm.Cond.soleField "AllocForge" "code") ∈ TG := tg_t (List.mem_of_getElem? (i := 107) (by decide +kernel)) rfl
theorem tw_108 : (Jvm.Cond.laysFinal "AllocForge" "AllocForge" "ownCells" "[I") ∈ TG := tg_t (List.mem_of_getElem? (i := 108) (by decide +kernel)) rfl
theorem tw_109 : (Jvm.Cond.soleField "AllocForge" "ownCells") ∈ TG := tg_t (List.mem_of_getElem? (i := 109) (by decide +kernel)) rfl
theorem tw_110 : (Jvm.Cond.laysFinal "AllocForge" "AllocForge" "written" "LAllocForge$Machine;") ∈ TG := tg_t (List.mem_of_getElem? (i := 110) (by decide +kernel)) rfl
theorem tw_111 : (Jvm.Cond.soleField "AllocForge" "written") ∈ TG := tg_t (List.mem_of_getElem? (i := 111) (by decide +kernel)) rfl
theorem tw_112 : (Jvm.Cond.laysFinal "AllocForge" "AllocForge" "allocated" "LAllocForge$Machine;") ∈ TG := tg_t (List.mem_of_getElem? (i := 112) (by decide +kernel)) rfl
theorem tw_113 : (Jvm.Cond.soleField "AllocForge" "allocated") ∈ TG := tg_t (List.mem_of_getElem? (i := 113) (by decide +kernel)) rfl
theorem tw_114 : (Jvm.Cond.lays "AllocForge" "AllocForge" "latest" "LAllocForge$Machine;") ∈ TG := tg_t (List.mem_of_getElem? (i := 114) (by decide +kernel)) rfl
theorem tw_115 : (Jvm.Cond.soleField "AllocForge" "latest") ∈ TG := tg_t (List.mem_of_getElem? (i := 115) (by decide +kernel)) rfl
theorem tw_116 : (Jvm.Cond.lays "AllocForge" "AllocForge" "kept" "LAllocForge$Allocation;") ∈ TG := tg_t (List.mem_of_getElem? (i := 116) (by decide +kernel)) rfl
theorem tw_117 : (Jvm.Cond.soleField "AllocForge" "kept") ∈ TG := tg_t (List.mem_of_getElem? (i := 117) (by decide +kernel)) rfl
theorem tw_118 : (Jvm.Cond.lays "AllocForge" "AllocForge" "trial" "LAllocForge$Allocation;") ∈ TG := tg_t (List.mem_of_getElem? (i := 118) (by decide +kernel)) rfl
theorem tw_119 : (Jvm.Cond.soleField "AllocForge" "trial") ∈ TG := tg_t (List.mem_of_getElem? (i := 119) (by decide +kernel)) rfl
theorem tw_120 : (Jvm.Cond.superclass "AllocForge" "java/lang/Object") ∈ TG := tg_t (List.mem_of_getElem? (i := 120) (by decide +kernel)) rfl
theorem tw_121 : (Jvm.Cond.methodLink "AllocForgeLaw" (70 : Nat) ({ cls := "AllocForge", name := "clear", desc := "()I" } : Jvm.MethodName)) ∈ TG := tg_t (List.mem_of_getElem? (i := 121) (by decide +kernel)) rfl
theorem tw_122 : (Jvm.Cond.instanceMethod ({ cls := "AllocForge", name := "clear", desc := "()I" } : Jvm.MethodName)) ∈ TG := tg_t (List.mem_of_getElem? (i := 122) (by decide +kernel)) rfl
theorem tw_123 : (Jvm.Cond.selects "AllocForge" ({ cls := "AllocForge", name := "clear", desc := "()I" } : Jvm.MethodName) ({ cls := "AllocForge", name := "clear", desc := "()I" } : Jvm.MethodName)) ∈ TG := tg_t (List.mem_of_getElem? (i := 123) (by decide +kernel)) rfl
theorem tw_124 : (Jvm.Cond.code ({ cls := "AllocForge", name := "clear", desc := "()I" } : Jvm.MethodName) prog_1_method_3_code (2 : Nat) (Option.some Jvm.ClassFile.FieldType.int)) ∈ TG := tg_t (List.mem_of_getElem? (i := 124) (by decide +kernel)) rfl
theorem tw_125 : (Jvm.Cond.methodLink "AllocForge" (54 : Nat) ({ cls := "AllocForge$Code", name := "size", desc := "()I" } : Jvm.MethodName)) ∈ TG := tg_t (List.mem_of_getElem? (i := 125) (by decide +kernel)) rfl
theorem tw_126 : (Jvm.Cond.instanceMethod ({ cls := "AllocForge$Code", name := "size", desc := "()I" } : Jvm.MethodName)) ∈ TG := tg_t (List.mem_of_getElem? (i := 126) (by decide +kernel)) rfl
theorem tw_127 : (Jvm.Cond.selects "AllocForge$Code" ({ cls := "AllocForge$Code", name := "size", desc := "()I" } : Jvm.MethodName) ({ cls := "AllocForge$Code", name := "size", desc := "()I" } : Jvm.MethodName)) ∈ TG := tg_t (List.mem_of_getElem? (i := 127) (by decide +kernel)) rfl
theorem tw_128 : (Jvm.Cond.code ({ cls := "AllocForge$Code", name := "size", desc := "()I" } : Jvm.MethodName) prog_3_method_8_code (1 : Nat) (Option.some Jvm.ClassFile.FieldType.int)) ∈ TG := tg_t (List.mem_of_getElem? (i := 128) (by decide +kernel)) rfl
theorem tw_129 : (Jvm.Cond.methodLink "AllocForge" (70 : Nat) ({ cls := "AllocForge$Code", name := "empty", desc := "()V" } : Jvm.MethodName)) ∈ TG := tg_t (List.mem_of_getElem? (i := 129) (by decide +kernel)) rfl
theorem tw_130 : (Jvm.Cond.instanceMethod ({ cls := "AllocForge$Code", name := "empty", desc := "()V" } : Jvm.MethodName)) ∈ TG := tg_t (List.mem_of_getElem? (i := 130) (by decide +kernel)) rfl
theorem tw_131 : (Jvm.Cond.selects "AllocForge$Code" ({ cls := "AllocForge$Code", name := "empty", desc := "()V" } : Jvm.MethodName) ({ cls := "AllocForge$Code", name := "empty", desc := "()V" } : Jvm.MethodName)) ∈ TG := tg_t (List.mem_of_getElem? (i := 131) (by decide +kernel)) rfl
theorem tw_132 : (Jvm.Cond.code ({ cls := "AllocForge$Code", name := "empty", desc := "()V" } : Jvm.MethodName) prog_3_method_5_code (1 : Nat) (Option.none : Option Jvm.ClassFile.FieldType)) ∈ TG := tg_t (List.mem_of_getElem? (i := 132) (by decide +kernel)) rfl
theorem tw_133 : (Jvm.Cond.methodLink "AllocForge" (67 : Nat) ({ cls := "AllocForge$Allocation", name := "forget", desc := "()V" } : Jvm.MethodName)) ∈ TG := tg_t (List.mem_of_getElem? (i := 133) (by decide +kernel)) rfl
theorem tw_134 : (Jvm.Cond.instanceMethod ({ cls := "AllocForge$Allocation", name := "forget", desc := "()V" } : Jvm.MethodName)) ∈ TG := tg_t (List.mem_of_getElem? (i := 134) (by decide +kernel)) rfl
theorem tw_135 : (Jvm.Cond.selects "AllocForge$Allocation" ({ cls := "AllocForge$Allocation", name := "forget", desc := "()V" } : Jvm.MethodName) ({ cls := "AllocForge$Allocation", name := "forget", desc := "()V" } : Jvm.MethodName)) ∈ TG := tg_t (List.mem_of_getElem? (i := 135) (by decide +kernel)) rfl
theorem tw_136 : (Jvm.Cond.code ({ cls := "AllocForge$Allocation", name := "forget", desc := "()V" } : Jvm.MethodName) prog_2_method_2_code (1 : Nat) (Option.none : Option Jvm.ClassFile.FieldType)) ∈ TG := tg_t (List.mem_of_getElem? (i := 136) (by decide +kernel)) rfl
theorem tw_137 : (Jvm.Cond.methodLink "AllocForgeLaw" (60 : Nat) ({ cls := "AllocForgeLaw", name := "add", desc := "(LAllocForge;IIII[J)I" } : Jvm.MethodName)) ∈ TG := tg_t (List.mem_of_getElem? (i := 137) (by decide +kernel)) rfl
theorem tw_138 : (Jvm.Cond.static ({ cls := "AllocForgeLaw", name := "add", desc := "(LAllocForge;IIII[J)I" } : Jvm.MethodName)) ∈ TG := tg_t (List.mem_of_getElem? (i := 138) (by decide +kernel)) rfl
theorem tw_139 : (Jvm.Cond.codeWith ({ cls := "AllocForgeLaw", name := "add", desc := "(LAllocForge;IIII[J)I" } : Jvm.MethodName) method_3_code (7 : Nat) (Option.some Jvm.ClassFile.FieldType.int) [((0 : Nat), (14 : Nat), (17 : Nat), (13 : Nat)), ((0 : Nat), (14 : Nat), (21 : Nat), (15 : Nat))]) ∈ TG := tg_t (List.mem_of_getElem? (i := 139) (by decide +kernel)) rfl
theorem tw_140 : (Jvm.Cond.classLink "AllocForgeLaw" (13 : Nat) "java/lang/IllegalArgumentException") ∈ TG := tg_t (List.mem_of_getElem? (i := 140) (by decide +kernel)) rfl
theorem tw_141 : (Jvm.Cond.classLink "AllocForgeLaw" (15 : Nat) "java/lang/IllegalStateException") ∈ TG := tg_t (List.mem_of_getElem? (i := 141) (by decide +kernel)) rfl
theorem tw_142 : (Jvm.Cond.methodLink "AllocForgeLaw" (7 : Nat) ({ cls := "AllocForge", name := "add", desc := "(IIII)I" } : Jvm.MethodName)) ∈ TG := tg_t (List.mem_of_getElem? (i := 142) (by decide +kernel)) rfl
theorem tw_143 : (Jvm.Cond.instanceMethod ({ cls := "AllocForge", name := "add", desc := "(IIII)I" } : Jvm.MethodName)) ∈ TG := tg_t (List.mem_of_getElem? (i := 143) (by decide +kernel)) rfl
theorem tw_144 : (Jvm.Cond.selects "AllocForge" ({ cls := "AllocForge", name := "add", desc := "(IIII)I" } : Jvm.MethodName) ({ cls := "AllocForge", name := "add", desc := "(IIII)I" } : Jvm.MethodName)) ∈ TG := tg_t (List.mem_of_getElem? (i := 144) (by decide +kernel)) rfl
theorem tw_145 : (Jvm.Cond.code ({ cls := "AllocForge", name := "add", desc := "(IIII)I" } : Jvm.MethodName) prog_1_method_2_code (5 : Nat) (Option.some Jvm.ClassFile.FieldType.int)) ∈ TG := tg_t (List.mem_of_getElem? (i := 145) (by decide +kernel)) rfl
theorem tw_146 : (Jvm.Cond.methodLink "AllocForge" (43 : Nat) ({ cls := "AllocForge$Code", name := "accepts", desc := "(IIII)Z" } : Jvm.MethodName)) ∈ TG := tg_t (List.mem_of_getElem? (i := 146) (by decide +kernel)) rfl
theorem tw_147 : (Jvm.Cond.instanceMethod ({ cls := "AllocForge$Code", name := "accepts", desc := "(IIII)Z" } : Jvm.MethodName)) ∈ TG := tg_t (List.mem_of_getElem? (i := 147) (by decide +kernel)) rfl
theorem tw_148 : (Jvm.Cond.selects "AllocForge$Code" ({ cls := "AllocForge$Code", name := "accepts", desc := "(IIII)Z" } : Jvm.MethodName) ({ cls := "AllocForge$Code", name := "accepts", desc := "(IIII)Z" } : Jvm.MethodName)) ∈ TG := tg_t (List.mem_of_getElem? (i := 148) (by decide +kernel)) rfl
theorem tw_149 : (Jvm.Cond.code ({ cls := "AllocForge$Code", name := "accepts", desc := "(IIII)Z" } : Jvm.MethodName) prog_3_method_2_code (5 : Nat) (Option.some Jvm.ClassFile.FieldType.boolean)) ∈ TG := tg_t (List.mem_of_getElem? (i := 149) (by decide +kernel)) rfl
theorem tw_150 : (Jvm.Cond.fieldLink "AllocForge$Code" (30 : Nat) "AllocForge$Code" "PRICES" "[I") ∈ TG := tg_t (List.mem_of_getElem? (i := 150) (by decide +kernel)) rfl
theorem tw_152 : (Jvm.Cond.methodLink "AllocForge$Code" (33 : Nat) ({ cls := "AllocForge$Code", name := "usesLeft", desc := "(I)Z" } : Jvm.MethodName)) ∈ TG := tg_t (List.mem_of_getElem? (i := 152) (by decide +kernel)) rfl
theorem tw_153 : (Jvm.Cond.static ({ cls := "AllocForge$Code", name := "usesLeft", desc := "(I)Z" } : Jvm.MethodName)) ∈ TG := tg_t (List.mem_of_getElem? (i := 153) (by decide +kernel)) rfl
theorem tw_154 : (Jvm.Cond.code ({ cls := "AllocForge$Code", name := "usesLeft", desc := "(I)Z" } : Jvm.MethodName) prog_3_method_6_code (1 : Nat) (Option.some Jvm.ClassFile.FieldType.boolean)) ∈ TG := tg_t (List.mem_of_getElem? (i := 154) (by decide +kernel)) rfl
theorem tw_155 : (Jvm.Cond.methodLink "AllocForge$Code" (37 : Nat) ({ cls := "AllocForge$Code", name := "isValue", desc := "(I)Z" } : Jvm.MethodName)) ∈ TG := tg_t (List.mem_of_getElem? (i := 155) (by decide +kernel)) rfl
theorem tw_156 : (Jvm.Cond.instanceMethod ({ cls := "AllocForge$Code", name := "isValue", desc := "(I)Z" } : Jvm.MethodName)) ∈ TG := tg_t (List.mem_of_getElem? (i := 156) (by decide +kernel)) rfl
theorem tw_157 : (Jvm.Cond.selects "AllocForge$Code" ({ cls := "AllocForge$Code", name := "isValue", desc := "(I)Z" } : Jvm.MethodName) ({ cls := "AllocForge$Code", name := "isValue", desc := "(I)Z" } : Jvm.MethodName)) ∈ TG := tg_t (List.mem_of_getElem? (i := 157) (by decide +kernel)) rfl
theorem tw_158 : (Jvm.Cond.code ({ cls := "AllocForge$Code", name := "isValue", desc := "(I)Z" } : Jvm.MethodName) prog_3_method_13_code (2 : Nat) (Option.some Jvm.ClassFile.FieldType.boolean)) ∈ TG := tg_t (List.mem_of_getElem? (i := 158) (by decide +kernel)) rfl
theorem tw_159 : (Jvm.Cond.methodLink "AllocForge$Code" (40 : Nat) ({ cls := "AllocForge$Code", name := "usesRight", desc := "(I)Z" } : Jvm.MethodName)) ∈ TG := tg_t (List.mem_of_getElem? (i := 159) (by decide +kernel)) rfl
theorem tw_160 : (Jvm.Cond.static ({ cls := "AllocForge$Code", name := "usesRight", desc := "(I)Z" } : Jvm.MethodName)) ∈ TG := tg_t (List.mem_of_getElem? (i := 160) (by decide +kernel)) rfl
theorem tw_161 : (Jvm.Cond.code ({ cls := "AllocForge$Code", name := "usesRight", desc := "(I)Z" } : Jvm.MethodName) prog_3_method_7_code (1 : Nat) (Option.some Jvm.ClassFile.FieldType.boolean)) ∈ TG := tg_t (List.mem_of_getElem? (i := 161) (by decide +kernel)) rfl
theorem tw_162 : (Jvm.Cond.classLink "AllocForge" (47 : Nat) "java/lang/IllegalArgumentException") ∈ TG := tg_t (List.mem_of_getElem? (i := 162) (by decide +kernel)) rfl
theorem tw_163 : (Jvm.Cond.instantiable "java/lang/IllegalArgumentException" (6 : Nat)) ∈ TG := tg_t (List.mem_of_getElem? (i := 163) (by decide +kernel)) rfl
theorem tw_171 : (Jvm.Cond.selects "java/lang/IllegalArgumentException" ({ cls := "java/lang/Throwable", name := "fillInStackTrace", desc := "(I)Ljava/lang/Throwable;" } : Jvm.MethodName) ({ cls := "java/lang/Throwable", name := "fillInStackTrace", desc := "(I)Ljava/lang/Throwable;" } : Jvm.MethodName)) ∈ TG := tg_t (List.mem_of_getElem? (i := 171) (by decide +kernel)) rfl
theorem tw_172 : (Jvm.Cond.selects "java/lang/IllegalArgumentException" ({ cls := "java/lang/Throwable", name := "fillInStackTrace", desc := "()Ljava/lang/Throwable;" } : Jvm.MethodName) ({ cls := "java/lang/Throwable", name := "fillInStackTrace", desc := "()Ljava/lang/Throwable;" } : Jvm.MethodName)) ∈ TG := tg_t (List.mem_of_getElem? (i := 172) (by decide +kernel)) rfl
theorem tw_173 : (Jvm.Cond.lays "java/lang/IllegalArgumentException" "java/lang/Throwable" "cause" "Ljava/lang/Throwable;") ∈ TG := tg_t (List.mem_of_getElem? (i := 173) (by decide +kernel)) rfl
theorem tw_174 : (Jvm.Cond.lays "java/lang/Throwable" "java/lang/Throwable" "cause" "Ljava/lang/Throwable;") ∈ TG := tg_t (List.mem_of_getElem? (i := 174) (by decide +kernel)) rfl
theorem tw_175 : (Jvm.Cond.lays "java/lang/IllegalArgumentException" "java/lang/Throwable" "stackTrace" "[Ljava/lang/StackTraceElement;") ∈ TG := tg_t (List.mem_of_getElem? (i := 175) (by decide +kernel)) rfl
theorem tw_176 : (Jvm.Cond.lays "java/lang/Throwable" "java/lang/Throwable" "stackTrace" "[Ljava/lang/StackTraceElement;") ∈ TG := tg_t (List.mem_of_getElem? (i := 176) (by decide +kernel)) rfl
theorem tw_177 : (Jvm.Cond.lays "java/lang/IllegalArgumentException" "java/lang/Throwable" "suppressedExceptions" "Ljava/util/List;") ∈ TG := tg_t (List.mem_of_getElem? (i := 177) (by decide +kernel)) rfl
theorem tw_178 : (Jvm.Cond.lays "java/lang/Throwable" "java/lang/Throwable" "suppressedExceptions" "Ljava/util/List;") ∈ TG := tg_t (List.mem_of_getElem? (i := 178) (by decide +kernel)) rfl
theorem tw_179 : (Jvm.Cond.lays "java/lang/IllegalArgumentException" "java/lang/Throwable" "detailMessage" "Ljava/lang/String;") ∈ TG := tg_t (List.mem_of_getElem? (i := 179) (by decide +kernel)) rfl
theorem tw_180 : (Jvm.Cond.lays "java/lang/Throwable" "java/lang/Throwable" "detailMessage" "Ljava/lang/String;") ∈ TG := tg_t (List.mem_of_getElem? (i := 180) (by decide +kernel)) rfl
theorem tw_181 : (Jvm.Cond.lays "java/lang/IllegalArgumentException" "java/lang/Throwable" "backtrace" "Ljava/lang/Object;") ∈ TG := tg_t (List.mem_of_getElem? (i := 181) (by decide +kernel)) rfl
theorem tw_182 : (Jvm.Cond.lays "java/lang/Throwable" "java/lang/Throwable" "backtrace" "Ljava/lang/Object;") ∈ TG := tg_t (List.mem_of_getElem? (i := 182) (by decide +kernel)) rfl
theorem tw_183 : (Jvm.Cond.fieldLink "java/lang/Throwable" (198 : Nat) "java/lang/Throwable" "backtrace" "Ljava/lang/Object;") ∈ TG := tg_t (List.mem_of_getElem? (i := 183) (by decide +kernel)) rfl
theorem tw_184 : (Jvm.Cond.superclass "java/lang/Throwable" "java/lang/Object") ∈ TG := tg_t (List.mem_of_getElem? (i := 184) (by decide +kernel)) rfl
theorem tw_185 : (Jvm.Cond.instanceMethod ({ cls := "java/lang/Throwable", name := "<init>", desc := "()V" } : Jvm.MethodName)) ∈ TG := tg_t (List.mem_of_getElem? (i := 185) (by decide +kernel)) rfl
theorem tw_186 : (Jvm.Cond.code ({ cls := "java/lang/Throwable", name := "<init>", desc := "()V" } : Jvm.MethodName) prog_15_method_1_code (1 : Nat) (Option.none : Option Jvm.ClassFile.FieldType)) ∈ TG := tg_t (List.mem_of_getElem? (i := 186) (by decide +kernel)) rfl
theorem tw_187 : (Jvm.Cond.methodLink "java/lang/Throwable" (1 : Nat) ({ cls := "java/lang/Object", name := "<init>", desc := "()V" } : Jvm.MethodName)) ∈ TG := tg_t (List.mem_of_getElem? (i := 187) (by decide +kernel)) rfl
theorem tw_188 : (Jvm.Cond.fieldLink "java/lang/Throwable" (13 : Nat) "java/lang/Throwable" "UNASSIGNED_STACK" "[Ljava/lang/StackTraceElement;") ∈ TG := tg_t (List.mem_of_getElem? (i := 188) (by decide +kernel)) rfl
theorem tw_190 : (Jvm.Cond.fieldLink "java/lang/Throwable" (20 : Nat) "java/lang/Throwable" "SUPPRESSED_SENTINEL" "Ljava/util/List;") ∈ TG := tg_t (List.mem_of_getElem? (i := 190) (by decide +kernel)) rfl
theorem tw_192 : (Jvm.Cond.methodLink "java/lang/Throwable" (27 : Nat) ({ cls := "java/lang/Throwable", name := "fillInStackTrace", desc := "()Ljava/lang/Throwable;" } : Jvm.MethodName)) ∈ TG := tg_t (List.mem_of_getElem? (i := 192) (by decide +kernel)) rfl
theorem tw_193 : (Jvm.Cond.instanceMethod ({ cls := "java/lang/Throwable", name := "fillInStackTrace", desc := "()Ljava/lang/Throwable;" } : Jvm.MethodName)) ∈ TG := tg_t (List.mem_of_getElem? (i := 193) (by decide +kernel)) rfl
theorem tw_194 : (Jvm.Cond.sameMethod "java/lang/Throwable" "java/lang/Throwable" "fillInStackTrace" "()Ljava/lang/Throwable;") ∈ TG := tg_t (List.mem_of_getElem? (i := 194) (by decide +kernel)) rfl
theorem tw_195 : (Jvm.Cond.selects "java/lang/ArithmeticException" ({ cls := "java/lang/Throwable", name := "fillInStackTrace", desc := "()Ljava/lang/Throwable;" } : Jvm.MethodName) ({ cls := "java/lang/Throwable", name := "fillInStackTrace", desc := "()Ljava/lang/Throwable;" } : Jvm.MethodName)) ∈ TG := tg_t (List.mem_of_getElem? (i := 195) (by decide +kernel)) rfl
theorem tw_196 : (Jvm.Cond.selects "java/lang/IllegalStateException" ({ cls := "java/lang/Throwable", name := "fillInStackTrace", desc := "()Ljava/lang/Throwable;" } : Jvm.MethodName) ({ cls := "java/lang/Throwable", name := "fillInStackTrace", desc := "()Ljava/lang/Throwable;" } : Jvm.MethodName)) ∈ TG := tg_t (List.mem_of_getElem? (i := 196) (by decide +kernel)) rfl
theorem tw_197 : (Jvm.Cond.selects "java/lang/IndexOutOfBoundsException" ({ cls := "java/lang/Throwable", name := "fillInStackTrace", desc := "()Ljava/lang/Throwable;" } : Jvm.MethodName) ({ cls := "java/lang/Throwable", name := "fillInStackTrace", desc := "()Ljava/lang/Throwable;" } : Jvm.MethodName)) ∈ TG := tg_t (List.mem_of_getElem? (i := 197) (by decide +kernel)) rfl
theorem tw_198 : (Jvm.Cond.codeSync ({ cls := "java/lang/Throwable", name := "fillInStackTrace", desc := "()Ljava/lang/Throwable;" } : Jvm.MethodName) prog_15_method_18_code (1 : Nat) (Option.some (Jvm.ClassFile.FieldType.object "java/lang/Throwable"))) ∈ TG := tg_t (List.mem_of_getElem? (i := 198) (by decide +kernel)) rfl
theorem tw_199 : (Jvm.Cond.methodLink "java/lang/Throwable" (202 : Nat) ({ cls := "java/lang/Throwable", name := "fillInStackTrace", desc := "(I)Ljava/lang/Throwable;" } : Jvm.MethodName)) ∈ TG := tg_t (List.mem_of_getElem? (i := 199) (by decide +kernel)) rfl
theorem tw_201 : (Jvm.Cond.instanceMethod ({ cls := "java/lang/Throwable", name := "fillInStackTrace", desc := "(I)Ljava/lang/Throwable;" } : Jvm.MethodName)) ∈ TG := tg_t (List.mem_of_getElem? (i := 201) (by decide +kernel)) rfl
theorem tw_202 : (Jvm.Cond.instantiable "java/lang/Throwable" (6 : Nat)) ∈ TG := tg_t (List.mem_of_getElem? (i := 202) (by decide +kernel)) rfl
theorem tw_203 : (Jvm.Cond.native ({ cls := "java/lang/Throwable", name := "fillInStackTrace", desc := "(I)Ljava/lang/Throwable;" } : Jvm.MethodName)) ∈ TG := tg_t (List.mem_of_getElem? (i := 203) (by decide +kernel)) rfl
theorem tw_205 : (Jvm.Cond.methodLink "AllocForge" (51 : Nat) ({ cls := "java/lang/IllegalArgumentException", name := "<init>", desc := "(Ljava/lang/String;)V" } : Jvm.MethodName)) ∈ TG := tg_t (List.mem_of_getElem? (i := 205) (by decide +kernel)) rfl
theorem tw_206 : (Jvm.Cond.instanceMethod ({ cls := "java/lang/IllegalArgumentException", name := "<init>", desc := "(Ljava/lang/String;)V" } : Jvm.MethodName)) ∈ TG := tg_t (List.mem_of_getElem? (i := 206) (by decide +kernel)) rfl
theorem tw_207 : (Jvm.Cond.code ({ cls := "java/lang/IllegalArgumentException", name := "<init>", desc := "(Ljava/lang/String;)V" } : Jvm.MethodName) prog_9_method_2_code (2 : Nat) (Option.none : Option Jvm.ClassFile.FieldType)) ∈ TG := tg_t (List.mem_of_getElem? (i := 207) (by decide +kernel)) rfl
theorem tw_208 : (Jvm.Cond.methodLink "java/lang/IllegalArgumentException" (7 : Nat) ({ cls := "java/lang/RuntimeException", name := "<init>", desc := "(Ljava/lang/String;)V" } : Jvm.MethodName)) ∈ TG := tg_t (List.mem_of_getElem? (i := 208) (by decide +kernel)) rfl
theorem tw_209 : (Jvm.Cond.instanceMethod ({ cls := "java/lang/RuntimeException", name := "<init>", desc := "(Ljava/lang/String;)V" } : Jvm.MethodName)) ∈ TG := tg_t (List.mem_of_getElem? (i := 209) (by decide +kernel)) rfl
theorem tw_210 : (Jvm.Cond.code ({ cls := "java/lang/RuntimeException", name := "<init>", desc := "(Ljava/lang/String;)V" } : Jvm.MethodName) prog_13_method_2_code (2 : Nat) (Option.none : Option Jvm.ClassFile.FieldType)) ∈ TG := tg_t (List.mem_of_getElem? (i := 210) (by decide +kernel)) rfl
theorem tw_211 : (Jvm.Cond.methodLink "java/lang/RuntimeException" (7 : Nat) ({ cls := "java/lang/Exception", name := "<init>", desc := "(Ljava/lang/String;)V" } : Jvm.MethodName)) ∈ TG := tg_t (List.mem_of_getElem? (i := 211) (by decide +kernel)) rfl
theorem tw_212 : (Jvm.Cond.instanceMethod ({ cls := "java/lang/Exception", name := "<init>", desc := "(Ljava/lang/String;)V" } : Jvm.MethodName)) ∈ TG := tg_t (List.mem_of_getElem? (i := 212) (by decide +kernel)) rfl
theorem tw_213 : (Jvm.Cond.code ({ cls := "java/lang/Exception", name := "<init>", desc := "(Ljava/lang/String;)V" } : Jvm.MethodName) prog_8_method_2_code (2 : Nat) (Option.none : Option Jvm.ClassFile.FieldType)) ∈ TG := tg_t (List.mem_of_getElem? (i := 213) (by decide +kernel)) rfl
theorem tw_214 : (Jvm.Cond.methodLink "java/lang/Exception" (7 : Nat) ({ cls := "java/lang/Throwable", name := "<init>", desc := "(Ljava/lang/String;)V" } : Jvm.MethodName)) ∈ TG := tg_t (List.mem_of_getElem? (i := 214) (by decide +kernel)) rfl
theorem tw_215 : (Jvm.Cond.instanceMethod ({ cls := "java/lang/Throwable", name := "<init>", desc := "(Ljava/lang/String;)V" } : Jvm.MethodName)) ∈ TG := tg_t (List.mem_of_getElem? (i := 215) (by decide +kernel)) rfl
theorem tw_216 : (Jvm.Cond.code ({ cls := "java/lang/Throwable", name := "<init>", desc := "(Ljava/lang/String;)V" } : Jvm.MethodName) prog_15_method_2_code (2 : Nat) (Option.none : Option Jvm.ClassFile.FieldType)) ∈ TG := tg_t (List.mem_of_getElem? (i := 216) (by decide +kernel)) rfl
theorem tw_217 : (Jvm.Cond.fieldLink "java/lang/Throwable" (198 : Nat) "java/lang/Throwable" "backtrace" "Ljava/lang/Object;") ∈ TG := tg_t (List.mem_of_getElem? (i := 217) (by decide +kernel)) rfl
theorem tw_218 : (Jvm.Cond.fieldLink "java/lang/Throwable" (31 : Nat) "java/lang/Throwable" "detailMessage" "Ljava/lang/String;") ∈ TG := tg_t (List.mem_of_getElem? (i := 218) (by decide +kernel)) rfl
theorem tw_219 : (Jvm.Cond.fieldLink "java/lang/Throwable" (7 : Nat) "java/lang/Throwable" "cause" "Ljava/lang/Throwable;") ∈ TG := tg_t (List.mem_of_getElem? (i := 219) (by decide +kernel)) rfl
theorem tw_220 : (Jvm.Cond.fieldLink "java/lang/Throwable" (17 : Nat) "java/lang/Throwable" "stackTrace" "[Ljava/lang/StackTraceElement;") ∈ TG := tg_t (List.mem_of_getElem? (i := 220) (by decide +kernel)) rfl
theorem tw_221 : (Jvm.Cond.fieldLink "java/lang/Throwable" (24 : Nat) "java/lang/Throwable" "suppressedExceptions" "Ljava/util/List;") ∈ TG := tg_t (List.mem_of_getElem? (i := 221) (by decide +kernel)) rfl
theorem tw_222 : (Jvm.Cond.soleField "java/lang/Throwable" "backtrace") ∈ TG := tg_t (List.mem_of_getElem? (i := 222) (by decide +kernel)) rfl
theorem tw_223 : (Jvm.Cond.soleField "java/lang/Throwable" "detailMessage") ∈ TG := tg_t (List.mem_of_getElem? (i := 223) (by decide +kernel)) rfl
theorem tw_224 : (Jvm.Cond.soleField "java/lang/Throwable" "cause") ∈ TG := tg_t (List.mem_of_getElem? (i := 224) (by decide +kernel)) rfl
theorem tw_225 : (Jvm.Cond.soleField "java/lang/Throwable" "stackTrace") ∈ TG := tg_t (List.mem_of_getElem? (i := 225) (by decide +kernel)) rfl
theorem tw_226 : (Jvm.Cond.lays "java/lang/IllegalArgumentException" "java/lang/Throwable" "depth" "I") ∈ TG := tg_t (List.mem_of_getElem? (i := 226) (by decide +kernel)) rfl
theorem tw_227 : (Jvm.Cond.soleField "java/lang/Throwable" "depth") ∈ TG := tg_t (List.mem_of_getElem? (i := 227) (by decide +kernel)) rfl
theorem tw_228 : (Jvm.Cond.soleField "java/lang/Throwable" "suppressedExceptions") ∈ TG := tg_t (List.mem_of_getElem? (i := 228) (by decide +kernel)) rfl
theorem tw_229 : (Jvm.Cond.superclass "java/lang/IllegalArgumentException" "java/lang/RuntimeException") ∈ TG := tg_t (List.mem_of_getElem? (i := 229) (by decide +kernel)) rfl
theorem tw_230 : (Jvm.Cond.arrayClass Jvm.ClassFile.FieldType.byte) ∈ TG := tg_t (List.mem_of_getElem? (i := 230) (by decide +kernel)) rfl
theorem tw_231 : (Jvm.Cond.classLink "AllocForge" (58 : Nat) "java/lang/IllegalStateException") ∈ TG := tg_t (List.mem_of_getElem? (i := 231) (by decide +kernel)) rfl
theorem tw_232 : (Jvm.Cond.instantiable "java/lang/IllegalStateException" (6 : Nat)) ∈ TG := tg_t (List.mem_of_getElem? (i := 232) (by decide +kernel)) rfl
theorem tw_234 : (Jvm.Cond.selects "java/lang/IllegalStateException" ({ cls := "java/lang/Throwable", name := "fillInStackTrace", desc := "(I)Ljava/lang/Throwable;" } : Jvm.MethodName) ({ cls := "java/lang/Throwable", name := "fillInStackTrace", desc := "(I)Ljava/lang/Throwable;" } : Jvm.MethodName)) ∈ TG := tg_t (List.mem_of_getElem? (i := 234) (by decide +kernel)) rfl
theorem tw_235 : (Jvm.Cond.lays "java/lang/IllegalStateException" "java/lang/Throwable" "cause" "Ljava/lang/Throwable;") ∈ TG := tg_t (List.mem_of_getElem? (i := 235) (by decide +kernel)) rfl
theorem tw_236 : (Jvm.Cond.lays "java/lang/IllegalStateException" "java/lang/Throwable" "stackTrace" "[Ljava/lang/StackTraceElement;") ∈ TG := tg_t (List.mem_of_getElem? (i := 236) (by decide +kernel)) rfl
theorem tw_237 : (Jvm.Cond.lays "java/lang/IllegalStateException" "java/lang/Throwable" "suppressedExceptions" "Ljava/util/List;") ∈ TG := tg_t (List.mem_of_getElem? (i := 237) (by decide +kernel)) rfl
theorem tw_238 : (Jvm.Cond.lays "java/lang/IllegalStateException" "java/lang/Throwable" "detailMessage" "Ljava/lang/String;") ∈ TG := tg_t (List.mem_of_getElem? (i := 238) (by decide +kernel)) rfl
theorem tw_239 : (Jvm.Cond.lays "java/lang/IllegalStateException" "java/lang/Throwable" "backtrace" "Ljava/lang/Object;") ∈ TG := tg_t (List.mem_of_getElem? (i := 239) (by decide +kernel)) rfl
theorem tw_241 : (Jvm.Cond.methodLink "AllocForge" (62 : Nat) ({ cls := "java/lang/IllegalStateException", name := "<init>", desc := "(Ljava/lang/String;)V" } : Jvm.MethodName)) ∈ TG := tg_t (List.mem_of_getElem? (i := 241) (by decide +kernel)) rfl
theorem tw_242 : (Jvm.Cond.instanceMethod ({ cls := "java/lang/IllegalStateException", name := "<init>", desc := "(Ljava/lang/String;)V" } : Jvm.MethodName)) ∈ TG := tg_t (List.mem_of_getElem? (i := 242) (by decide +kernel)) rfl
theorem tw_243 : (Jvm.Cond.code ({ cls := "java/lang/IllegalStateException", name := "<init>", desc := "(Ljava/lang/String;)V" } : Jvm.MethodName) prog_10_method_2_code (2 : Nat) (Option.none : Option Jvm.ClassFile.FieldType)) ∈ TG := tg_t (List.mem_of_getElem? (i := 243) (by decide +kernel)) rfl
theorem tw_244 : (Jvm.Cond.methodLink "java/lang/IllegalStateException" (7 : Nat) ({ cls := "java/lang/RuntimeException", name := "<init>", desc := "(Ljava/lang/String;)V" } : Jvm.MethodName)) ∈ TG := tg_t (List.mem_of_getElem? (i := 244) (by decide +kernel)) rfl
theorem tw_245 : (Jvm.Cond.lays "java/lang/IllegalStateException" "java/lang/Throwable" "depth" "I") ∈ TG := tg_t (List.mem_of_getElem? (i := 245) (by decide +kernel)) rfl
theorem tw_246 : (Jvm.Cond.superclass "java/lang/IllegalStateException" "java/lang/RuntimeException") ∈ TG := tg_t (List.mem_of_getElem? (i := 246) (by decide +kernel)) rfl
theorem tw_247 : (Jvm.Cond.methodLink "AllocForge" (63 : Nat) ({ cls := "AllocForge$Code", name := "append", desc := "(IIII)V" } : Jvm.MethodName)) ∈ TG := tg_t (List.mem_of_getElem? (i := 247) (by decide +kernel)) rfl
theorem tw_248 : (Jvm.Cond.instanceMethod ({ cls := "AllocForge$Code", name := "append", desc := "(IIII)V" } : Jvm.MethodName)) ∈ TG := tg_t (List.mem_of_getElem? (i := 248) (by decide +kernel)) rfl
theorem tw_249 : (Jvm.Cond.selects "AllocForge$Code" ({ cls := "AllocForge$Code", name := "append", desc := "(IIII)V" } : Jvm.MethodName) ({ cls := "AllocForge$Code", name := "append", desc := "(IIII)V" } : Jvm.MethodName)) ∈ TG := tg_t (List.mem_of_getElem? (i := 249) (by decide +kernel)) rfl
theorem tw_250 : (Jvm.Cond.code ({ cls := "AllocForge$Code", name := "append", desc := "(IIII)V" } : Jvm.MethodName) prog_3_method_3_code (6 : Nat) (Option.none : Option Jvm.ClassFile.FieldType)) ∈ TG := tg_t (List.mem_of_getElem? (i := 250) (by decide +kernel)) rfl
theorem tw_251 : (Jvm.Cond.methodLink "AllocForge$Code" (47 : Nat) ({ cls := "AllocForge$Code", name := "noteUse", desc := "(II)V" } : Jvm.MethodName)) ∈ TG := tg_t (List.mem_of_getElem? (i := 251) (by decide +kernel)) rfl
theorem tw_253 : (Jvm.Cond.instanceMethod ({ cls := "AllocForge$Code", name := "noteUse", desc := "(II)V" } : Jvm.MethodName)) ∈ TG := tg_t (List.mem_of_getElem? (i := 253) (by decide +kernel)) rfl
theorem tw_254 : (Jvm.Cond.code ({ cls := "AllocForge$Code", name := "noteUse", desc := "(II)V" } : Jvm.MethodName) prog_3_method_4_code (3 : Nat) (Option.none : Option Jvm.ClassFile.FieldType)) ∈ TG := tg_t (List.mem_of_getElem? (i := 254) (by decide +kernel)) rfl
theorem tw_255 : (Jvm.Cond.methodLink "AllocForgeLaw" (74 : Nat) ({ cls := "AllocForgeLaw", name := "allocate", desc := "(LAllocForge;I[J)I" } : Jvm.MethodName)) ∈ TG := tg_t (List.mem_of_getElem? (i := 255) (by decide +kernel)) rfl
theorem tw_256 : (Jvm.Cond.static ({ cls := "AllocForgeLaw", name := "allocate", desc := "(LAllocForge;I[J)I" } : Jvm.MethodName)) ∈ TG := tg_t (List.mem_of_getElem? (i := 256) (by decide +kernel)) rfl
theorem tw_257 : (Jvm.Cond.codeWith ({ cls := "AllocForgeLaw", name := "allocate", desc := "(LAllocForge;I[J)I" } : Jvm.MethodName) method_4_code (4 : Nat) (Option.some Jvm.ClassFile.FieldType.int) [((0 : Nat), (9 : Nat), (12 : Nat), (13 : Nat)), ((0 : Nat), (9 : Nat), (15 : Nat), (15 : Nat))]) ∈ TG := tg_t (List.mem_of_getElem? (i := 257) (by decide +kernel)) rfl
theorem tw_258 : (Jvm.Cond.methodLink "AllocForgeLaw" (17 : Nat) ({ cls := "AllocForge", name := "allocate", desc := "(I)I" } : Jvm.MethodName)) ∈ TG := tg_t (List.mem_of_getElem? (i := 258) (by decide +kernel)) rfl
theorem tw_259 : (Jvm.Cond.instanceMethod ({ cls := "AllocForge", name := "allocate", desc := "(I)I" } : Jvm.MethodName)) ∈ TG := tg_t (List.mem_of_getElem? (i := 259) (by decide +kernel)) rfl
theorem tw_260 : (Jvm.Cond.selects "AllocForge" ({ cls := "AllocForge", name := "allocate", desc := "(I)I" } : Jvm.MethodName) ({ cls := "AllocForge", name := "allocate", desc := "(I)I" } : Jvm.MethodName)) ∈ TG := tg_t (List.mem_of_getElem? (i := 260) (by decide +kernel)) rfl
theorem tw_261 : (Jvm.Cond.code ({ cls := "AllocForge", name := "allocate", desc := "(I)I" } : Jvm.MethodName) prog_1_method_4_code (3 : Nat) (Option.some Jvm.ClassFile.FieldType.int)) ∈ TG := tg_t (List.mem_of_getElem? (i := 261) (by decide +kernel)) rfl
theorem tw_263 : (Jvm.Cond.methodLink "AllocForge" (75 : Nat) ({ cls := "AllocForge$Allocation", name := "fill", desc := "(LAllocForge$Code;I)Z" } : Jvm.MethodName)) ∈ TG := tg_t (List.mem_of_getElem? (i := 263) (by decide +kernel)) rfl
theorem tw_264 : (Jvm.Cond.instanceMethod ({ cls := "AllocForge$Allocation", name := "fill", desc := "(LAllocForge$Code;I)Z" } : Jvm.MethodName)) ∈ TG := tg_t (List.mem_of_getElem? (i := 264) (by decide +kernel)) rfl
theorem tw_265 : (Jvm.Cond.selects "AllocForge$Allocation" ({ cls := "AllocForge$Allocation", name := "fill", desc := "(LAllocForge$Code;I)Z" } : Jvm.MethodName) ({ cls := "AllocForge$Allocation", name := "fill", desc := "(LAllocForge$Code;I)Z" } : Jvm.MethodName)) ∈ TG := tg_t (List.mem_of_getElem? (i := 265) (by decide +kernel)) rfl
theorem tw_266 : (Jvm.Cond.code ({ cls := "AllocForge$Allocation", name := "fill", desc := "(LAllocForge$Code;I)Z" } : Jvm.MethodName) prog_2_method_3_code (5 : Nat) (Option.some Jvm.ClassFile.FieldType.boolean)) ∈ TG := tg_t (List.mem_of_getElem? (i := 266) (by decide +kernel)) rfl
theorem tw_267 : (Jvm.Cond.methodLink "AllocForge$Allocation" (28 : Nat) ({ cls := "AllocForge$Allocation", name := "forget", desc := "()V" } : Jvm.MethodName)) ∈ TG := tg_t (List.mem_of_getElem? (i := 267) (by decide +kernel)) rfl
theorem tw_268 : (Jvm.Cond.constant "AllocForge$Allocation" (31 : Nat) (1000000 : Int32)) ∈ TG := tg_t (List.mem_of_getElem? (i := 268) (by decide +kernel)) rfl
theorem tw_269 : (Jvm.Cond.methodLink "AllocForge$Allocation" (32 : Nat) ({ cls := "AllocForge$Allocation", name := "longestWaiting", desc := "(LAllocForge$Code;)I" } : Jvm.MethodName)) ∈ TG := tg_t (List.mem_of_getElem? (i := 269) (by decide +kernel)) rfl
theorem tw_271 : (Jvm.Cond.instanceMethod ({ cls := "AllocForge$Allocation", name := "longestWaiting", desc := "(LAllocForge$Code;)I" } : Jvm.MethodName)) ∈ TG := tg_t (List.mem_of_getElem? (i := 271) (by decide +kernel)) rfl
theorem tw_272 : (Jvm.Cond.code ({ cls := "AllocForge$Allocation", name := "longestWaiting", desc := "(LAllocForge$Code;)I" } : Jvm.MethodName) prog_2_method_4_code (5 : Nat) (Option.some Jvm.ClassFile.FieldType.int)) ∈ TG := tg_t (List.mem_of_getElem? (i := 272) (by decide +kernel)) rfl
theorem tw_273 : (Jvm.Cond.methodLink "AllocForge$Allocation" (43 : Nat) ({ cls := "AllocForge$Code", name := "size", desc := "()I" } : Jvm.MethodName)) ∈ TG := tg_t (List.mem_of_getElem? (i := 273) (by decide +kernel)) rfl
theorem tw_274 : (Jvm.Cond.methodLink "AllocForge$Allocation" (49 : Nat) ({ cls := "AllocForge$Code", name := "isValue", desc := "(I)Z" } : Jvm.MethodName)) ∈ TG := tg_t (List.mem_of_getElem? (i := 274) (by decide +kernel)) rfl
theorem tw_275 : (Jvm.Cond.methodLink "AllocForge$Allocation" (53 : Nat) ({ cls := "AllocForge$Code", name := "lengthOf", desc := "(I)I" } : Jvm.MethodName)) ∈ TG := tg_t (List.mem_of_getElem? (i := 275) (by decide +kernel)) rfl
theorem tw_276 : (Jvm.Cond.instanceMethod ({ cls := "AllocForge$Code", name := "lengthOf", desc := "(I)I" } : Jvm.MethodName)) ∈ TG := tg_t (List.mem_of_getElem? (i := 276) (by decide +kernel)) rfl
theorem tw_277 : (Jvm.Cond.selects "AllocForge$Code" ({ cls := "AllocForge$Code", name := "lengthOf", desc := "(I)I" } : Jvm.MethodName) ({ cls := "AllocForge$Code", name := "lengthOf", desc := "(I)I" } : Jvm.MethodName)) ∈ TG := tg_t (List.mem_of_getElem? (i := 277) (by decide +kernel)) rfl
theorem tw_278 : (Jvm.Cond.code ({ cls := "AllocForge$Code", name := "lengthOf", desc := "(I)I" } : Jvm.MethodName) prog_3_method_17_code (2 : Nat) (Option.some Jvm.ClassFile.FieldType.int)) ∈ TG := tg_t (List.mem_of_getElem? (i := 278) (by decide +kernel)) rfl
theorem tw_279 : (Jvm.Cond.methodLink "AllocForge$Allocation" (36 : Nat) ({ cls := "AllocForge$Allocation", name := "takeRegister", desc := "(LAllocForge$Code;I)Z" } : Jvm.MethodName)) ∈ TG := tg_t (List.mem_of_getElem? (i := 279) (by decide +kernel)) rfl
theorem tw_281 : (Jvm.Cond.instanceMethod ({ cls := "AllocForge$Allocation", name := "takeRegister", desc := "(LAllocForge$Code;I)Z" } : Jvm.MethodName)) ∈ TG := tg_t (List.mem_of_getElem? (i := 281) (by decide +kernel)) rfl
theorem tw_282 : (Jvm.Cond.code ({ cls := "AllocForge$Allocation", name := "takeRegister", desc := "(LAllocForge$Code;I)Z" } : Jvm.MethodName) prog_2_method_5_code (10 : Nat) (Option.some Jvm.ClassFile.FieldType.boolean)) ∈ TG := tg_t (List.mem_of_getElem? (i := 282) (by decide +kernel)) rfl
theorem tw_283 : (Jvm.Cond.methodLink "AllocForge$Allocation" (57 : Nat) ({ cls := "AllocForge$Code", name := "isCrossed", desc := "(I)Z" } : Jvm.MethodName)) ∈ TG := tg_t (List.mem_of_getElem? (i := 283) (by decide +kernel)) rfl
theorem tw_284 : (Jvm.Cond.instanceMethod ({ cls := "AllocForge$Code", name := "isCrossed", desc := "(I)Z" } : Jvm.MethodName)) ∈ TG := tg_t (List.mem_of_getElem? (i := 284) (by decide +kernel)) rfl
theorem tw_285 : (Jvm.Cond.selects "AllocForge$Code" ({ cls := "AllocForge$Code", name := "isCrossed", desc := "(I)Z" } : Jvm.MethodName) ({ cls := "AllocForge$Code", name := "isCrossed", desc := "(I)Z" } : Jvm.MethodName)) ∈ TG := tg_t (List.mem_of_getElem? (i := 285) (by decide +kernel)) rfl
theorem tw_286 : (Jvm.Cond.code ({ cls := "AllocForge$Code", name := "isCrossed", desc := "(I)Z" } : Jvm.MethodName) prog_3_method_20_code (3 : Nat) (Option.some Jvm.ClassFile.FieldType.boolean)) ∈ TG := tg_t (List.mem_of_getElem? (i := 286) (by decide +kernel)) rfl
theorem tw_287 : (Jvm.Cond.methodLink "AllocForge$Allocation" (60 : Nat) ({ cls := "java/lang/Math", name := "min", desc := "(II)I" } : Jvm.MethodName)) ∈ TG := tg_t (List.mem_of_getElem? (i := 287) (by decide +kernel)) rfl
theorem tw_288 : (Jvm.Cond.static ({ cls := "java/lang/Math", name := "min", desc := "(II)I" } : Jvm.MethodName)) ∈ TG := tg_t (List.mem_of_getElem? (i := 288) (by decide +kernel)) rfl
theorem tw_289 : (Jvm.Cond.code ({ cls := "java/lang/Math", name := "min", desc := "(II)I" } : Jvm.MethodName) prog_12_method_69_code (2 : Nat) (Option.some Jvm.ClassFile.FieldType.int)) ∈ TG := tg_t (List.mem_of_getElem? (i := 289) (by decide +kernel)) rfl
theorem tw_290 : (Jvm.Cond.methodLink "AllocForge$Allocation" (66 : Nat) ({ cls := "AllocForge$Code", name := "weightOf", desc := "(I)D" } : Jvm.MethodName)) ∈ TG := tg_t (List.mem_of_getElem? (i := 290) (by decide +kernel)) rfl
theorem tw_291 : (Jvm.Cond.instanceMethod ({ cls := "AllocForge$Code", name := "weightOf", desc := "(I)D" } : Jvm.MethodName)) ∈ TG := tg_t (List.mem_of_getElem? (i := 291) (by decide +kernel)) rfl
theorem tw_292 : (Jvm.Cond.selects "AllocForge$Code" ({ cls := "AllocForge$Code", name := "weightOf", desc := "(I)D" } : Jvm.MethodName) ({ cls := "AllocForge$Code", name := "weightOf", desc := "(I)D" } : Jvm.MethodName)) ∈ TG := tg_t (List.mem_of_getElem? (i := 292) (by decide +kernel)) rfl
theorem tw_293 : (Jvm.Cond.code ({ cls := "AllocForge$Code", name := "weightOf", desc := "(I)D" } : Jvm.MethodName) prog_3_method_18_code (2 : Nat) (Option.some Jvm.ClassFile.FieldType.double)) ∈ TG := tg_t (List.mem_of_getElem? (i := 293) (by decide +kernel)) rfl
theorem tw_294 : (Jvm.Cond.methodLink "AllocForge$Code" (54 : Nat) ({ cls := "AllocForge$Code", name := "lengthOf", desc := "(I)I" } : Jvm.MethodName)) ∈ TG := tg_t (List.mem_of_getElem? (i := 294) (by decide +kernel)) rfl
theorem tw_295 : (Jvm.Cond.methodLink "AllocForge$Allocation" (70 : Nat) ({ cls := "AllocForge$Allocation", name := "heaviestMeeting", desc := "(LAllocForge$Code;II)D" } : Jvm.MethodName)) ∈ TG := tg_t (List.mem_of_getElem? (i := 295) (by decide +kernel)) rfl
theorem tw_297 : (Jvm.Cond.instanceMethod ({ cls := "AllocForge$Allocation", name := "heaviestMeeting", desc := "(LAllocForge$Code;II)D" } : Jvm.MethodName)) ∈ TG := tg_t (List.mem_of_getElem? (i := 297) (by decide +kernel)) rfl
theorem tw_298 : (Jvm.Cond.code ({ cls := "AllocForge$Allocation", name := "heaviestMeeting", desc := "(LAllocForge$Code;II)D" } : Jvm.MethodName) prog_2_method_6_code (7 : Nat) (Option.some Jvm.ClassFile.FieldType.double)) ∈ TG := tg_t (List.mem_of_getElem? (i := 298) (by decide +kernel)) rfl
theorem tw_299 : (Jvm.Cond.methodLink "AllocForge$Allocation" (78 : Nat) ({ cls := "AllocForge$Code", name := "meet", desc := "(II)Z" } : Jvm.MethodName)) ∈ TG := tg_t (List.mem_of_getElem? (i := 299) (by decide +kernel)) rfl
theorem tw_300 : (Jvm.Cond.instanceMethod ({ cls := "AllocForge$Code", name := "meet", desc := "(II)Z" } : Jvm.MethodName)) ∈ TG := tg_t (List.mem_of_getElem? (i := 300) (by decide +kernel)) rfl
theorem tw_301 : (Jvm.Cond.selects "AllocForge$Code" ({ cls := "AllocForge$Code", name := "meet", desc := "(II)Z" } : Jvm.MethodName) ({ cls := "AllocForge$Code", name := "meet", desc := "(II)Z" } : Jvm.MethodName)) ∈ TG := tg_t (List.mem_of_getElem? (i := 301) (by decide +kernel)) rfl
theorem tw_302 : (Jvm.Cond.code ({ cls := "AllocForge$Code", name := "meet", desc := "(II)Z" } : Jvm.MethodName) prog_3_method_19_code (3 : Nat) (Option.some Jvm.ClassFile.FieldType.boolean)) ∈ TG := tg_t (List.mem_of_getElem? (i := 302) (by decide +kernel)) rfl
theorem tw_303 : (Jvm.Cond.methodLink "AllocForge$Allocation" (74 : Nat) ({ cls := "AllocForge$Allocation", name := "evictMeeting", desc := "(LAllocForge$Code;II)V" } : Jvm.MethodName)) ∈ TG := tg_t (List.mem_of_getElem? (i := 303) (by decide +kernel)) rfl
theorem tw_305 : (Jvm.Cond.instanceMethod ({ cls := "AllocForge$Allocation", name := "evictMeeting", desc := "(LAllocForge$Code;II)V" } : Jvm.MethodName)) ∈ TG := tg_t (List.mem_of_getElem? (i := 305) (by decide +kernel)) rfl
theorem tw_306 : (Jvm.Cond.code ({ cls := "AllocForge$Allocation", name := "evictMeeting", desc := "(LAllocForge$Code;II)V" } : Jvm.MethodName) prog_2_method_7_code (5 : Nat) (Option.none : Option Jvm.ClassFile.FieldType)) ∈ TG := tg_t (List.mem_of_getElem? (i := 306) (by decide +kernel)) rfl
theorem tw_307 : (Jvm.Cond.methodLink "AllocForge$Allocation" (40 : Nat) ({ cls := "AllocForge$Allocation", name := "takeSlot", desc := "(LAllocForge$Code;I)Z" } : Jvm.MethodName)) ∈ TG := tg_t (List.mem_of_getElem? (i := 307) (by decide +kernel)) rfl
theorem tw_309 : (Jvm.Cond.instanceMethod ({ cls := "AllocForge$Allocation", name := "takeSlot", desc := "(LAllocForge$Code;I)Z" } : Jvm.MethodName)) ∈ TG := tg_t (List.mem_of_getElem? (i := 309) (by decide +kernel)) rfl
theorem tw_310 : (Jvm.Cond.code ({ cls := "AllocForge$Allocation", name := "takeSlot", desc := "(LAllocForge$Code;I)Z" } : Jvm.MethodName) prog_2_method_8_code (4 : Nat) (Option.some Jvm.ClassFile.FieldType.boolean)) ∈ TG := tg_t (List.mem_of_getElem? (i := 310) (by decide +kernel)) rfl
theorem tw_312 : (Jvm.Cond.methodLink "AllocForge" (81 : Nat) ({ cls := "AllocForge$Allocation", name := "valuesInRegisters", desc := "()I" } : Jvm.MethodName)) ∈ TG := tg_t (List.mem_of_getElem? (i := 312) (by decide +kernel)) rfl
theorem tw_313 : (Jvm.Cond.instanceMethod ({ cls := "AllocForge$Allocation", name := "valuesInRegisters", desc := "()I" } : Jvm.MethodName)) ∈ TG := tg_t (List.mem_of_getElem? (i := 313) (by decide +kernel)) rfl
theorem tw_314 : (Jvm.Cond.selects "AllocForge$Allocation" ({ cls := "AllocForge$Allocation", name := "valuesInRegisters", desc := "()I" } : Jvm.MethodName) ({ cls := "AllocForge$Allocation", name := "valuesInRegisters", desc := "()I" } : Jvm.MethodName)) ∈ TG := tg_t (List.mem_of_getElem? (i := 314) (by decide +kernel)) rfl
theorem tw_315 : (Jvm.Cond.code ({ cls := "AllocForge$Allocation", name := "valuesInRegisters", desc := "()I" } : Jvm.MethodName) prog_2_method_13_code (1 : Nat) (Option.some Jvm.ClassFile.FieldType.int)) ∈ TG := tg_t (List.mem_of_getElem? (i := 315) (by decide +kernel)) rfl
theorem tw_316 : (Jvm.Cond.methodLink "AllocForge$Allocation" (82 : Nat) ({ cls := "AllocForge$Allocation", name := "valuesFrom", desc := "(II)I" } : Jvm.MethodName)) ∈ TG := tg_t (List.mem_of_getElem? (i := 316) (by decide +kernel)) rfl
theorem tw_318 : (Jvm.Cond.instanceMethod ({ cls := "AllocForge$Allocation", name := "valuesFrom", desc := "(II)I" } : Jvm.MethodName)) ∈ TG := tg_t (List.mem_of_getElem? (i := 318) (by decide +kernel)) rfl
theorem tw_319 : (Jvm.Cond.code ({ cls := "AllocForge$Allocation", name := "valuesFrom", desc := "(II)I" } : Jvm.MethodName) prog_2_method_17_code (5 : Nat) (Option.some Jvm.ClassFile.FieldType.int)) ∈ TG := tg_t (List.mem_of_getElem? (i := 319) (by decide +kernel)) rfl
theorem tw_320 : (Jvm.Cond.methodLink "AllocForge$Allocation" (88 : Nat) ({ cls := "AllocForge$Allocation", name := "valuesAt", desc := "(I)I" } : Jvm.MethodName)) ∈ TG := tg_t (List.mem_of_getElem? (i := 320) (by decide +kernel)) rfl
theorem tw_322 : (Jvm.Cond.instanceMethod ({ cls := "AllocForge$Allocation", name := "valuesAt", desc := "(I)I" } : Jvm.MethodName)) ∈ TG := tg_t (List.mem_of_getElem? (i := 322) (by decide +kernel)) rfl
theorem tw_323 : (Jvm.Cond.code ({ cls := "AllocForge$Allocation", name := "valuesAt", desc := "(I)I" } : Jvm.MethodName) prog_2_method_19_code (4 : Nat) (Option.some Jvm.ClassFile.FieldType.int)) ∈ TG := tg_t (List.mem_of_getElem? (i := 323) (by decide +kernel)) rfl
theorem tw_324 : (Jvm.Cond.methodLink "AllocForgeLaw" (78 : Nat) ({ cls := "AllocForgeLaw", name := "place", desc := "(LAllocForge;I[J)I" } : Jvm.MethodName)) ∈ TG := tg_t (List.mem_of_getElem? (i := 324) (by decide +kernel)) rfl
theorem tw_325 : (Jvm.Cond.static ({ cls := "AllocForgeLaw", name := "place", desc := "(LAllocForge;I[J)I" } : Jvm.MethodName)) ∈ TG := tg_t (List.mem_of_getElem? (i := 325) (by decide +kernel)) rfl
theorem tw_326 : (Jvm.Cond.codeWith ({ cls := "AllocForgeLaw", name := "place", desc := "(LAllocForge;I[J)I" } : Jvm.MethodName) method_5_code (4 : Nat) (Option.some Jvm.ClassFile.FieldType.int) [((0 : Nat), (9 : Nat), (12 : Nat), (24 : Nat)), ((0 : Nat), (9 : Nat), (15 : Nat), (15 : Nat))]) ∈ TG := tg_t (List.mem_of_getElem? (i := 326) (by decide +kernel)) rfl
theorem tw_327 : (Jvm.Cond.classLink "AllocForgeLaw" (24 : Nat) "java/lang/IndexOutOfBoundsException") ∈ TG := tg_t (List.mem_of_getElem? (i := 327) (by decide +kernel)) rfl
theorem tw_328 : (Jvm.Cond.methodLink "AllocForgeLaw" (21 : Nat) ({ cls := "AllocForge", name := "place", desc := "(I)I" } : Jvm.MethodName)) ∈ TG := tg_t (List.mem_of_getElem? (i := 328) (by decide +kernel)) rfl
theorem tw_329 : (Jvm.Cond.instanceMethod ({ cls := "AllocForge", name := "place", desc := "(I)I" } : Jvm.MethodName)) ∈ TG := tg_t (List.mem_of_getElem? (i := 329) (by decide +kernel)) rfl
theorem tw_330 : (Jvm.Cond.selects "AllocForge" ({ cls := "AllocForge", name := "place", desc := "(I)I" } : Jvm.MethodName) ({ cls := "AllocForge", name := "place", desc := "(I)I" } : Jvm.MethodName)) ∈ TG := tg_t (List.mem_of_getElem? (i := 330) (by decide +kernel)) rfl
theorem tw_331 : (Jvm.Cond.code ({ cls := "AllocForge", name := "place", desc := "(I)I" } : Jvm.MethodName) prog_1_method_5_code (2 : Nat) (Option.some Jvm.ClassFile.FieldType.int)) ∈ TG := tg_t (List.mem_of_getElem? (i := 331) (by decide +kernel)) rfl
theorem tw_332 : (Jvm.Cond.methodLink "AllocForge" (84 : Nat) ({ cls := "AllocForge", name := "requireValue", desc := "(I)V" } : Jvm.MethodName)) ∈ TG := tg_t (List.mem_of_getElem? (i := 332) (by decide +kernel)) rfl
theorem tw_334 : (Jvm.Cond.instanceMethod ({ cls := "AllocForge", name := "requireValue", desc := "(I)V" } : Jvm.MethodName)) ∈ TG := tg_t (List.mem_of_getElem? (i := 334) (by decide +kernel)) rfl
theorem tw_335 : (Jvm.Cond.code ({ cls := "AllocForge", name := "requireValue", desc := "(I)V" } : Jvm.MethodName) prog_1_method_14_code (2 : Nat) (Option.none : Option Jvm.ClassFile.FieldType)) ∈ TG := tg_t (List.mem_of_getElem? (i := 335) (by decide +kernel)) rfl
theorem tw_336 : (Jvm.Cond.methodLink "AllocForge" (163 : Nat) ({ cls := "AllocForge$Code", name := "isValue", desc := "(I)Z" } : Jvm.MethodName)) ∈ TG := tg_t (List.mem_of_getElem? (i := 336) (by decide +kernel)) rfl
theorem tw_337 : (Jvm.Cond.classLink "AllocForge" (135 : Nat) "java/lang/IndexOutOfBoundsException") ∈ TG := tg_t (List.mem_of_getElem? (i := 337) (by decide +kernel)) rfl
theorem tw_338 : (Jvm.Cond.instantiable "java/lang/IndexOutOfBoundsException" (6 : Nat)) ∈ TG := tg_t (List.mem_of_getElem? (i := 338) (by decide +kernel)) rfl
theorem tw_340 : (Jvm.Cond.selects "java/lang/IndexOutOfBoundsException" ({ cls := "java/lang/Throwable", name := "fillInStackTrace", desc := "(I)Ljava/lang/Throwable;" } : Jvm.MethodName) ({ cls := "java/lang/Throwable", name := "fillInStackTrace", desc := "(I)Ljava/lang/Throwable;" } : Jvm.MethodName)) ∈ TG := tg_t (List.mem_of_getElem? (i := 340) (by decide +kernel)) rfl
theorem tw_341 : (Jvm.Cond.lays "java/lang/IndexOutOfBoundsException" "java/lang/Throwable" "cause" "Ljava/lang/Throwable;") ∈ TG := tg_t (List.mem_of_getElem? (i := 341) (by decide +kernel)) rfl
theorem tw_342 : (Jvm.Cond.lays "java/lang/IndexOutOfBoundsException" "java/lang/Throwable" "stackTrace" "[Ljava/lang/StackTraceElement;") ∈ TG := tg_t (List.mem_of_getElem? (i := 342) (by decide +kernel)) rfl
theorem tw_343 : (Jvm.Cond.lays "java/lang/IndexOutOfBoundsException" "java/lang/Throwable" "suppressedExceptions" "Ljava/util/List;") ∈ TG := tg_t (List.mem_of_getElem? (i := 343) (by decide +kernel)) rfl
theorem tw_344 : (Jvm.Cond.lays "java/lang/IndexOutOfBoundsException" "java/lang/Throwable" "detailMessage" "Ljava/lang/String;") ∈ TG := tg_t (List.mem_of_getElem? (i := 344) (by decide +kernel)) rfl
theorem tw_345 : (Jvm.Cond.lays "java/lang/IndexOutOfBoundsException" "java/lang/Throwable" "backtrace" "Ljava/lang/Object;") ∈ TG := tg_t (List.mem_of_getElem? (i := 345) (by decide +kernel)) rfl
theorem tw_347 : (Jvm.Cond.methodLink "AllocForge" (139 : Nat) ({ cls := "java/lang/IndexOutOfBoundsException", name := "<init>", desc := "(Ljava/lang/String;)V" } : Jvm.MethodName)) ∈ TG := tg_t (List.mem_of_getElem? (i := 347) (by decide +kernel)) rfl
theorem tw_348 : (Jvm.Cond.instanceMethod ({ cls := "java/lang/IndexOutOfBoundsException", name := "<init>", desc := "(Ljava/lang/String;)V" } : Jvm.MethodName)) ∈ TG := tg_t (List.mem_of_getElem? (i := 348) (by decide +kernel)) rfl
theorem tw_349 : (Jvm.Cond.code ({ cls := "java/lang/IndexOutOfBoundsException", name := "<init>", desc := "(Ljava/lang/String;)V" } : Jvm.MethodName) prog_11_method_2_code (2 : Nat) (Option.none : Option Jvm.ClassFile.FieldType)) ∈ TG := tg_t (List.mem_of_getElem? (i := 349) (by decide +kernel)) rfl
theorem tw_350 : (Jvm.Cond.methodLink "java/lang/IndexOutOfBoundsException" (7 : Nat) ({ cls := "java/lang/RuntimeException", name := "<init>", desc := "(Ljava/lang/String;)V" } : Jvm.MethodName)) ∈ TG := tg_t (List.mem_of_getElem? (i := 350) (by decide +kernel)) rfl
theorem tw_351 : (Jvm.Cond.lays "java/lang/IndexOutOfBoundsException" "java/lang/Throwable" "depth" "I") ∈ TG := tg_t (List.mem_of_getElem? (i := 351) (by decide +kernel)) rfl
theorem tw_352 : (Jvm.Cond.superclass "java/lang/IndexOutOfBoundsException" "java/lang/RuntimeException") ∈ TG := tg_t (List.mem_of_getElem? (i := 352) (by decide +kernel)) rfl
theorem tw_353 : (Jvm.Cond.methodLink "AllocForge" (88 : Nat) ({ cls := "AllocForge", name := "requireAllocated", desc := "()V" } : Jvm.MethodName)) ∈ TG := tg_t (List.mem_of_getElem? (i := 353) (by decide +kernel)) rfl
theorem tw_355 : (Jvm.Cond.instanceMethod ({ cls := "AllocForge", name := "requireAllocated", desc := "()V" } : Jvm.MethodName)) ∈ TG := tg_t (List.mem_of_getElem? (i := 355) (by decide +kernel)) rfl
theorem tw_356 : (Jvm.Cond.code ({ cls := "AllocForge", name := "requireAllocated", desc := "()V" } : Jvm.MethodName) prog_1_method_15_code (1 : Nat) (Option.none : Option Jvm.ClassFile.FieldType)) ∈ TG := tg_t (List.mem_of_getElem? (i := 356) (by decide +kernel)) rfl
theorem tw_357 : (Jvm.Cond.methodLink "AllocForge" (158 : Nat) ({ cls := "AllocForge$Allocation", name := "registers", desc := "()I" } : Jvm.MethodName)) ∈ TG := tg_t (List.mem_of_getElem? (i := 357) (by decide +kernel)) rfl
theorem tw_358 : (Jvm.Cond.instanceMethod ({ cls := "AllocForge$Allocation", name := "registers", desc := "()I" } : Jvm.MethodName)) ∈ TG := tg_t (List.mem_of_getElem? (i := 358) (by decide +kernel)) rfl
theorem tw_359 : (Jvm.Cond.selects "AllocForge$Allocation" ({ cls := "AllocForge$Allocation", name := "registers", desc := "()I" } : Jvm.MethodName) ({ cls := "AllocForge$Allocation", name := "registers", desc := "()I" } : Jvm.MethodName)) ∈ TG := tg_t (List.mem_of_getElem? (i := 359) (by decide +kernel)) rfl
theorem tw_360 : (Jvm.Cond.code ({ cls := "AllocForge$Allocation", name := "registers", desc := "()I" } : Jvm.MethodName) prog_2_method_9_code (1 : Nat) (Option.some Jvm.ClassFile.FieldType.int)) ∈ TG := tg_t (List.mem_of_getElem? (i := 360) (by decide +kernel)) rfl
theorem tw_362 : (Jvm.Cond.methodLink "AllocForge" (91 : Nat) ({ cls := "AllocForge$Allocation", name := "homeOf", desc := "(I)I" } : Jvm.MethodName)) ∈ TG := tg_t (List.mem_of_getElem? (i := 362) (by decide +kernel)) rfl
theorem tw_363 : (Jvm.Cond.instanceMethod ({ cls := "AllocForge$Allocation", name := "homeOf", desc := "(I)I" } : Jvm.MethodName)) ∈ TG := tg_t (List.mem_of_getElem? (i := 363) (by decide +kernel)) rfl
theorem tw_364 : (Jvm.Cond.selects "AllocForge$Allocation" ({ cls := "AllocForge$Allocation", name := "homeOf", desc := "(I)I" } : Jvm.MethodName) ({ cls := "AllocForge$Allocation", name := "homeOf", desc := "(I)I" } : Jvm.MethodName)) ∈ TG := tg_t (List.mem_of_getElem? (i := 364) (by decide +kernel)) rfl
theorem tw_365 : (Jvm.Cond.code ({ cls := "AllocForge$Allocation", name := "homeOf", desc := "(I)I" } : Jvm.MethodName) prog_2_method_12_code (2 : Nat) (Option.some Jvm.ClassFile.FieldType.int)) ∈ TG := tg_t (List.mem_of_getElem? (i := 365) (by decide +kernel)) rfl
theorem tw_366 : (Jvm.Cond.methodLink "AllocForgeLaw" (81 : Nat) ({ cls := "AllocForgeLaw", name := "weight", desc := "(LAllocForge;I[D)I" } : Jvm.MethodName)) ∈ TG := tg_t (List.mem_of_getElem? (i := 366) (by decide +kernel)) rfl
theorem tw_367 : (Jvm.Cond.static ({ cls := "AllocForgeLaw", name := "weight", desc := "(LAllocForge;I[D)I" } : Jvm.MethodName)) ∈ TG := tg_t (List.mem_of_getElem? (i := 367) (by decide +kernel)) rfl
theorem tw_368 : (Jvm.Cond.codeWith ({ cls := "AllocForgeLaw", name := "weight", desc := "(LAllocForge;I[D)I" } : Jvm.MethodName) method_6_code (4 : Nat) (Option.some Jvm.ClassFile.FieldType.int) [((0 : Nat), (8 : Nat), (11 : Nat), (24 : Nat))]) ∈ TG := tg_t (List.mem_of_getElem? (i := 368) (by decide +kernel)) rfl
theorem tw_369 : (Jvm.Cond.methodLink "AllocForgeLaw" (26 : Nat) ({ cls := "AllocForge", name := "weight", desc := "(I)D" } : Jvm.MethodName)) ∈ TG := tg_t (List.mem_of_getElem? (i := 369) (by decide +kernel)) rfl
theorem tw_370 : (Jvm.Cond.instanceMethod ({ cls := "AllocForge", name := "weight", desc := "(I)D" } : Jvm.MethodName)) ∈ TG := tg_t (List.mem_of_getElem? (i := 370) (by decide +kernel)) rfl
theorem tw_371 : (Jvm.Cond.selects "AllocForge" ({ cls := "AllocForge", name := "weight", desc := "(I)D" } : Jvm.MethodName) ({ cls := "AllocForge", name := "weight", desc := "(I)D" } : Jvm.MethodName)) ∈ TG := tg_t (List.mem_of_getElem? (i := 371) (by decide +kernel)) rfl
theorem tw_372 : (Jvm.Cond.code ({ cls := "AllocForge", name := "weight", desc := "(I)D" } : Jvm.MethodName) prog_1_method_6_code (2 : Nat) (Option.some Jvm.ClassFile.FieldType.double)) ∈ TG := tg_t (List.mem_of_getElem? (i := 372) (by decide +kernel)) rfl
theorem tw_373 : (Jvm.Cond.methodLink "AllocForge" (95 : Nat) ({ cls := "AllocForge$Code", name := "weightOf", desc := "(I)D" } : Jvm.MethodName)) ∈ TG := tg_t (List.mem_of_getElem? (i := 373) (by decide +kernel)) rfl
theorem tw_374 : (Jvm.Cond.methodLink "AllocForgeLaw" (85 : Nat) ({ cls := "AllocForgeLaw", name := "told", desc := "(LAllocForge;II[J)I" } : Jvm.MethodName)) ∈ TG := tg_t (List.mem_of_getElem? (i := 374) (by decide +kernel)) rfl
theorem tw_375 : (Jvm.Cond.static ({ cls := "AllocForgeLaw", name := "told", desc := "(LAllocForge;II[J)I" } : Jvm.MethodName)) ∈ TG := tg_t (List.mem_of_getElem? (i := 375) (by decide +kernel)) rfl
theorem tw_376 : (Jvm.Cond.codeWith ({ cls := "AllocForgeLaw", name := "told", desc := "(LAllocForge;II[J)I" } : Jvm.MethodName) method_7_code (5 : Nat) (Option.some Jvm.ClassFile.FieldType.int) [((0 : Nat), (10 : Nat), (13 : Nat), (13 : Nat)), ((0 : Nat), (10 : Nat), (17 : Nat), (24 : Nat))]) ∈ TG := tg_t (List.mem_of_getElem? (i := 376) (by decide +kernel)) rfl
theorem tw_377 : (Jvm.Cond.methodLink "AllocForgeLaw" (30 : Nat) ({ cls := "AllocForge", name := "told", desc := "(II)I" } : Jvm.MethodName)) ∈ TG := tg_t (List.mem_of_getElem? (i := 377) (by decide +kernel)) rfl
theorem tw_378 : (Jvm.Cond.instanceMethod ({ cls := "AllocForge", name := "told", desc := "(II)I" } : Jvm.MethodName)) ∈ TG := tg_t (List.mem_of_getElem? (i := 378) (by decide +kernel)) rfl
theorem tw_379 : (Jvm.Cond.selects "AllocForge" ({ cls := "AllocForge", name := "told", desc := "(II)I" } : Jvm.MethodName) ({ cls := "AllocForge", name := "told", desc := "(II)I" } : Jvm.MethodName)) ∈ TG := tg_t (List.mem_of_getElem? (i := 379) (by decide +kernel)) rfl
theorem tw_380 : (Jvm.Cond.code ({ cls := "AllocForge", name := "told", desc := "(II)I" } : Jvm.MethodName) prog_1_method_7_code (3 : Nat) (Option.some Jvm.ClassFile.FieldType.int)) ∈ TG := tg_t (List.mem_of_getElem? (i := 380) (by decide +kernel)) rfl
theorem tw_382 : (Jvm.Cond.methodLink "AllocForge" (101 : Nat) ({ cls := "AllocForge$Code", name := "endOf", desc := "(I)I" } : Jvm.MethodName)) ∈ TG := tg_t (List.mem_of_getElem? (i := 382) (by decide +kernel)) rfl
theorem tw_383 : (Jvm.Cond.instanceMethod ({ cls := "AllocForge$Code", name := "endOf", desc := "(I)I" } : Jvm.MethodName)) ∈ TG := tg_t (List.mem_of_getElem? (i := 383) (by decide +kernel)) rfl
theorem tw_384 : (Jvm.Cond.selects "AllocForge$Code" ({ cls := "AllocForge$Code", name := "endOf", desc := "(I)I" } : Jvm.MethodName) ({ cls := "AllocForge$Code", name := "endOf", desc := "(I)I" } : Jvm.MethodName)) ∈ TG := tg_t (List.mem_of_getElem? (i := 384) (by decide +kernel)) rfl
theorem tw_385 : (Jvm.Cond.code ({ cls := "AllocForge$Code", name := "endOf", desc := "(I)I" } : Jvm.MethodName) prog_3_method_14_code (2 : Nat) (Option.some Jvm.ClassFile.FieldType.int)) ∈ TG := tg_t (List.mem_of_getElem? (i := 385) (by decide +kernel)) rfl
theorem tw_386 : (Jvm.Cond.methodLink "AllocForge" (104 : Nat) ({ cls := "AllocForge$Code", name := "usesOf", desc := "(I)I" } : Jvm.MethodName)) ∈ TG := tg_t (List.mem_of_getElem? (i := 386) (by decide +kernel)) rfl
theorem tw_387 : (Jvm.Cond.instanceMethod ({ cls := "AllocForge$Code", name := "usesOf", desc := "(I)I" } : Jvm.MethodName)) ∈ TG := tg_t (List.mem_of_getElem? (i := 387) (by decide +kernel)) rfl
theorem tw_388 : (Jvm.Cond.selects "AllocForge$Code" ({ cls := "AllocForge$Code", name := "usesOf", desc := "(I)I" } : Jvm.MethodName) ({ cls := "AllocForge$Code", name := "usesOf", desc := "(I)I" } : Jvm.MethodName)) ∈ TG := tg_t (List.mem_of_getElem? (i := 388) (by decide +kernel)) rfl
theorem tw_389 : (Jvm.Cond.code ({ cls := "AllocForge$Code", name := "usesOf", desc := "(I)I" } : Jvm.MethodName) prog_3_method_15_code (2 : Nat) (Option.some Jvm.ClassFile.FieldType.int)) ∈ TG := tg_t (List.mem_of_getElem? (i := 389) (by decide +kernel)) rfl
theorem tw_390 : (Jvm.Cond.methodLink "AllocForge" (107 : Nat) ({ cls := "AllocForge$Code", name := "isCrossed", desc := "(I)Z" } : Jvm.MethodName)) ∈ TG := tg_t (List.mem_of_getElem? (i := 390) (by decide +kernel)) rfl
theorem tw_391 : (Jvm.Cond.methodLink "AllocForge" (111 : Nat) ({ cls := "AllocForge$Code", name := "othersMeeting", desc := "(I)I" } : Jvm.MethodName)) ∈ TG := tg_t (List.mem_of_getElem? (i := 391) (by decide +kernel)) rfl
theorem tw_392 : (Jvm.Cond.instanceMethod ({ cls := "AllocForge$Code", name := "othersMeeting", desc := "(I)I" } : Jvm.MethodName)) ∈ TG := tg_t (List.mem_of_getElem? (i := 392) (by decide +kernel)) rfl
theorem tw_393 : (Jvm.Cond.selects "AllocForge$Code" ({ cls := "AllocForge$Code", name := "othersMeeting", desc := "(I)I" } : Jvm.MethodName) ({ cls := "AllocForge$Code", name := "othersMeeting", desc := "(I)I" } : Jvm.MethodName)) ∈ TG := tg_t (List.mem_of_getElem? (i := 393) (by decide +kernel)) rfl
theorem tw_394 : (Jvm.Cond.code ({ cls := "AllocForge$Code", name := "othersMeeting", desc := "(I)I" } : Jvm.MethodName) prog_3_method_21_code (4 : Nat) (Option.some Jvm.ClassFile.FieldType.int)) ∈ TG := tg_t (List.mem_of_getElem? (i := 394) (by decide +kernel)) rfl
theorem tw_395 : (Jvm.Cond.methodLink "AllocForge$Code" (58 : Nat) ({ cls := "AllocForge$Code", name := "meet", desc := "(II)Z" } : Jvm.MethodName)) ∈ TG := tg_t (List.mem_of_getElem? (i := 395) (by decide +kernel)) rfl
theorem tw_396 : (Jvm.Cond.methodLink "AllocForgeLaw" (89 : Nat) ({ cls := "AllocForgeLaw", name := "cost", desc := "(LAllocForge;[D)I" } : Jvm.MethodName)) ∈ TG := tg_t (List.mem_of_getElem? (i := 396) (by decide +kernel)) rfl
theorem tw_397 : (Jvm.Cond.static ({ cls := "AllocForgeLaw", name := "cost", desc := "(LAllocForge;[D)I" } : Jvm.MethodName)) ∈ TG := tg_t (List.mem_of_getElem? (i := 397) (by decide +kernel)) rfl
theorem tw_398 : (Jvm.Cond.codeWith ({ cls := "AllocForgeLaw", name := "cost", desc := "(LAllocForge;[D)I" } : Jvm.MethodName) method_8_code (3 : Nat) (Option.some Jvm.ClassFile.FieldType.int) [((0 : Nat), (7 : Nat), (10 : Nat), (15 : Nat))]) ∈ TG := tg_t (List.mem_of_getElem? (i := 398) (by decide +kernel)) rfl
theorem tw_399 : (Jvm.Cond.methodLink "AllocForgeLaw" (34 : Nat) ({ cls := "AllocForge", name := "cost", desc := "()D" } : Jvm.MethodName)) ∈ TG := tg_t (List.mem_of_getElem? (i := 399) (by decide +kernel)) rfl
theorem tw_400 : (Jvm.Cond.instanceMethod ({ cls := "AllocForge", name := "cost", desc := "()D" } : Jvm.MethodName)) ∈ TG := tg_t (List.mem_of_getElem? (i := 400) (by decide +kernel)) rfl
theorem tw_401 : (Jvm.Cond.selects "AllocForge" ({ cls := "AllocForge", name := "cost", desc := "()D" } : Jvm.MethodName) ({ cls := "AllocForge", name := "cost", desc := "()D" } : Jvm.MethodName)) ∈ TG := tg_t (List.mem_of_getElem? (i := 401) (by decide +kernel)) rfl
theorem tw_402 : (Jvm.Cond.code ({ cls := "AllocForge", name := "cost", desc := "()D" } : Jvm.MethodName) prog_1_method_8_code (1 : Nat) (Option.some Jvm.ClassFile.FieldType.double)) ∈ TG := tg_t (List.mem_of_getElem? (i := 402) (by decide +kernel)) rfl
theorem tw_403 : (Jvm.Cond.methodLink "AllocForge" (114 : Nat) ({ cls := "AllocForge$Allocation", name := "priceOfSlots", desc := "(LAllocForge$Code;)D" } : Jvm.MethodName)) ∈ TG := tg_t (List.mem_of_getElem? (i := 403) (by decide +kernel)) rfl
theorem tw_404 : (Jvm.Cond.instanceMethod ({ cls := "AllocForge$Allocation", name := "priceOfSlots", desc := "(LAllocForge$Code;)D" } : Jvm.MethodName)) ∈ TG := tg_t (List.mem_of_getElem? (i := 404) (by decide +kernel)) rfl
theorem tw_405 : (Jvm.Cond.selects "AllocForge$Allocation" ({ cls := "AllocForge$Allocation", name := "priceOfSlots", desc := "(LAllocForge$Code;)D" } : Jvm.MethodName) ({ cls := "AllocForge$Allocation", name := "priceOfSlots", desc := "(LAllocForge$Code;)D" } : Jvm.MethodName)) ∈ TG := tg_t (List.mem_of_getElem? (i := 405) (by decide +kernel)) rfl
theorem tw_406 : (Jvm.Cond.code ({ cls := "AllocForge$Allocation", name := "priceOfSlots", desc := "(LAllocForge$Code;)D" } : Jvm.MethodName) prog_2_method_20_code (5 : Nat) (Option.some Jvm.ClassFile.FieldType.double)) ∈ TG := tg_t (List.mem_of_getElem? (i := 406) (by decide +kernel)) rfl
theorem tw_407 : (Jvm.Cond.methodLink "AllocForge$Allocation" (91 : Nat) ({ cls := "AllocForge$Code", name := "priceOf", desc := "(I)I" } : Jvm.MethodName)) ∈ TG := tg_t (List.mem_of_getElem? (i := 407) (by decide +kernel)) rfl
theorem tw_408 : (Jvm.Cond.instanceMethod ({ cls := "AllocForge$Code", name := "priceOf", desc := "(I)I" } : Jvm.MethodName)) ∈ TG := tg_t (List.mem_of_getElem? (i := 408) (by decide +kernel)) rfl
theorem tw_409 : (Jvm.Cond.selects "AllocForge$Code" ({ cls := "AllocForge$Code", name := "priceOf", desc := "(I)I" } : Jvm.MethodName) ({ cls := "AllocForge$Code", name := "priceOf", desc := "(I)I" } : Jvm.MethodName)) ∈ TG := tg_t (List.mem_of_getElem? (i := 409) (by decide +kernel)) rfl
theorem tw_410 : (Jvm.Cond.code ({ cls := "AllocForge$Code", name := "priceOf", desc := "(I)I" } : Jvm.MethodName) prog_3_method_16_code (2 : Nat) (Option.some Jvm.ClassFile.FieldType.int)) ∈ TG := tg_t (List.mem_of_getElem? (i := 410) (by decide +kernel)) rfl
theorem tw_411 : (Jvm.Cond.methodLink "AllocForgeLaw" (93 : Nat) ({ cls := "AllocForgeLaw", name := "run", desc := "(LAllocForge;IIII[J)I" } : Jvm.MethodName)) ∈ TG := tg_t (List.mem_of_getElem? (i := 411) (by decide +kernel)) rfl
theorem tw_412 : (Jvm.Cond.static ({ cls := "AllocForgeLaw", name := "run", desc := "(LAllocForge;IIII[J)I" } : Jvm.MethodName)) ∈ TG := tg_t (List.mem_of_getElem? (i := 412) (by decide +kernel)) rfl
theorem tw_413 : (Jvm.Cond.codeWith ({ cls := "AllocForgeLaw", name := "run", desc := "(LAllocForge;IIII[J)I" } : Jvm.MethodName) method_9_code (7 : Nat) (Option.some Jvm.ClassFile.FieldType.int) [((0 : Nat), (14 : Nat), (17 : Nat), (41 : Nat))]) ∈ TG := tg_t (List.mem_of_getElem? (i := 413) (by decide +kernel)) rfl
theorem tw_414 : (Jvm.Cond.classLink "AllocForgeLaw" (41 : Nat) "java/lang/ArithmeticException") ∈ TG := tg_t (List.mem_of_getElem? (i := 414) (by decide +kernel)) rfl
theorem tw_415 : (Jvm.Cond.methodLink "AllocForgeLaw" (38 : Nat) ({ cls := "AllocForge", name := "run", desc := "(IIII)I" } : Jvm.MethodName)) ∈ TG := tg_t (List.mem_of_getElem? (i := 415) (by decide +kernel)) rfl
theorem tw_416 : (Jvm.Cond.instanceMethod ({ cls := "AllocForge", name := "run", desc := "(IIII)I" } : Jvm.MethodName)) ∈ TG := tg_t (List.mem_of_getElem? (i := 416) (by decide +kernel)) rfl
theorem tw_417 : (Jvm.Cond.selects "AllocForge" ({ cls := "AllocForge", name := "run", desc := "(IIII)I" } : Jvm.MethodName) ({ cls := "AllocForge", name := "run", desc := "(IIII)I" } : Jvm.MethodName)) ∈ TG := tg_t (List.mem_of_getElem? (i := 417) (by decide +kernel)) rfl
theorem tw_418 : (Jvm.Cond.code ({ cls := "AllocForge", name := "run", desc := "(IIII)I" } : Jvm.MethodName) prog_1_method_9_code (5 : Nat) (Option.some Jvm.ClassFile.FieldType.int)) ∈ TG := tg_t (List.mem_of_getElem? (i := 418) (by decide +kernel)) rfl
theorem tw_419 : (Jvm.Cond.methodLink "AllocForge" (118 : Nat) ({ cls := "AllocForge", name := "runWritten", desc := "(IIII)V" } : Jvm.MethodName)) ∈ TG := tg_t (List.mem_of_getElem? (i := 419) (by decide +kernel)) rfl
theorem tw_421 : (Jvm.Cond.instanceMethod ({ cls := "AllocForge", name := "runWritten", desc := "(IIII)V" } : Jvm.MethodName)) ∈ TG := tg_t (List.mem_of_getElem? (i := 421) (by decide +kernel)) rfl
theorem tw_422 : (Jvm.Cond.code ({ cls := "AllocForge", name := "runWritten", desc := "(IIII)V" } : Jvm.MethodName) prog_1_method_16_code (5 : Nat) (Option.none : Option Jvm.ClassFile.FieldType)) ∈ TG := tg_t (List.mem_of_getElem? (i := 422) (by decide +kernel)) rfl
theorem tw_423 : (Jvm.Cond.methodLink "AllocForge" (170 : Nat) ({ cls := "AllocForge$Machine", name := "takeNumbers", desc := "(IIII)V" } : Jvm.MethodName)) ∈ TG := tg_t (List.mem_of_getElem? (i := 423) (by decide +kernel)) rfl
theorem tw_424 : (Jvm.Cond.instanceMethod ({ cls := "AllocForge$Machine", name := "takeNumbers", desc := "(IIII)V" } : Jvm.MethodName)) ∈ TG := tg_t (List.mem_of_getElem? (i := 424) (by decide +kernel)) rfl
theorem tw_425 : (Jvm.Cond.selects "AllocForge$Machine" ({ cls := "AllocForge$Machine", name := "takeNumbers", desc := "(IIII)V" } : Jvm.MethodName) ({ cls := "AllocForge$Machine", name := "takeNumbers", desc := "(IIII)V" } : Jvm.MethodName)) ∈ TG := tg_t (List.mem_of_getElem? (i := 425) (by decide +kernel)) rfl
theorem tw_426 : (Jvm.Cond.code ({ cls := "AllocForge$Machine", name := "takeNumbers", desc := "(IIII)V" } : Jvm.MethodName) prog_4_method_2_code (5 : Nat) (Option.none : Option Jvm.ClassFile.FieldType)) ∈ TG := tg_t (List.mem_of_getElem? (i := 426) (by decide +kernel)) rfl
theorem tw_427 : (Jvm.Cond.methodLink "AllocForge" (173 : Nat) ({ cls := "AllocForge$Machine", name := "perform", desc := "(LAllocForge$Code;[II)V" } : Jvm.MethodName)) ∈ TG := tg_t (List.mem_of_getElem? (i := 427) (by decide +kernel)) rfl
theorem tw_428 : (Jvm.Cond.instanceMethod ({ cls := "AllocForge$Machine", name := "perform", desc := "(LAllocForge$Code;[II)V" } : Jvm.MethodName)) ∈ TG := tg_t (List.mem_of_getElem? (i := 428) (by decide +kernel)) rfl
theorem tw_429 : (Jvm.Cond.selects "AllocForge$Machine" ({ cls := "AllocForge$Machine", name := "perform", desc := "(LAllocForge$Code;[II)V" } : Jvm.MethodName) ({ cls := "AllocForge$Machine", name := "perform", desc := "(LAllocForge$Code;[II)V" } : Jvm.MethodName)) ∈ TG := tg_t (List.mem_of_getElem? (i := 429) (by decide +kernel)) rfl
theorem tw_430 : (Jvm.Cond.code ({ cls := "AllocForge$Machine", name := "perform", desc := "(LAllocForge$Code;[II)V" } : Jvm.MethodName) prog_4_method_3_code (5 : Nat) (Option.none : Option Jvm.ClassFile.FieldType)) ∈ TG := tg_t (List.mem_of_getElem? (i := 430) (by decide +kernel)) rfl
theorem tw_431 : (Jvm.Cond.methodLink "AllocForge$Machine" (21 : Nat) ({ cls := "java/util/Arrays", name := "fill", desc := "([II)V" } : Jvm.MethodName)) ∈ TG := tg_t (List.mem_of_getElem? (i := 431) (by decide +kernel)) rfl
theorem tw_432 : (Jvm.Cond.methodLink "AllocForge$Machine" (38 : Nat) ({ cls := "AllocForge$Code", name := "size", desc := "()I" } : Jvm.MethodName)) ∈ TG := tg_t (List.mem_of_getElem? (i := 432) (by decide +kernel)) rfl
theorem tw_433 : (Jvm.Cond.methodLink "AllocForge$Machine" (44 : Nat) ({ cls := "AllocForge$Machine", name := "step", desc := "(LAllocForge$Code;I[II)V" } : Jvm.MethodName)) ∈ TG := tg_t (List.mem_of_getElem? (i := 433) (by decide +kernel)) rfl
theorem tw_435 : (Jvm.Cond.instanceMethod ({ cls := "AllocForge$Machine", name := "step", desc := "(LAllocForge$Code;I[II)V" } : Jvm.MethodName)) ∈ TG := tg_t (List.mem_of_getElem? (i := 435) (by decide +kernel)) rfl
theorem tw_436 : (Jvm.Cond.code ({ cls := "AllocForge$Machine", name := "step", desc := "(LAllocForge$Code;I[II)V" } : Jvm.MethodName) prog_4_method_4_code (8 : Nat) (Option.none : Option Jvm.ClassFile.FieldType)) ∈ TG := tg_t (List.mem_of_getElem? (i := 436) (by decide +kernel)) rfl
theorem tw_437 : (Jvm.Cond.methodLink "AllocForge$Machine" (48 : Nat) ({ cls := "AllocForge$Code", name := "opAt", desc := "(I)I" } : Jvm.MethodName)) ∈ TG := tg_t (List.mem_of_getElem? (i := 437) (by decide +kernel)) rfl
theorem tw_438 : (Jvm.Cond.instanceMethod ({ cls := "AllocForge$Code", name := "opAt", desc := "(I)I" } : Jvm.MethodName)) ∈ TG := tg_t (List.mem_of_getElem? (i := 438) (by decide +kernel)) rfl
theorem tw_439 : (Jvm.Cond.selects "AllocForge$Code" ({ cls := "AllocForge$Code", name := "opAt", desc := "(I)I" } : Jvm.MethodName) ({ cls := "AllocForge$Code", name := "opAt", desc := "(I)I" } : Jvm.MethodName)) ∈ TG := tg_t (List.mem_of_getElem? (i := 439) (by decide +kernel)) rfl
theorem tw_440 : (Jvm.Cond.code ({ cls := "AllocForge$Code", name := "opAt", desc := "(I)I" } : Jvm.MethodName) prog_3_method_10_code (2 : Nat) (Option.some Jvm.ClassFile.FieldType.int)) ∈ TG := tg_t (List.mem_of_getElem? (i := 440) (by decide +kernel)) rfl
theorem tw_441 : (Jvm.Cond.methodLink "AllocForge$Machine" (52 : Nat) ({ cls := "AllocForge$Code", name := "usesLeft", desc := "(I)Z" } : Jvm.MethodName)) ∈ TG := tg_t (List.mem_of_getElem? (i := 441) (by decide +kernel)) rfl
theorem tw_442 : (Jvm.Cond.methodLink "AllocForge$Machine" (56 : Nat) ({ cls := "AllocForge$Code", name := "leftAt", desc := "(I)I" } : Jvm.MethodName)) ∈ TG := tg_t (List.mem_of_getElem? (i := 442) (by decide +kernel)) rfl
theorem tw_443 : (Jvm.Cond.instanceMethod ({ cls := "AllocForge$Code", name := "leftAt", desc := "(I)I" } : Jvm.MethodName)) ∈ TG := tg_t (List.mem_of_getElem? (i := 443) (by decide +kernel)) rfl
theorem tw_444 : (Jvm.Cond.selects "AllocForge$Code" ({ cls := "AllocForge$Code", name := "leftAt", desc := "(I)I" } : Jvm.MethodName) ({ cls := "AllocForge$Code", name := "leftAt", desc := "(I)I" } : Jvm.MethodName)) ∈ TG := tg_t (List.mem_of_getElem? (i := 444) (by decide +kernel)) rfl
theorem tw_445 : (Jvm.Cond.code ({ cls := "AllocForge$Code", name := "leftAt", desc := "(I)I" } : Jvm.MethodName) prog_3_method_11_code (2 : Nat) (Option.some Jvm.ClassFile.FieldType.int)) ∈ TG := tg_t (List.mem_of_getElem? (i := 445) (by decide +kernel)) rfl
theorem tw_446 : (Jvm.Cond.methodLink "AllocForge$Machine" (59 : Nat) ({ cls := "AllocForge$Code", name := "usesRight", desc := "(I)Z" } : Jvm.MethodName)) ∈ TG := tg_t (List.mem_of_getElem? (i := 446) (by decide +kernel)) rfl
theorem tw_447 : (Jvm.Cond.methodLink "AllocForge$Machine" (62 : Nat) ({ cls := "AllocForge$Code", name := "rightAt", desc := "(I)I" } : Jvm.MethodName)) ∈ TG := tg_t (List.mem_of_getElem? (i := 447) (by decide +kernel)) rfl
theorem tw_448 : (Jvm.Cond.instanceMethod ({ cls := "AllocForge$Code", name := "rightAt", desc := "(I)I" } : Jvm.MethodName)) ∈ TG := tg_t (List.mem_of_getElem? (i := 448) (by decide +kernel)) rfl
theorem tw_449 : (Jvm.Cond.selects "AllocForge$Code" ({ cls := "AllocForge$Code", name := "rightAt", desc := "(I)I" } : Jvm.MethodName) ({ cls := "AllocForge$Code", name := "rightAt", desc := "(I)I" } : Jvm.MethodName)) ∈ TG := tg_t (List.mem_of_getElem? (i := 449) (by decide +kernel)) rfl
theorem tw_450 : (Jvm.Cond.code ({ cls := "AllocForge$Code", name := "rightAt", desc := "(I)I" } : Jvm.MethodName) prog_3_method_12_code (2 : Nat) (Option.some Jvm.ClassFile.FieldType.int)) ∈ TG := tg_t (List.mem_of_getElem? (i := 450) (by decide +kernel)) rfl
theorem tw_451 : (Jvm.Cond.methodLink "AllocForge$Machine" (65 : Nat) ({ cls := "AllocForge$Machine", name := "compute", desc := "(III)I" } : Jvm.MethodName)) ∈ TG := tg_t (List.mem_of_getElem? (i := 451) (by decide +kernel)) rfl
theorem tw_453 : (Jvm.Cond.instanceMethod ({ cls := "AllocForge$Machine", name := "compute", desc := "(III)I" } : Jvm.MethodName)) ∈ TG := tg_t (List.mem_of_getElem? (i := 453) (by decide +kernel)) rfl
theorem tw_454 : (Jvm.Cond.code ({ cls := "AllocForge$Machine", name := "compute", desc := "(III)I" } : Jvm.MethodName) prog_4_method_5_code (4 : Nat) (Option.some Jvm.ClassFile.FieldType.int)) ∈ TG := tg_t (List.mem_of_getElem? (i := 454) (by decide +kernel)) rfl
theorem tw_455 : (Jvm.Cond.methodLink "AllocForge$Machine" (73 : Nat) ({ cls := "AllocForge$Machine", name := "divide", desc := "(II)I" } : Jvm.MethodName)) ∈ TG := tg_t (List.mem_of_getElem? (i := 455) (by decide +kernel)) rfl
theorem tw_457 : (Jvm.Cond.instanceMethod ({ cls := "AllocForge$Machine", name := "divide", desc := "(II)I" } : Jvm.MethodName)) ∈ TG := tg_t (List.mem_of_getElem? (i := 457) (by decide +kernel)) rfl
theorem tw_458 : (Jvm.Cond.code ({ cls := "AllocForge$Machine", name := "divide", desc := "(II)I" } : Jvm.MethodName) prog_4_method_6_code (3 : Nat) (Option.some Jvm.ClassFile.FieldType.int)) ∈ TG := tg_t (List.mem_of_getElem? (i := 458) (by decide +kernel)) rfl
theorem tw_459 : (Jvm.Cond.methodLink "AllocForge$Machine" (69 : Nat) ({ cls := "AllocForge$Machine", name := "spoil", desc := "(I)V" } : Jvm.MethodName)) ∈ TG := tg_t (List.mem_of_getElem? (i := 459) (by decide +kernel)) rfl
theorem tw_461 : (Jvm.Cond.instanceMethod ({ cls := "AllocForge$Machine", name := "spoil", desc := "(I)V" } : Jvm.MethodName)) ∈ TG := tg_t (List.mem_of_getElem? (i := 461) (by decide +kernel)) rfl
theorem tw_462 : (Jvm.Cond.code ({ cls := "AllocForge$Machine", name := "spoil", desc := "(I)V" } : Jvm.MethodName) prog_4_method_7_code (3 : Nat) (Option.none : Option Jvm.ClassFile.FieldType)) ∈ TG := tg_t (List.mem_of_getElem? (i := 462) (by decide +kernel)) rfl
theorem tw_463 : (Jvm.Cond.methodLink "AllocForge" (121 : Nat) ({ cls := "AllocForge", name := "resultOf", desc := "(LAllocForge$Machine;)I" } : Jvm.MethodName)) ∈ TG := tg_t (List.mem_of_getElem? (i := 463) (by decide +kernel)) rfl
theorem tw_464 : (Jvm.Cond.static ({ cls := "AllocForge", name := "resultOf", desc := "(LAllocForge$Machine;)I" } : Jvm.MethodName)) ∈ TG := tg_t (List.mem_of_getElem? (i := 464) (by decide +kernel)) rfl
theorem tw_465 : (Jvm.Cond.code ({ cls := "AllocForge", name := "resultOf", desc := "(LAllocForge$Machine;)I" } : Jvm.MethodName) prog_1_method_18_code (1 : Nat) (Option.some Jvm.ClassFile.FieldType.int)) ∈ TG := tg_t (List.mem_of_getElem? (i := 465) (by decide +kernel)) rfl
theorem tw_466 : (Jvm.Cond.methodLink "AllocForge" (181 : Nat) ({ cls := "AllocForge$Machine", name := "hadFault", desc := "()Z" } : Jvm.MethodName)) ∈ TG := tg_t (List.mem_of_getElem? (i := 466) (by decide +kernel)) rfl
theorem tw_467 : (Jvm.Cond.instanceMethod ({ cls := "AllocForge$Machine", name := "hadFault", desc := "()Z" } : Jvm.MethodName)) ∈ TG := tg_t (List.mem_of_getElem? (i := 467) (by decide +kernel)) rfl
theorem tw_468 : (Jvm.Cond.selects "AllocForge$Machine" ({ cls := "AllocForge$Machine", name := "hadFault", desc := "()Z" } : Jvm.MethodName) ({ cls := "AllocForge$Machine", name := "hadFault", desc := "()Z" } : Jvm.MethodName)) ∈ TG := tg_t (List.mem_of_getElem? (i := 468) (by decide +kernel)) rfl
theorem tw_469 : (Jvm.Cond.code ({ cls := "AllocForge$Machine", name := "hadFault", desc := "()Z" } : Jvm.MethodName) prog_4_method_11_code (1 : Nat) (Option.some Jvm.ClassFile.FieldType.boolean)) ∈ TG := tg_t (List.mem_of_getElem? (i := 469) (by decide +kernel)) rfl
theorem tw_470 : (Jvm.Cond.classLink "AllocForge" (185 : Nat) "java/lang/ArithmeticException") ∈ TG := tg_t (List.mem_of_getElem? (i := 470) (by decide +kernel)) rfl
theorem tw_471 : (Jvm.Cond.instantiable "java/lang/ArithmeticException" (6 : Nat)) ∈ TG := tg_t (List.mem_of_getElem? (i := 471) (by decide +kernel)) rfl
theorem tw_473 : (Jvm.Cond.selects "java/lang/ArithmeticException" ({ cls := "java/lang/Throwable", name := "fillInStackTrace", desc := "(I)Ljava/lang/Throwable;" } : Jvm.MethodName) ({ cls := "java/lang/Throwable", name := "fillInStackTrace", desc := "(I)Ljava/lang/Throwable;" } : Jvm.MethodName)) ∈ TG := tg_t (List.mem_of_getElem? (i := 473) (by decide +kernel)) rfl
theorem tw_474 : (Jvm.Cond.lays "java/lang/ArithmeticException" "java/lang/Throwable" "cause" "Ljava/lang/Throwable;") ∈ TG := tg_t (List.mem_of_getElem? (i := 474) (by decide +kernel)) rfl
theorem tw_475 : (Jvm.Cond.lays "java/lang/ArithmeticException" "java/lang/Throwable" "stackTrace" "[Ljava/lang/StackTraceElement;") ∈ TG := tg_t (List.mem_of_getElem? (i := 475) (by decide +kernel)) rfl
theorem tw_476 : (Jvm.Cond.lays "java/lang/ArithmeticException" "java/lang/Throwable" "suppressedExceptions" "Ljava/util/List;") ∈ TG := tg_t (List.mem_of_getElem? (i := 476) (by decide +kernel)) rfl
theorem tw_477 : (Jvm.Cond.lays "java/lang/ArithmeticException" "java/lang/Throwable" "detailMessage" "Ljava/lang/String;") ∈ TG := tg_t (List.mem_of_getElem? (i := 477) (by decide +kernel)) rfl
theorem tw_478 : (Jvm.Cond.lays "java/lang/ArithmeticException" "java/lang/Throwable" "backtrace" "Ljava/lang/Object;") ∈ TG := tg_t (List.mem_of_getElem? (i := 478) (by decide +kernel)) rfl
theorem tw_480 : (Jvm.Cond.methodLink "AllocForge" (189 : Nat) ({ cls := "java/lang/ArithmeticException", name := "<init>", desc := "(Ljava/lang/String;)V" } : Jvm.MethodName)) ∈ TG := tg_t (List.mem_of_getElem? (i := 480) (by decide +kernel)) rfl
theorem tw_481 : (Jvm.Cond.instanceMethod ({ cls := "java/lang/ArithmeticException", name := "<init>", desc := "(Ljava/lang/String;)V" } : Jvm.MethodName)) ∈ TG := tg_t (List.mem_of_getElem? (i := 481) (by decide +kernel)) rfl
theorem tw_482 : (Jvm.Cond.code ({ cls := "java/lang/ArithmeticException", name := "<init>", desc := "(Ljava/lang/String;)V" } : Jvm.MethodName) prog_7_method_2_code (2 : Nat) (Option.none : Option Jvm.ClassFile.FieldType)) ∈ TG := tg_t (List.mem_of_getElem? (i := 482) (by decide +kernel)) rfl
theorem tw_483 : (Jvm.Cond.methodLink "java/lang/ArithmeticException" (7 : Nat) ({ cls := "java/lang/RuntimeException", name := "<init>", desc := "(Ljava/lang/String;)V" } : Jvm.MethodName)) ∈ TG := tg_t (List.mem_of_getElem? (i := 483) (by decide +kernel)) rfl
theorem tw_484 : (Jvm.Cond.lays "java/lang/ArithmeticException" "java/lang/Throwable" "depth" "I") ∈ TG := tg_t (List.mem_of_getElem? (i := 484) (by decide +kernel)) rfl
theorem tw_485 : (Jvm.Cond.superclass "java/lang/ArithmeticException" "java/lang/RuntimeException") ∈ TG := tg_t (List.mem_of_getElem? (i := 485) (by decide +kernel)) rfl
theorem tw_486 : (Jvm.Cond.methodLink "AllocForge" (190 : Nat) ({ cls := "AllocForge$Machine", name := "result", desc := "()I" } : Jvm.MethodName)) ∈ TG := tg_t (List.mem_of_getElem? (i := 486) (by decide +kernel)) rfl
theorem tw_487 : (Jvm.Cond.instanceMethod ({ cls := "AllocForge$Machine", name := "result", desc := "()I" } : Jvm.MethodName)) ∈ TG := tg_t (List.mem_of_getElem? (i := 487) (by decide +kernel)) rfl
theorem tw_488 : (Jvm.Cond.selects "AllocForge$Machine" ({ cls := "AllocForge$Machine", name := "result", desc := "()I" } : Jvm.MethodName) ({ cls := "AllocForge$Machine", name := "result", desc := "()I" } : Jvm.MethodName)) ∈ TG := tg_t (List.mem_of_getElem? (i := 488) (by decide +kernel)) rfl
theorem tw_489 : (Jvm.Cond.code ({ cls := "AllocForge$Machine", name := "result", desc := "()I" } : Jvm.MethodName) prog_4_method_10_code (1 : Nat) (Option.some Jvm.ClassFile.FieldType.int)) ∈ TG := tg_t (List.mem_of_getElem? (i := 489) (by decide +kernel)) rfl
theorem tw_490 : (Jvm.Cond.methodLink "AllocForgeLaw" (96 : Nat) ({ cls := "AllocForgeLaw", name := "go", desc := "(LAllocForge;IIII[J)I" } : Jvm.MethodName)) ∈ TG := tg_t (List.mem_of_getElem? (i := 490) (by decide +kernel)) rfl
theorem tw_491 : (Jvm.Cond.static ({ cls := "AllocForgeLaw", name := "go", desc := "(LAllocForge;IIII[J)I" } : Jvm.MethodName)) ∈ TG := tg_t (List.mem_of_getElem? (i := 491) (by decide +kernel)) rfl
theorem tw_492 : (Jvm.Cond.codeWith ({ cls := "AllocForgeLaw", name := "go", desc := "(LAllocForge;IIII[J)I" } : Jvm.MethodName) method_10_code (7 : Nat) (Option.some Jvm.ClassFile.FieldType.int) [((0 : Nat), (14 : Nat), (17 : Nat), (15 : Nat)), ((0 : Nat), (14 : Nat), (21 : Nat), (41 : Nat))]) ∈ TG := tg_t (List.mem_of_getElem? (i := 492) (by decide +kernel)) rfl
theorem tw_493 : (Jvm.Cond.methodLink "AllocForgeLaw" (43 : Nat) ({ cls := "AllocForge", name := "go", desc := "(IIII)I" } : Jvm.MethodName)) ∈ TG := tg_t (List.mem_of_getElem? (i := 493) (by decide +kernel)) rfl
theorem tw_494 : (Jvm.Cond.instanceMethod ({ cls := "AllocForge", name := "go", desc := "(IIII)I" } : Jvm.MethodName)) ∈ TG := tg_t (List.mem_of_getElem? (i := 494) (by decide +kernel)) rfl
theorem tw_495 : (Jvm.Cond.selects "AllocForge" ({ cls := "AllocForge", name := "go", desc := "(IIII)I" } : Jvm.MethodName) ({ cls := "AllocForge", name := "go", desc := "(IIII)I" } : Jvm.MethodName)) ∈ TG := tg_t (List.mem_of_getElem? (i := 495) (by decide +kernel)) rfl
theorem tw_496 : (Jvm.Cond.code ({ cls := "AllocForge", name := "go", desc := "(IIII)I" } : Jvm.MethodName) prog_1_method_10_code (5 : Nat) (Option.some Jvm.ClassFile.FieldType.int)) ∈ TG := tg_t (List.mem_of_getElem? (i := 496) (by decide +kernel)) rfl
theorem tw_497 : (Jvm.Cond.methodLink "AllocForge" (125 : Nat) ({ cls := "AllocForge", name := "runAllocated", desc := "(IIII)V" } : Jvm.MethodName)) ∈ TG := tg_t (List.mem_of_getElem? (i := 497) (by decide +kernel)) rfl
theorem tw_499 : (Jvm.Cond.instanceMethod ({ cls := "AllocForge", name := "runAllocated", desc := "(IIII)V" } : Jvm.MethodName)) ∈ TG := tg_t (List.mem_of_getElem? (i := 499) (by decide +kernel)) rfl
theorem tw_500 : (Jvm.Cond.code ({ cls := "AllocForge", name := "runAllocated", desc := "(IIII)V" } : Jvm.MethodName) prog_1_method_17_code (5 : Nat) (Option.none : Option Jvm.ClassFile.FieldType)) ∈ TG := tg_t (List.mem_of_getElem? (i := 500) (by decide +kernel)) rfl
theorem tw_501 : (Jvm.Cond.methodLink "AllocForge" (177 : Nat) ({ cls := "AllocForge$Allocation", name := "homes", desc := "()[I" } : Jvm.MethodName)) ∈ TG := tg_t (List.mem_of_getElem? (i := 501) (by decide +kernel)) rfl
theorem tw_502 : (Jvm.Cond.instanceMethod ({ cls := "AllocForge$Allocation", name := "homes", desc := "()[I" } : Jvm.MethodName)) ∈ TG := tg_t (List.mem_of_getElem? (i := 502) (by decide +kernel)) rfl
theorem tw_503 : (Jvm.Cond.selects "AllocForge$Allocation" ({ cls := "AllocForge$Allocation", name := "homes", desc := "()[I" } : Jvm.MethodName) ({ cls := "AllocForge$Allocation", name := "homes", desc := "()[I" } : Jvm.MethodName)) ∈ TG := tg_t (List.mem_of_getElem? (i := 503) (by decide +kernel)) rfl
theorem tw_504 : (Jvm.Cond.code ({ cls := "AllocForge$Allocation", name := "homes", desc := "()[I" } : Jvm.MethodName) prog_2_method_11_code (1 : Nat) (Option.some (Jvm.ClassFile.FieldType.array Jvm.ClassFile.FieldType.int))) ∈ TG := tg_t (List.mem_of_getElem? (i := 504) (by decide +kernel)) rfl
theorem tw_505 : (Jvm.Cond.methodLink "AllocForgeLaw" (99 : Nat) ({ cls := "AllocForgeLaw", name := "same", desc := "(LAllocForge;IIII[J)I" } : Jvm.MethodName)) ∈ TG := tg_t (List.mem_of_getElem? (i := 505) (by decide +kernel)) rfl
theorem tw_506 : (Jvm.Cond.static ({ cls := "AllocForgeLaw", name := "same", desc := "(LAllocForge;IIII[J)I" } : Jvm.MethodName)) ∈ TG := tg_t (List.mem_of_getElem? (i := 506) (by decide +kernel)) rfl
theorem tw_507 : (Jvm.Cond.codeWith ({ cls := "AllocForgeLaw", name := "same", desc := "(LAllocForge;IIII[J)I" } : Jvm.MethodName) method_11_code (7 : Nat) (Option.some Jvm.ClassFile.FieldType.int) [((0 : Nat), (21 : Nat), (24 : Nat), (15 : Nat))]) ∈ TG := tg_t (List.mem_of_getElem? (i := 507) (by decide +kernel)) rfl
theorem tw_508 : (Jvm.Cond.methodLink "AllocForgeLaw" (46 : Nat) ({ cls := "AllocForge", name := "same", desc := "(IIII)Z" } : Jvm.MethodName)) ∈ TG := tg_t (List.mem_of_getElem? (i := 508) (by decide +kernel)) rfl
theorem tw_509 : (Jvm.Cond.instanceMethod ({ cls := "AllocForge", name := "same", desc := "(IIII)Z" } : Jvm.MethodName)) ∈ TG := tg_t (List.mem_of_getElem? (i := 509) (by decide +kernel)) rfl
theorem tw_510 : (Jvm.Cond.selects "AllocForge" ({ cls := "AllocForge", name := "same", desc := "(IIII)Z" } : Jvm.MethodName) ({ cls := "AllocForge", name := "same", desc := "(IIII)Z" } : Jvm.MethodName)) ∈ TG := tg_t (List.mem_of_getElem? (i := 510) (by decide +kernel)) rfl
theorem tw_511 : (Jvm.Cond.code ({ cls := "AllocForge", name := "same", desc := "(IIII)Z" } : Jvm.MethodName) prog_1_method_11_code (5 : Nat) (Option.some Jvm.ClassFile.FieldType.boolean)) ∈ TG := tg_t (List.mem_of_getElem? (i := 511) (by decide +kernel)) rfl
theorem tw_512 : (Jvm.Cond.methodLink "AllocForge" (128 : Nat) ({ cls := "AllocForge$Machine", name := "endedLike", desc := "(LAllocForge$Machine;)Z" } : Jvm.MethodName)) ∈ TG := tg_t (List.mem_of_getElem? (i := 512) (by decide +kernel)) rfl
theorem tw_513 : (Jvm.Cond.instanceMethod ({ cls := "AllocForge$Machine", name := "endedLike", desc := "(LAllocForge$Machine;)Z" } : Jvm.MethodName)) ∈ TG := tg_t (List.mem_of_getElem? (i := 513) (by decide +kernel)) rfl
theorem tw_514 : (Jvm.Cond.selects "AllocForge$Machine" ({ cls := "AllocForge$Machine", name := "endedLike", desc := "(LAllocForge$Machine;)Z" } : Jvm.MethodName) ({ cls := "AllocForge$Machine", name := "endedLike", desc := "(LAllocForge$Machine;)Z" } : Jvm.MethodName)) ∈ TG := tg_t (List.mem_of_getElem? (i := 514) (by decide +kernel)) rfl
theorem tw_515 : (Jvm.Cond.code ({ cls := "AllocForge$Machine", name := "endedLike", desc := "(LAllocForge$Machine;)Z" } : Jvm.MethodName) prog_4_method_12_code (3 : Nat) (Option.some Jvm.ClassFile.FieldType.boolean)) ∈ TG := tg_t (List.mem_of_getElem? (i := 515) (by decide +kernel)) rfl
theorem tw_516 : (Jvm.Cond.methodLink "AllocForgeLaw" (102 : Nat) ({ cls := "AllocForgeLaw", name := "said", desc := "(LAllocForge;I[J)I" } : Jvm.MethodName)) ∈ TG := tg_t (List.mem_of_getElem? (i := 516) (by decide +kernel)) rfl
theorem tw_517 : (Jvm.Cond.static ({ cls := "AllocForgeLaw", name := "said", desc := "(LAllocForge;I[J)I" } : Jvm.MethodName)) ∈ TG := tg_t (List.mem_of_getElem? (i := 517) (by decide +kernel)) rfl
theorem tw_518 : (Jvm.Cond.codeWith ({ cls := "AllocForgeLaw", name := "said", desc := "(LAllocForge;I[J)I" } : Jvm.MethodName) method_12_code (4 : Nat) (Option.some Jvm.ClassFile.FieldType.int) [((0 : Nat), (9 : Nat), (12 : Nat), (24 : Nat))]) ∈ TG := tg_t (List.mem_of_getElem? (i := 518) (by decide +kernel)) rfl
theorem tw_519 : (Jvm.Cond.methodLink "AllocForgeLaw" (50 : Nat) ({ cls := "AllocForge", name := "said", desc := "(I)I" } : Jvm.MethodName)) ∈ TG := tg_t (List.mem_of_getElem? (i := 519) (by decide +kernel)) rfl
theorem tw_520 : (Jvm.Cond.instanceMethod ({ cls := "AllocForge", name := "said", desc := "(I)I" } : Jvm.MethodName)) ∈ TG := tg_t (List.mem_of_getElem? (i := 520) (by decide +kernel)) rfl
theorem tw_521 : (Jvm.Cond.selects "AllocForge" ({ cls := "AllocForge", name := "said", desc := "(I)I" } : Jvm.MethodName) ({ cls := "AllocForge", name := "said", desc := "(I)I" } : Jvm.MethodName)) ∈ TG := tg_t (List.mem_of_getElem? (i := 521) (by decide +kernel)) rfl
theorem tw_522 : (Jvm.Cond.code ({ cls := "AllocForge", name := "said", desc := "(I)I" } : Jvm.MethodName) prog_1_method_12_code (2 : Nat) (Option.some Jvm.ClassFile.FieldType.int)) ∈ TG := tg_t (List.mem_of_getElem? (i := 522) (by decide +kernel)) rfl
theorem tw_523 : (Jvm.Cond.methodLink "AllocForge" (132 : Nat) ({ cls := "AllocForge$Machine", name := "saidCount", desc := "()I" } : Jvm.MethodName)) ∈ TG := tg_t (List.mem_of_getElem? (i := 523) (by decide +kernel)) rfl
theorem tw_524 : (Jvm.Cond.instanceMethod ({ cls := "AllocForge$Machine", name := "saidCount", desc := "()I" } : Jvm.MethodName)) ∈ TG := tg_t (List.mem_of_getElem? (i := 524) (by decide +kernel)) rfl
theorem tw_525 : (Jvm.Cond.selects "AllocForge$Machine" ({ cls := "AllocForge$Machine", name := "saidCount", desc := "()I" } : Jvm.MethodName) ({ cls := "AllocForge$Machine", name := "saidCount", desc := "()I" } : Jvm.MethodName)) ∈ TG := tg_t (List.mem_of_getElem? (i := 525) (by decide +kernel)) rfl
theorem tw_526 : (Jvm.Cond.code ({ cls := "AllocForge$Machine", name := "saidCount", desc := "()I" } : Jvm.MethodName) prog_4_method_8_code (1 : Nat) (Option.some Jvm.ClassFile.FieldType.int)) ∈ TG := tg_t (List.mem_of_getElem? (i := 526) (by decide +kernel)) rfl
theorem tw_528 : (Jvm.Cond.methodLink "AllocForge" (140 : Nat) ({ cls := "AllocForge$Machine", name := "saidAt", desc := "(I)I" } : Jvm.MethodName)) ∈ TG := tg_t (List.mem_of_getElem? (i := 528) (by decide +kernel)) rfl
theorem tw_529 : (Jvm.Cond.instanceMethod ({ cls := "AllocForge$Machine", name := "saidAt", desc := "(I)I" } : Jvm.MethodName)) ∈ TG := tg_t (List.mem_of_getElem? (i := 529) (by decide +kernel)) rfl
theorem tw_530 : (Jvm.Cond.selects "AllocForge$Machine" ({ cls := "AllocForge$Machine", name := "saidAt", desc := "(I)I" } : Jvm.MethodName) ({ cls := "AllocForge$Machine", name := "saidAt", desc := "(I)I" } : Jvm.MethodName)) ∈ TG := tg_t (List.mem_of_getElem? (i := 530) (by decide +kernel)) rfl
theorem tw_531 : (Jvm.Cond.code ({ cls := "AllocForge$Machine", name := "saidAt", desc := "(I)I" } : Jvm.MethodName) prog_4_method_9_code (2 : Nat) (Option.some Jvm.ClassFile.FieldType.int)) ∈ TG := tg_t (List.mem_of_getElem? (i := 531) (by decide +kernel)) rfl
theorem tw_532 : (Jvm.Cond.methodLink "AllocForgeLaw" (105 : Nat) ({ cls := "AllocForgeLaw", name := "count", desc := "(LAllocForge;I[J)I" } : Jvm.MethodName)) ∈ TG := tg_t (List.mem_of_getElem? (i := 532) (by decide +kernel)) rfl
theorem tw_533 : (Jvm.Cond.static ({ cls := "AllocForgeLaw", name := "count", desc := "(LAllocForge;I[J)I" } : Jvm.MethodName)) ∈ TG := tg_t (List.mem_of_getElem? (i := 533) (by decide +kernel)) rfl
theorem tw_534 : (Jvm.Cond.codeWith ({ cls := "AllocForgeLaw", name := "count", desc := "(LAllocForge;I[J)I" } : Jvm.MethodName) method_13_code (4 : Nat) (Option.some Jvm.ClassFile.FieldType.int) [((0 : Nat), (9 : Nat), (12 : Nat), (13 : Nat))]) ∈ TG := tg_t (List.mem_of_getElem? (i := 534) (by decide +kernel)) rfl
theorem tw_535 : (Jvm.Cond.methodLink "AllocForgeLaw" (53 : Nat) ({ cls := "AllocForge", name := "count", desc := "(I)I" } : Jvm.MethodName)) ∈ TG := tg_t (List.mem_of_getElem? (i := 535) (by decide +kernel)) rfl
theorem tw_536 : (Jvm.Cond.instanceMethod ({ cls := "AllocForge", name := "count", desc := "(I)I" } : Jvm.MethodName)) ∈ TG := tg_t (List.mem_of_getElem? (i := 536) (by decide +kernel)) rfl
theorem tw_537 : (Jvm.Cond.selects "AllocForge" ({ cls := "AllocForge", name := "count", desc := "(I)I" } : Jvm.MethodName) ({ cls := "AllocForge", name := "count", desc := "(I)I" } : Jvm.MethodName)) ∈ TG := tg_t (List.mem_of_getElem? (i := 537) (by decide +kernel)) rfl
theorem tw_538 : (Jvm.Cond.code ({ cls := "AllocForge", name := "count", desc := "(I)I" } : Jvm.MethodName) prog_1_method_13_code (2 : Nat) (Option.some Jvm.ClassFile.FieldType.int)) ∈ TG := tg_t (List.mem_of_getElem? (i := 538) (by decide +kernel)) rfl
theorem tw_539 : (Jvm.Cond.methodLink "AllocForge" (143 : Nat) ({ cls := "AllocForge$Code", name := "values", desc := "()I" } : Jvm.MethodName)) ∈ TG := tg_t (List.mem_of_getElem? (i := 539) (by decide +kernel)) rfl
theorem tw_540 : (Jvm.Cond.instanceMethod ({ cls := "AllocForge$Code", name := "values", desc := "()I" } : Jvm.MethodName)) ∈ TG := tg_t (List.mem_of_getElem? (i := 540) (by decide +kernel)) rfl
theorem tw_541 : (Jvm.Cond.selects "AllocForge$Code" ({ cls := "AllocForge$Code", name := "values", desc := "()I" } : Jvm.MethodName) ({ cls := "AllocForge$Code", name := "values", desc := "()I" } : Jvm.MethodName)) ∈ TG := tg_t (List.mem_of_getElem? (i := 541) (by decide +kernel)) rfl
theorem tw_542 : (Jvm.Cond.code ({ cls := "AllocForge$Code", name := "values", desc := "()I" } : Jvm.MethodName) prog_3_method_9_code (1 : Nat) (Option.some Jvm.ClassFile.FieldType.int)) ∈ TG := tg_t (List.mem_of_getElem? (i := 542) (by decide +kernel)) rfl
theorem tw_543 : (Jvm.Cond.methodLink "AllocForge" (146 : Nat) ({ cls := "AllocForge$Allocation", name := "evictions", desc := "()I" } : Jvm.MethodName)) ∈ TG := tg_t (List.mem_of_getElem? (i := 543) (by decide +kernel)) rfl
theorem tw_544 : (Jvm.Cond.instanceMethod ({ cls := "AllocForge$Allocation", name := "evictions", desc := "()I" } : Jvm.MethodName)) ∈ TG := tg_t (List.mem_of_getElem? (i := 544) (by decide +kernel)) rfl
theorem tw_545 : (Jvm.Cond.selects "AllocForge$Allocation" ({ cls := "AllocForge$Allocation", name := "evictions", desc := "()I" } : Jvm.MethodName) ({ cls := "AllocForge$Allocation", name := "evictions", desc := "()I" } : Jvm.MethodName)) ∈ TG := tg_t (List.mem_of_getElem? (i := 545) (by decide +kernel)) rfl
theorem tw_546 : (Jvm.Cond.code ({ cls := "AllocForge$Allocation", name := "evictions", desc := "()I" } : Jvm.MethodName) prog_2_method_10_code (1 : Nat) (Option.some Jvm.ClassFile.FieldType.int)) ∈ TG := tg_t (List.mem_of_getElem? (i := 546) (by decide +kernel)) rfl
theorem tw_547 : (Jvm.Cond.methodLink "AllocForge" (149 : Nat) ({ cls := "AllocForge$Allocation", name := "valuesInSlots", desc := "()I" } : Jvm.MethodName)) ∈ TG := tg_t (List.mem_of_getElem? (i := 547) (by decide +kernel)) rfl
theorem tw_548 : (Jvm.Cond.instanceMethod ({ cls := "AllocForge$Allocation", name := "valuesInSlots", desc := "()I" } : Jvm.MethodName)) ∈ TG := tg_t (List.mem_of_getElem? (i := 548) (by decide +kernel)) rfl
theorem tw_549 : (Jvm.Cond.selects "AllocForge$Allocation" ({ cls := "AllocForge$Allocation", name := "valuesInSlots", desc := "()I" } : Jvm.MethodName) ({ cls := "AllocForge$Allocation", name := "valuesInSlots", desc := "()I" } : Jvm.MethodName)) ∈ TG := tg_t (List.mem_of_getElem? (i := 549) (by decide +kernel)) rfl
theorem tw_550 : (Jvm.Cond.code ({ cls := "AllocForge$Allocation", name := "valuesInSlots", desc := "()I" } : Jvm.MethodName) prog_2_method_14_code (1 : Nat) (Option.some Jvm.ClassFile.FieldType.int)) ∈ TG := tg_t (List.mem_of_getElem? (i := 550) (by decide +kernel)) rfl
theorem tw_551 : (Jvm.Cond.methodLink "AllocForge" (152 : Nat) ({ cls := "AllocForge$Allocation", name := "slotsUsed", desc := "()I" } : Jvm.MethodName)) ∈ TG := tg_t (List.mem_of_getElem? (i := 551) (by decide +kernel)) rfl
theorem tw_552 : (Jvm.Cond.instanceMethod ({ cls := "AllocForge$Allocation", name := "slotsUsed", desc := "()I" } : Jvm.MethodName)) ∈ TG := tg_t (List.mem_of_getElem? (i := 552) (by decide +kernel)) rfl
theorem tw_553 : (Jvm.Cond.selects "AllocForge$Allocation" ({ cls := "AllocForge$Allocation", name := "slotsUsed", desc := "()I" } : Jvm.MethodName) ({ cls := "AllocForge$Allocation", name := "slotsUsed", desc := "()I" } : Jvm.MethodName)) ∈ TG := tg_t (List.mem_of_getElem? (i := 553) (by decide +kernel)) rfl
theorem tw_554 : (Jvm.Cond.code ({ cls := "AllocForge$Allocation", name := "slotsUsed", desc := "()I" } : Jvm.MethodName) prog_2_method_16_code (1 : Nat) (Option.some Jvm.ClassFile.FieldType.int)) ∈ TG := tg_t (List.mem_of_getElem? (i := 554) (by decide +kernel)) rfl
theorem tw_555 : (Jvm.Cond.methodLink "AllocForge$Allocation" (85 : Nat) ({ cls := "AllocForge$Allocation", name := "homesUsed", desc := "(II)I" } : Jvm.MethodName)) ∈ TG := tg_t (List.mem_of_getElem? (i := 555) (by decide +kernel)) rfl
theorem tw_557 : (Jvm.Cond.instanceMethod ({ cls := "AllocForge$Allocation", name := "homesUsed", desc := "(II)I" } : Jvm.MethodName)) ∈ TG := tg_t (List.mem_of_getElem? (i := 557) (by decide +kernel)) rfl
theorem tw_558 : (Jvm.Cond.code ({ cls := "AllocForge$Allocation", name := "homesUsed", desc := "(II)I" } : Jvm.MethodName) prog_2_method_18_code (5 : Nat) (Option.some Jvm.ClassFile.FieldType.int)) ∈ TG := tg_t (List.mem_of_getElem? (i := 558) (by decide +kernel)) rfl
theorem tw_559 : (Jvm.Cond.methodLink "AllocForge" (155 : Nat) ({ cls := "AllocForge$Allocation", name := "registersUsed", desc := "()I" } : Jvm.MethodName)) ∈ TG := tg_t (List.mem_of_getElem? (i := 559) (by decide +kernel)) rfl
theorem tw_560 : (Jvm.Cond.instanceMethod ({ cls := "AllocForge$Allocation", name := "registersUsed", desc := "()I" } : Jvm.MethodName)) ∈ TG := tg_t (List.mem_of_getElem? (i := 560) (by decide +kernel)) rfl
theorem tw_561 : (Jvm.Cond.selects "AllocForge$Allocation" ({ cls := "AllocForge$Allocation", name := "registersUsed", desc := "()I" } : Jvm.MethodName) ({ cls := "AllocForge$Allocation", name := "registersUsed", desc := "()I" } : Jvm.MethodName)) ∈ TG := tg_t (List.mem_of_getElem? (i := 561) (by decide +kernel)) rfl
theorem tw_562 : (Jvm.Cond.code ({ cls := "AllocForge$Allocation", name := "registersUsed", desc := "()I" } : Jvm.MethodName) prog_2_method_15_code (1 : Nat) (Option.some Jvm.ClassFile.FieldType.int)) ∈ TG := tg_t (List.mem_of_getElem? (i := 562) (by decide +kernel)) rfl
theorem tw_564 : (Jvm.Cond.classLink "AllocForgeLaw" (57 : Nat) "AllocForgeModel") ∈ TG := tg_t (List.mem_of_getElem? (i := 564) (by decide +kernel)) rfl
theorem tw_565 : (Jvm.Cond.instantiable "AllocForgeModel" (18 : Nat)) ∈ TG := tg_t (List.mem_of_getElem? (i := 565) (by decide +kernel)) rfl
theorem tw_566 : (Jvm.Cond.methodLink "AllocForgeLaw" (59 : Nat) ({ cls := "AllocForgeModel", name := "<init>", desc := "()V" } : Jvm.MethodName)) ∈ TG := tg_t (List.mem_of_getElem? (i := 566) (by decide +kernel)) rfl
theorem tw_567 : (Jvm.Cond.instanceMethod ({ cls := "AllocForgeModel", name := "<init>", desc := "()V" } : Jvm.MethodName)) ∈ TG := tg_t (List.mem_of_getElem? (i := 567) (by decide +kernel)) rfl
theorem tw_568 : (Jvm.Cond.code ({ cls := "AllocForgeModel", name := "<init>", desc := "()V" } : Jvm.MethodName) prog_6_method_1_code (1 : Nat) (Option.none : Option Jvm.ClassFile.FieldType)) ∈ TG := tg_t (List.mem_of_getElem? (i := 568) (by decide +kernel)) rfl
theorem tw_569 : (Jvm.Cond.methodLink "AllocForgeModel" (1 : Nat) ({ cls := "java/lang/Object", name := "<init>", desc := "()V" } : Jvm.MethodName)) ∈ TG := tg_t (List.mem_of_getElem? (i := 569) (by decide +kernel)) rfl
theorem tw_570 : (Jvm.Cond.fieldLink "AllocForgeModel" (7 : Nat) "AllocForgeModel" "op" "[I") ∈ TG := tg_t (List.mem_of_getElem? (i := 570) (by decide +kernel)) rfl
theorem tw_571 : (Jvm.Cond.fieldLink "AllocForgeModel" (13 : Nat) "AllocForgeModel" "first" "[I") ∈ TG := tg_t (List.mem_of_getElem? (i := 571) (by decide +kernel)) rfl
theorem tw_572 : (Jvm.Cond.fieldLink "AllocForgeModel" (16 : Nat) "AllocForgeModel" "second" "[I") ∈ TG := tg_t (List.mem_of_getElem? (i := 572) (by decide +kernel)) rfl
theorem tw_573 : (Jvm.Cond.fieldLink "AllocForgeModel" (19 : Nat) "AllocForgeModel" "depth" "[I") ∈ TG := tg_t (List.mem_of_getElem? (i := 573) (by decide +kernel)) rfl
theorem tw_574 : (Jvm.Cond.fieldLink "AllocForgeModel" (22 : Nat) "AllocForgeModel" "place" "[I") ∈ TG := tg_t (List.mem_of_getElem? (i := 574) (by decide +kernel)) rfl
theorem tw_575 : (Jvm.Cond.fieldLink "AllocForgeModel" (25 : Nat) "AllocForgeModel" "made" "[I") ∈ TG := tg_t (List.mem_of_getElem? (i := 575) (by decide +kernel)) rfl
theorem tw_576 : (Jvm.Cond.fieldLink "AllocForgeModel" (28 : Nat) "AllocForgeModel" "value" "[I") ∈ TG := tg_t (List.mem_of_getElem? (i := 576) (by decide +kernel)) rfl
theorem tw_577 : (Jvm.Cond.fieldLink "AllocForgeModel" (31 : Nat) "AllocForgeModel" "cell" "[I") ∈ TG := tg_t (List.mem_of_getElem? (i := 577) (by decide +kernel)) rfl
theorem tw_578 : (Jvm.Cond.fieldLink "AllocForgeModel" (34 : Nat) "AllocForgeModel" "said" "[I") ∈ TG := tg_t (List.mem_of_getElem? (i := 578) (by decide +kernel)) rfl
theorem tw_579 : (Jvm.Cond.fieldLink "AllocForgeModel" (37 : Nat) "AllocForgeModel" "before" "[I") ∈ TG := tg_t (List.mem_of_getElem? (i := 579) (by decide +kernel)) rfl
theorem tw_580 : (Jvm.Cond.fieldLink "AllocForgeModel" (44 : Nat) "AllocForgeModel" "many" "I") ∈ TG := tg_t (List.mem_of_getElem? (i := 580) (by decide +kernel)) rfl
theorem tw_581 : (Jvm.Cond.fieldLink "AllocForgeModel" (111 : Nat) "AllocForgeModel" "evicted" "I") ∈ TG := tg_t (List.mem_of_getElem? (i := 581) (by decide +kernel)) rfl
theorem tw_582 : (Jvm.Cond.fieldLink "AllocForgeModel" (114 : Nat) "AllocForgeModel" "registers" "I") ∈ TG := tg_t (List.mem_of_getElem? (i := 582) (by decide +kernel)) rfl
theorem tw_583 : (Jvm.Cond.fieldLink "AllocForgeModel" (117 : Nat) "AllocForgeModel" "saidMany" "I") ∈ TG := tg_t (List.mem_of_getElem? (i := 583) (by decide +kernel)) rfl
theorem tw_584 : (Jvm.Cond.fieldLink "AllocForgeModel" (120 : Nat) "AllocForgeModel" "result" "I") ∈ TG := tg_t (List.mem_of_getElem? (i := 584) (by decide +kernel)) rfl
theorem tw_585 : (Jvm.Cond.fieldLink "AllocForgeModel" (40 : Nat) "AllocForgeModel" "thrown" "I") ∈ TG := tg_t (List.mem_of_getElem? (i := 585) (by decide +kernel)) rfl
theorem tw_586 : (Jvm.Cond.fieldLink "AllocForgeModel" (101 : Nat) "AllocForgeModel" "changed" "I") ∈ TG := tg_t (List.mem_of_getElem? (i := 586) (by decide +kernel)) rfl
theorem tw_587 : (Jvm.Cond.fieldLink "AllocForgeModel" (62 : Nat) "AllocForgeModel" "allocated" "Z") ∈ TG := tg_t (List.mem_of_getElem? (i := 587) (by decide +kernel)) rfl
theorem tw_588 : (Jvm.Cond.laysFinal "AllocForgeModel" "AllocForgeModel" "op" "[I") ∈ TG := tg_t (List.mem_of_getElem? (i := 588) (by decide +kernel)) rfl
theorem tw_589 : (Jvm.Cond.soleField "AllocForgeModel" "op") ∈ TG := tg_t (List.mem_of_getElem? (i := 589) (by decide +kernel)) rfl
theorem tw_590 : (Jvm.Cond.laysFinal "AllocForgeModel" "AllocForgeModel" "first" "[I") ∈ TG := tg_t (List.mem_of_getElem? (i := 590) (by decide +kernel)) rfl
theorem tw_591 : (Jvm.Cond.soleField "AllocForgeModel" "first") ∈ TG := tg_t (List.mem_of_getElem? (i := 591) (by decide +kernel)) rfl
theorem tw_592 : (Jvm.Cond.laysFinal "AllocForgeModel" "AllocForgeModel" "second" "[I") ∈ TG := tg_t (List.mem_of_getElem? (i := 592) (by decide +kernel)) rfl
theorem tw_593 : (Jvm.Cond.soleField "AllocForgeModel" "second") ∈ TG := tg_t (List.mem_of_getElem? (i := 593) (by decide +kernel)) rfl
theorem tw_594 : (Jvm.Cond.laysFinal "AllocForgeModel" "AllocForgeModel" "depth" "[I") ∈ TG := tg_t (List.mem_of_getElem? (i := 594) (by decide +kernel)) rfl
theorem tw_595 : (Jvm.Cond.soleField "AllocForgeModel" "depth") ∈ TG := tg_t (List.mem_of_getElem? (i := 595) (by decide +kernel)) rfl
theorem tw_596 : (Jvm.Cond.laysFinal "AllocForgeModel" "AllocForgeModel" "place" "[I") ∈ TG := tg_t (List.mem_of_getElem? (i := 596) (by decide +kernel)) rfl
theorem tw_597 : (Jvm.Cond.soleField "AllocForgeModel" "place") ∈ TG := tg_t (List.mem_of_getElem? (i := 597) (by decide +kernel)) rfl
theorem tw_598 : (Jvm.Cond.laysFinal "AllocForgeModel" "AllocForgeModel" "made" "[I") ∈ TG := tg_t (List.mem_of_getElem? (i := 598) (by decide +kernel)) rfl
theorem tw_599 : (Jvm.Cond.soleField "AllocForgeModel" "made") ∈ TG := tg_t (List.mem_of_getElem? (i := 599) (by decide +kernel)) rfl
theorem tw_600 : (Jvm.Cond.laysFinal "AllocForgeModel" "AllocForgeModel" "value" "[I") ∈ TG := tg_t (List.mem_of_getElem? (i := 600) (by decide +kernel)) rfl
theorem tw_601 : (Jvm.Cond.soleField "AllocForgeModel" "value") ∈ TG := tg_t (List.mem_of_getElem? (i := 601) (by decide +kernel)) rfl
theorem tw_602 : (Jvm.Cond.laysFinal "AllocForgeModel" "AllocForgeModel" "cell" "[I") ∈ TG := tg_t (List.mem_of_getElem? (i := 602) (by decide +kernel)) rfl
theorem tw_603 : (Jvm.Cond.soleField "AllocForgeModel" "cell") ∈ TG := tg_t (List.mem_of_getElem? (i := 603) (by decide +kernel)) rfl
theorem tw_604 : (Jvm.Cond.laysFinal "AllocForgeModel" "AllocForgeModel" "said" "[I") ∈ TG := tg_t (List.mem_of_getElem? (i := 604) (by decide +kernel)) rfl
theorem tw_605 : (Jvm.Cond.soleField "AllocForgeModel" "said") ∈ TG := tg_t (List.mem_of_getElem? (i := 605) (by decide +kernel)) rfl
theorem tw_606 : (Jvm.Cond.laysFinal "AllocForgeModel" "AllocForgeModel" "before" "[I") ∈ TG := tg_t (List.mem_of_getElem? (i := 606) (by decide +kernel)) rfl
theorem tw_607 : (Jvm.Cond.soleField "AllocForgeModel" "before") ∈ TG := tg_t (List.mem_of_getElem? (i := 607) (by decide +kernel)) rfl
theorem tw_608 : (Jvm.Cond.lays "AllocForgeModel" "AllocForgeModel" "many" "I") ∈ TG := tg_t (List.mem_of_getElem? (i := 608) (by decide +kernel)) rfl
theorem tw_609 : (Jvm.Cond.soleField "AllocForgeModel" "many") ∈ TG := tg_t (List.mem_of_getElem? (i := 609) (by decide +kernel)) rfl
theorem tw_610 : (Jvm.Cond.lays "AllocForgeModel" "AllocForgeModel" "evicted" "I") ∈ TG := tg_t (List.mem_of_getElem? (i := 610) (by decide +kernel)) rfl
theorem tw_611 : (Jvm.Cond.soleField "AllocForgeModel" "evicted") ∈ TG := tg_t (List.mem_of_getElem? (i := 611) (by decide +kernel)) rfl
theorem tw_612 : (Jvm.Cond.lays "AllocForgeModel" "AllocForgeModel" "registers" "I") ∈ TG := tg_t (List.mem_of_getElem? (i := 612) (by decide +kernel)) rfl
theorem tw_613 : (Jvm.Cond.soleField "AllocForgeModel" "registers") ∈ TG := tg_t (List.mem_of_getElem? (i := 613) (by decide +kernel)) rfl
theorem tw_614 : (Jvm.Cond.lays "AllocForgeModel" "AllocForgeModel" "saidMany" "I") ∈ TG := tg_t (List.mem_of_getElem? (i := 614) (by decide +kernel)) rfl
theorem tw_615 : (Jvm.Cond.soleField "AllocForgeModel" "saidMany") ∈ TG := tg_t (List.mem_of_getElem? (i := 615) (by decide +kernel)) rfl
theorem tw_616 : (Jvm.Cond.lays "AllocForgeModel" "AllocForgeModel" "result" "I") ∈ TG := tg_t (List.mem_of_getElem? (i := 616) (by decide +kernel)) rfl
theorem tw_617 : (Jvm.Cond.soleField "AllocForgeModel" "result") ∈ TG := tg_t (List.mem_of_getElem? (i := 617) (by decide +kernel)) rfl
theorem tw_618 : (Jvm.Cond.lays "AllocForgeModel" "AllocForgeModel" "thrown" "I") ∈ TG := tg_t (List.mem_of_getElem? (i := 618) (by decide +kernel)) rfl
theorem tw_619 : (Jvm.Cond.soleField "AllocForgeModel" "thrown") ∈ TG := tg_t (List.mem_of_getElem? (i := 619) (by decide +kernel)) rfl
theorem tw_620 : (Jvm.Cond.lays "AllocForgeModel" "AllocForgeModel" "changed" "I") ∈ TG := tg_t (List.mem_of_getElem? (i := 620) (by decide +kernel)) rfl
theorem tw_621 : (Jvm.Cond.soleField "AllocForgeModel" "changed") ∈ TG := tg_t (List.mem_of_getElem? (i := 621) (by decide +kernel)) rfl
theorem tw_622 : (Jvm.Cond.lays "AllocForgeModel" "AllocForgeModel" "allocated" "Z") ∈ TG := tg_t (List.mem_of_getElem? (i := 622) (by decide +kernel)) rfl
theorem tw_623 : (Jvm.Cond.soleField "AllocForgeModel" "allocated") ∈ TG := tg_t (List.mem_of_getElem? (i := 623) (by decide +kernel)) rfl
theorem tw_624 : (Jvm.Cond.superclass "AllocForgeModel" "java/lang/Object") ∈ TG := tg_t (List.mem_of_getElem? (i := 624) (by decide +kernel)) rfl
theorem tw_625 : (Jvm.Cond.methodLink "AllocForgeLaw" (66 : Nat) ({ cls := "AllocForgeModel", name := "thrown", desc := "()I" } : Jvm.MethodName)) ∈ TG := tg_t (List.mem_of_getElem? (i := 625) (by decide +kernel)) rfl
theorem tw_626 : (Jvm.Cond.instanceMethod ({ cls := "AllocForgeModel", name := "thrown", desc := "()I" } : Jvm.MethodName)) ∈ TG := tg_t (List.mem_of_getElem? (i := 626) (by decide +kernel)) rfl
theorem tw_627 : (Jvm.Cond.selects "AllocForgeModel" ({ cls := "AllocForgeModel", name := "thrown", desc := "()I" } : Jvm.MethodName) ({ cls := "AllocForgeModel", name := "thrown", desc := "()I" } : Jvm.MethodName)) ∈ TG := tg_t (List.mem_of_getElem? (i := 627) (by decide +kernel)) rfl
theorem tw_628 : (Jvm.Cond.code ({ cls := "AllocForgeModel", name := "thrown", desc := "()I" } : Jvm.MethodName) prog_6_method_2_code (1 : Nat) (Option.some Jvm.ClassFile.FieldType.int)) ∈ TG := tg_t (List.mem_of_getElem? (i := 628) (by decide +kernel)) rfl
theorem tw_629 : (Jvm.Cond.methodLink "AllocForgeLaw" (65 : Nat) ({ cls := "AllocForgeModel", name := "add", desc := "(IIII)I" } : Jvm.MethodName)) ∈ TG := tg_t (List.mem_of_getElem? (i := 629) (by decide +kernel)) rfl
theorem tw_630 : (Jvm.Cond.instanceMethod ({ cls := "AllocForgeModel", name := "add", desc := "(IIII)I" } : Jvm.MethodName)) ∈ TG := tg_t (List.mem_of_getElem? (i := 630) (by decide +kernel)) rfl
theorem tw_631 : (Jvm.Cond.selects "AllocForgeModel" ({ cls := "AllocForgeModel", name := "add", desc := "(IIII)I" } : Jvm.MethodName) ({ cls := "AllocForgeModel", name := "add", desc := "(IIII)I" } : Jvm.MethodName)) ∈ TG := tg_t (List.mem_of_getElem? (i := 631) (by decide +kernel)) rfl
theorem tw_632 : (Jvm.Cond.code ({ cls := "AllocForgeModel", name := "add", desc := "(IIII)I" } : Jvm.MethodName) prog_6_method_7_code (5 : Nat) (Option.some Jvm.ClassFile.FieldType.int)) ∈ TG := tg_t (List.mem_of_getElem? (i := 632) (by decide +kernel)) rfl
theorem tw_633 : (Jvm.Cond.methodLink "AllocForgeModel" (47 : Nat) ({ cls := "AllocForgeModel", name := "in", desc := "(III)Z" } : Jvm.MethodName)) ∈ TG := tg_t (List.mem_of_getElem? (i := 633) (by decide +kernel)) rfl
theorem tw_634 : (Jvm.Cond.static ({ cls := "AllocForgeModel", name := "in", desc := "(III)Z" } : Jvm.MethodName)) ∈ TG := tg_t (List.mem_of_getElem? (i := 634) (by decide +kernel)) rfl
theorem tw_635 : (Jvm.Cond.code ({ cls := "AllocForgeModel", name := "in", desc := "(III)Z" } : Jvm.MethodName) prog_6_method_3_code (3 : Nat) (Option.some Jvm.ClassFile.FieldType.boolean)) ∈ TG := tg_t (List.mem_of_getElem? (i := 635) (by decide +kernel)) rfl
theorem tw_636 : (Jvm.Cond.methodLink "AllocForgeModel" (51 : Nat) ({ cls := "AllocForgeModel", name := "isValue", desc := "(I)Z" } : Jvm.MethodName)) ∈ TG := tg_t (List.mem_of_getElem? (i := 636) (by decide +kernel)) rfl
theorem tw_638 : (Jvm.Cond.instanceMethod ({ cls := "AllocForgeModel", name := "isValue", desc := "(I)Z" } : Jvm.MethodName)) ∈ TG := tg_t (List.mem_of_getElem? (i := 638) (by decide +kernel)) rfl
theorem tw_639 : (Jvm.Cond.code ({ cls := "AllocForgeModel", name := "isValue", desc := "(I)Z" } : Jvm.MethodName) prog_6_method_5_code (2 : Nat) (Option.some Jvm.ClassFile.FieldType.boolean)) ∈ TG := tg_t (List.mem_of_getElem? (i := 639) (by decide +kernel)) rfl
theorem tw_640 : (Jvm.Cond.methodLink "AllocForgeModel" (55 : Nat) ({ cls := "AllocForgeModel", name := "isSum", desc := "(I)Z" } : Jvm.MethodName)) ∈ TG := tg_t (List.mem_of_getElem? (i := 640) (by decide +kernel)) rfl
theorem tw_641 : (Jvm.Cond.static ({ cls := "AllocForgeModel", name := "isSum", desc := "(I)Z" } : Jvm.MethodName)) ∈ TG := tg_t (List.mem_of_getElem? (i := 641) (by decide +kernel)) rfl
theorem tw_642 : (Jvm.Cond.code ({ cls := "AllocForgeModel", name := "isSum", desc := "(I)Z" } : Jvm.MethodName) prog_6_method_6_code (1 : Nat) (Option.some Jvm.ClassFile.FieldType.boolean)) ∈ TG := tg_t (List.mem_of_getElem? (i := 642) (by decide +kernel)) rfl
theorem tw_643 : (Jvm.Cond.methodLink "AllocForgeModel" (58 : Nat) ({ cls := "AllocForgeModel", name := "fail", desc := "(I)I" } : Jvm.MethodName)) ∈ TG := tg_t (List.mem_of_getElem? (i := 643) (by decide +kernel)) rfl
theorem tw_645 : (Jvm.Cond.instanceMethod ({ cls := "AllocForgeModel", name := "fail", desc := "(I)I" } : Jvm.MethodName)) ∈ TG := tg_t (List.mem_of_getElem? (i := 645) (by decide +kernel)) rfl
theorem tw_646 : (Jvm.Cond.code ({ cls := "AllocForgeModel", name := "fail", desc := "(I)I" } : Jvm.MethodName) prog_6_method_4_code (2 : Nat) (Option.some Jvm.ClassFile.FieldType.int)) ∈ TG := tg_t (List.mem_of_getElem? (i := 646) (by decide +kernel)) rfl
theorem tw_647 : (Jvm.Cond.methodLink "AllocForgeLaw" (73 : Nat) ({ cls := "AllocForgeModel", name := "clear", desc := "()I" } : Jvm.MethodName)) ∈ TG := tg_t (List.mem_of_getElem? (i := 647) (by decide +kernel)) rfl
theorem tw_648 : (Jvm.Cond.instanceMethod ({ cls := "AllocForgeModel", name := "clear", desc := "()I" } : Jvm.MethodName)) ∈ TG := tg_t (List.mem_of_getElem? (i := 648) (by decide +kernel)) rfl
theorem tw_649 : (Jvm.Cond.selects "AllocForgeModel" ({ cls := "AllocForgeModel", name := "clear", desc := "()I" } : Jvm.MethodName) ({ cls := "AllocForgeModel", name := "clear", desc := "()I" } : Jvm.MethodName)) ∈ TG := tg_t (List.mem_of_getElem? (i := 649) (by decide +kernel)) rfl
theorem tw_650 : (Jvm.Cond.code ({ cls := "AllocForgeModel", name := "clear", desc := "()I" } : Jvm.MethodName) prog_6_method_8_code (2 : Nat) (Option.some Jvm.ClassFile.FieldType.int)) ∈ TG := tg_t (List.mem_of_getElem? (i := 650) (by decide +kernel)) rfl
theorem tw_651 : (Jvm.Cond.methodLink "AllocForgeLaw" (77 : Nat) ({ cls := "AllocForgeModel", name := "allocate", desc := "(I)I" } : Jvm.MethodName)) ∈ TG := tg_t (List.mem_of_getElem? (i := 651) (by decide +kernel)) rfl
theorem tw_652 : (Jvm.Cond.instanceMethod ({ cls := "AllocForgeModel", name := "allocate", desc := "(I)I" } : Jvm.MethodName)) ∈ TG := tg_t (List.mem_of_getElem? (i := 652) (by decide +kernel)) rfl
theorem tw_653 : (Jvm.Cond.selects "AllocForgeModel" ({ cls := "AllocForgeModel", name := "allocate", desc := "(I)I" } : Jvm.MethodName) ({ cls := "AllocForgeModel", name := "allocate", desc := "(I)I" } : Jvm.MethodName)) ∈ TG := tg_t (List.mem_of_getElem? (i := 653) (by decide +kernel)) rfl
theorem tw_654 : (Jvm.Cond.code ({ cls := "AllocForgeModel", name := "allocate", desc := "(I)I" } : Jvm.MethodName) prog_6_method_21_code (5 : Nat) (Option.some Jvm.ClassFile.FieldType.int)) ∈ TG := tg_t (List.mem_of_getElem? (i := 654) (by decide +kernel)) rfl
theorem tw_655 : (Jvm.Cond.methodLink "AllocForgeModel" (104 : Nat) ({ cls := "AllocForgeModel", name := "next", desc := "()I" } : Jvm.MethodName)) ∈ TG := tg_t (List.mem_of_getElem? (i := 655) (by decide +kernel)) rfl
theorem tw_657 : (Jvm.Cond.instanceMethod ({ cls := "AllocForgeModel", name := "next", desc := "()I" } : Jvm.MethodName)) ∈ TG := tg_t (List.mem_of_getElem? (i := 657) (by decide +kernel)) rfl
theorem tw_658 : (Jvm.Cond.code ({ cls := "AllocForgeModel", name := "next", desc := "()I" } : Jvm.MethodName) prog_6_method_18_code (3 : Nat) (Option.some Jvm.ClassFile.FieldType.int)) ∈ TG := tg_t (List.mem_of_getElem? (i := 658) (by decide +kernel)) rfl
theorem tw_659 : (Jvm.Cond.methodLink "AllocForgeModel" (70 : Nat) ({ cls := "AllocForgeModel", name := "end", desc := "(I)I" } : Jvm.MethodName)) ∈ TG := tg_t (List.mem_of_getElem? (i := 659) (by decide +kernel)) rfl
theorem tw_661 : (Jvm.Cond.instanceMethod ({ cls := "AllocForgeModel", name := "end", desc := "(I)I" } : Jvm.MethodName)) ∈ TG := tg_t (List.mem_of_getElem? (i := 661) (by decide +kernel)) rfl
theorem tw_662 : (Jvm.Cond.code ({ cls := "AllocForgeModel", name := "end", desc := "(I)I" } : Jvm.MethodName) prog_6_method_10_code (4 : Nat) (Option.some Jvm.ClassFile.FieldType.int)) ∈ TG := tg_t (List.mem_of_getElem? (i := 662) (by decide +kernel)) rfl
theorem tw_663 : (Jvm.Cond.methodLink "AllocForgeModel" (66 : Nat) ({ cls := "AllocForgeModel", name := "uses", desc := "(II)I" } : Jvm.MethodName)) ∈ TG := tg_t (List.mem_of_getElem? (i := 663) (by decide +kernel)) rfl
theorem tw_665 : (Jvm.Cond.instanceMethod ({ cls := "AllocForgeModel", name := "uses", desc := "(II)I" } : Jvm.MethodName)) ∈ TG := tg_t (List.mem_of_getElem? (i := 665) (by decide +kernel)) rfl
theorem tw_666 : (Jvm.Cond.code ({ cls := "AllocForgeModel", name := "uses", desc := "(II)I" } : Jvm.MethodName) prog_6_method_9_code (3 : Nat) (Option.some Jvm.ClassFile.FieldType.int)) ∈ TG := tg_t (List.mem_of_getElem? (i := 666) (by decide +kernel)) rfl
theorem tw_667 : (Jvm.Cond.methodLink "AllocForgeModel" (108 : Nat) ({ cls := "AllocForgeModel", name := "give", desc := "(II)Z" } : Jvm.MethodName)) ∈ TG := tg_t (List.mem_of_getElem? (i := 667) (by decide +kernel)) rfl
theorem tw_669 : (Jvm.Cond.instanceMethod ({ cls := "AllocForgeModel", name := "give", desc := "(II)Z" } : Jvm.MethodName)) ∈ TG := tg_t (List.mem_of_getElem? (i := 669) (by decide +kernel)) rfl
theorem tw_670 : (Jvm.Cond.code ({ cls := "AllocForgeModel", name := "give", desc := "(II)Z" } : Jvm.MethodName) prog_6_method_20_code (7 : Nat) (Option.some Jvm.ClassFile.FieldType.boolean)) ∈ TG := tg_t (List.mem_of_getElem? (i := 670) (by decide +kernel)) rfl
theorem tw_671 : (Jvm.Cond.methodLink "AllocForgeModel" (90 : Nat) ({ cls := "AllocForgeModel", name := "isCrossed", desc := "(I)Z" } : Jvm.MethodName)) ∈ TG := tg_t (List.mem_of_getElem? (i := 671) (by decide +kernel)) rfl
theorem tw_673 : (Jvm.Cond.instanceMethod ({ cls := "AllocForgeModel", name := "isCrossed", desc := "(I)Z" } : Jvm.MethodName)) ∈ TG := tg_t (List.mem_of_getElem? (i := 673) (by decide +kernel)) rfl
theorem tw_674 : (Jvm.Cond.code ({ cls := "AllocForgeModel", name := "isCrossed", desc := "(I)Z" } : Jvm.MethodName) prog_6_method_12_code (4 : Nat) (Option.some Jvm.ClassFile.FieldType.boolean)) ∈ TG := tg_t (List.mem_of_getElem? (i := 674) (by decide +kernel)) rfl
theorem tw_675 : (Jvm.Cond.methodLink "AllocForgeModel" (93 : Nat) ({ cls := "AllocForgeModel", name := "free", desc := "(III)I" } : Jvm.MethodName)) ∈ TG := tg_t (List.mem_of_getElem? (i := 675) (by decide +kernel)) rfl
theorem tw_677 : (Jvm.Cond.instanceMethod ({ cls := "AllocForgeModel", name := "free", desc := "(III)I" } : Jvm.MethodName)) ∈ TG := tg_t (List.mem_of_getElem? (i := 677) (by decide +kernel)) rfl
theorem tw_678 : (Jvm.Cond.code ({ cls := "AllocForgeModel", name := "free", desc := "(III)I" } : Jvm.MethodName) prog_6_method_19_code (6 : Nat) (Option.some Jvm.ClassFile.FieldType.int)) ∈ TG := tg_t (List.mem_of_getElem? (i := 678) (by decide +kernel)) rfl
theorem tw_679 : (Jvm.Cond.methodLink "AllocForgeModel" (87 : Nat) ({ cls := "AllocForgeModel", name := "isFree", desc := "(II)Z" } : Jvm.MethodName)) ∈ TG := tg_t (List.mem_of_getElem? (i := 679) (by decide +kernel)) rfl
theorem tw_681 : (Jvm.Cond.instanceMethod ({ cls := "AllocForgeModel", name := "isFree", desc := "(II)Z" } : Jvm.MethodName)) ∈ TG := tg_t (List.mem_of_getElem? (i := 681) (by decide +kernel)) rfl
theorem tw_682 : (Jvm.Cond.code ({ cls := "AllocForgeModel", name := "isFree", desc := "(II)Z" } : Jvm.MethodName) prog_6_method_16_code (4 : Nat) (Option.some Jvm.ClassFile.FieldType.boolean)) ∈ TG := tg_t (List.mem_of_getElem? (i := 682) (by decide +kernel)) rfl
theorem tw_683 : (Jvm.Cond.methodLink "AllocForgeModel" (79 : Nat) ({ cls := "AllocForgeModel", name := "meet", desc := "(II)Z" } : Jvm.MethodName)) ∈ TG := tg_t (List.mem_of_getElem? (i := 683) (by decide +kernel)) rfl
theorem tw_685 : (Jvm.Cond.instanceMethod ({ cls := "AllocForgeModel", name := "meet", desc := "(II)Z" } : Jvm.MethodName)) ∈ TG := tg_t (List.mem_of_getElem? (i := 685) (by decide +kernel)) rfl
theorem tw_686 : (Jvm.Cond.code ({ cls := "AllocForgeModel", name := "meet", desc := "(II)Z" } : Jvm.MethodName) prog_6_method_11_code (3 : Nat) (Option.some Jvm.ClassFile.FieldType.boolean)) ∈ TG := tg_t (List.mem_of_getElem? (i := 686) (by decide +kernel)) rfl
theorem tw_687 : (Jvm.Cond.methodLink "AllocForgeModel" (97 : Nat) ({ cls := "AllocForgeModel", name := "heaviest", desc := "(II)D" } : Jvm.MethodName)) ∈ TG := tg_t (List.mem_of_getElem? (i := 687) (by decide +kernel)) rfl
theorem tw_689 : (Jvm.Cond.instanceMethod ({ cls := "AllocForgeModel", name := "heaviest", desc := "(II)D" } : Jvm.MethodName)) ∈ TG := tg_t (List.mem_of_getElem? (i := 689) (by decide +kernel)) rfl
theorem tw_690 : (Jvm.Cond.code ({ cls := "AllocForgeModel", name := "heaviest", desc := "(II)D" } : Jvm.MethodName) prog_6_method_17_code (8 : Nat) (Option.some Jvm.ClassFile.FieldType.double)) ∈ TG := tg_t (List.mem_of_getElem? (i := 690) (by decide +kernel)) rfl
theorem tw_691 : (Jvm.Cond.methodLink "AllocForgeModel" (83 : Nat) ({ cls := "AllocForgeModel", name := "heavy", desc := "(I)D" } : Jvm.MethodName)) ∈ TG := tg_t (List.mem_of_getElem? (i := 691) (by decide +kernel)) rfl
theorem tw_693 : (Jvm.Cond.instanceMethod ({ cls := "AllocForgeModel", name := "heavy", desc := "(I)D" } : Jvm.MethodName)) ∈ TG := tg_t (List.mem_of_getElem? (i := 693) (by decide +kernel)) rfl
theorem tw_694 : (Jvm.Cond.code ({ cls := "AllocForgeModel", name := "heavy", desc := "(I)D" } : Jvm.MethodName) prog_6_method_15_code (2 : Nat) (Option.some Jvm.ClassFile.FieldType.double)) ∈ TG := tg_t (List.mem_of_getElem? (i := 694) (by decide +kernel)) rfl
theorem tw_695 : (Jvm.Cond.methodLink "AllocForgeModel" (76 : Nat) ({ cls := "AllocForgeModel", name := "sum", desc := "(I)I" } : Jvm.MethodName)) ∈ TG := tg_t (List.mem_of_getElem? (i := 695) (by decide +kernel)) rfl
theorem tw_697 : (Jvm.Cond.instanceMethod ({ cls := "AllocForgeModel", name := "sum", desc := "(I)I" } : Jvm.MethodName)) ∈ TG := tg_t (List.mem_of_getElem? (i := 697) (by decide +kernel)) rfl
theorem tw_698 : (Jvm.Cond.code ({ cls := "AllocForgeModel", name := "sum", desc := "(I)I" } : Jvm.MethodName) prog_6_method_14_code (4 : Nat) (Option.some Jvm.ClassFile.FieldType.int)) ∈ TG := tg_t (List.mem_of_getElem? (i := 698) (by decide +kernel)) rfl
theorem tw_699 : (Jvm.Cond.methodLink "AllocForgeModel" (73 : Nat) ({ cls := "AllocForgeModel", name := "price", desc := "(I)I" } : Jvm.MethodName)) ∈ TG := tg_t (List.mem_of_getElem? (i := 699) (by decide +kernel)) rfl
theorem tw_700 : (Jvm.Cond.static ({ cls := "AllocForgeModel", name := "price", desc := "(I)I" } : Jvm.MethodName)) ∈ TG := tg_t (List.mem_of_getElem? (i := 700) (by decide +kernel)) rfl
theorem tw_701 : (Jvm.Cond.code ({ cls := "AllocForgeModel", name := "price", desc := "(I)I" } : Jvm.MethodName) prog_6_method_13_code (1 : Nat) (Option.some Jvm.ClassFile.FieldType.int)) ∈ TG := tg_t (List.mem_of_getElem? (i := 701) (by decide +kernel)) rfl
theorem tw_702 : (Jvm.Cond.methodLink "AllocForgeLaw" (80 : Nat) ({ cls := "AllocForgeModel", name := "place", desc := "(I)I" } : Jvm.MethodName)) ∈ TG := tg_t (List.mem_of_getElem? (i := 702) (by decide +kernel)) rfl
theorem tw_703 : (Jvm.Cond.instanceMethod ({ cls := "AllocForgeModel", name := "place", desc := "(I)I" } : Jvm.MethodName)) ∈ TG := tg_t (List.mem_of_getElem? (i := 703) (by decide +kernel)) rfl
theorem tw_704 : (Jvm.Cond.selects "AllocForgeModel" ({ cls := "AllocForgeModel", name := "place", desc := "(I)I" } : Jvm.MethodName) ({ cls := "AllocForgeModel", name := "place", desc := "(I)I" } : Jvm.MethodName)) ∈ TG := tg_t (List.mem_of_getElem? (i := 704) (by decide +kernel)) rfl
theorem tw_705 : (Jvm.Cond.code ({ cls := "AllocForgeModel", name := "place", desc := "(I)I" } : Jvm.MethodName) prog_6_method_22_code (3 : Nat) (Option.some Jvm.ClassFile.FieldType.int)) ∈ TG := tg_t (List.mem_of_getElem? (i := 705) (by decide +kernel)) rfl
theorem tw_706 : (Jvm.Cond.methodLink "AllocForgeLaw" (84 : Nat) ({ cls := "AllocForgeModel", name := "weight", desc := "(I)D" } : Jvm.MethodName)) ∈ TG := tg_t (List.mem_of_getElem? (i := 706) (by decide +kernel)) rfl
theorem tw_707 : (Jvm.Cond.instanceMethod ({ cls := "AllocForgeModel", name := "weight", desc := "(I)D" } : Jvm.MethodName)) ∈ TG := tg_t (List.mem_of_getElem? (i := 707) (by decide +kernel)) rfl
theorem tw_708 : (Jvm.Cond.selects "AllocForgeModel" ({ cls := "AllocForgeModel", name := "weight", desc := "(I)D" } : Jvm.MethodName) ({ cls := "AllocForgeModel", name := "weight", desc := "(I)D" } : Jvm.MethodName)) ∈ TG := tg_t (List.mem_of_getElem? (i := 708) (by decide +kernel)) rfl
theorem tw_709 : (Jvm.Cond.code ({ cls := "AllocForgeModel", name := "weight", desc := "(I)D" } : Jvm.MethodName) prog_6_method_23_code (3 : Nat) (Option.some Jvm.ClassFile.FieldType.double)) ∈ TG := tg_t (List.mem_of_getElem? (i := 709) (by decide +kernel)) rfl
theorem tw_710 : (Jvm.Cond.methodLink "AllocForgeLaw" (88 : Nat) ({ cls := "AllocForgeModel", name := "told", desc := "(II)I" } : Jvm.MethodName)) ∈ TG := tg_t (List.mem_of_getElem? (i := 710) (by decide +kernel)) rfl
theorem tw_711 : (Jvm.Cond.instanceMethod ({ cls := "AllocForgeModel", name := "told", desc := "(II)I" } : Jvm.MethodName)) ∈ TG := tg_t (List.mem_of_getElem? (i := 711) (by decide +kernel)) rfl
theorem tw_712 : (Jvm.Cond.selects "AllocForgeModel" ({ cls := "AllocForgeModel", name := "told", desc := "(II)I" } : Jvm.MethodName) ({ cls := "AllocForgeModel", name := "told", desc := "(II)I" } : Jvm.MethodName)) ∈ TG := tg_t (List.mem_of_getElem? (i := 712) (by decide +kernel)) rfl
theorem tw_713 : (Jvm.Cond.code ({ cls := "AllocForgeModel", name := "told", desc := "(II)I" } : Jvm.MethodName) prog_6_method_24_code (7 : Nat) (Option.some Jvm.ClassFile.FieldType.int)) ∈ TG := tg_t (List.mem_of_getElem? (i := 713) (by decide +kernel)) rfl
theorem tw_714 : (Jvm.Cond.methodLink "AllocForgeLaw" (92 : Nat) ({ cls := "AllocForgeModel", name := "cost", desc := "()D" } : Jvm.MethodName)) ∈ TG := tg_t (List.mem_of_getElem? (i := 714) (by decide +kernel)) rfl
theorem tw_715 : (Jvm.Cond.instanceMethod ({ cls := "AllocForgeModel", name := "cost", desc := "()D" } : Jvm.MethodName)) ∈ TG := tg_t (List.mem_of_getElem? (i := 715) (by decide +kernel)) rfl
theorem tw_716 : (Jvm.Cond.selects "AllocForgeModel" ({ cls := "AllocForgeModel", name := "cost", desc := "()D" } : Jvm.MethodName) ({ cls := "AllocForgeModel", name := "cost", desc := "()D" } : Jvm.MethodName)) ∈ TG := tg_t (List.mem_of_getElem? (i := 716) (by decide +kernel)) rfl
theorem tw_717 : (Jvm.Cond.code ({ cls := "AllocForgeModel", name := "cost", desc := "()D" } : Jvm.MethodName) prog_6_method_25_code (4 : Nat) (Option.some Jvm.ClassFile.FieldType.double)) ∈ TG := tg_t (List.mem_of_getElem? (i := 717) (by decide +kernel)) rfl
theorem tw_718 : (Jvm.Cond.methodLink "AllocForgeLaw" (95 : Nat) ({ cls := "AllocForgeModel", name := "run", desc := "(IIII)I" } : Jvm.MethodName)) ∈ TG := tg_t (List.mem_of_getElem? (i := 718) (by decide +kernel)) rfl
theorem tw_719 : (Jvm.Cond.instanceMethod ({ cls := "AllocForgeModel", name := "run", desc := "(IIII)I" } : Jvm.MethodName)) ∈ TG := tg_t (List.mem_of_getElem? (i := 719) (by decide +kernel)) rfl
theorem tw_720 : (Jvm.Cond.selects "AllocForgeModel" ({ cls := "AllocForgeModel", name := "run", desc := "(IIII)I" } : Jvm.MethodName) ({ cls := "AllocForgeModel", name := "run", desc := "(IIII)I" } : Jvm.MethodName)) ∈ TG := tg_t (List.mem_of_getElem? (i := 720) (by decide +kernel)) rfl
theorem tw_721 : (Jvm.Cond.code ({ cls := "AllocForgeModel", name := "run", desc := "(IIII)I" } : Jvm.MethodName) prog_6_method_28_code (6 : Nat) (Option.some Jvm.ClassFile.FieldType.int)) ∈ TG := tg_t (List.mem_of_getElem? (i := 721) (by decide +kernel)) rfl
theorem tw_722 : (Jvm.Cond.methodLink "AllocForgeModel" (127 : Nat) ({ cls := "AllocForgeModel", name := "perform", desc := "(IIIIZ)Z" } : Jvm.MethodName)) ∈ TG := tg_t (List.mem_of_getElem? (i := 722) (by decide +kernel)) rfl
theorem tw_724 : (Jvm.Cond.instanceMethod ({ cls := "AllocForgeModel", name := "perform", desc := "(IIIIZ)Z" } : Jvm.MethodName)) ∈ TG := tg_t (List.mem_of_getElem? (i := 724) (by decide +kernel)) rfl
theorem tw_725 : (Jvm.Cond.code ({ cls := "AllocForgeModel", name := "perform", desc := "(IIIIZ)Z" } : Jvm.MethodName) prog_6_method_27_code (12 : Nat) (Option.some Jvm.ClassFile.FieldType.boolean)) ∈ TG := tg_t (List.mem_of_getElem? (i := 725) (by decide +kernel)) rfl
theorem tw_726 : (Jvm.Cond.methodLink "AllocForgeModel" (123 : Nat) ({ cls := "AllocForgeModel", name := "taken", desc := "(IZ)I" } : Jvm.MethodName)) ∈ TG := tg_t (List.mem_of_getElem? (i := 726) (by decide +kernel)) rfl
theorem tw_728 : (Jvm.Cond.instanceMethod ({ cls := "AllocForgeModel", name := "taken", desc := "(IZ)I" } : Jvm.MethodName)) ∈ TG := tg_t (List.mem_of_getElem? (i := 728) (by decide +kernel)) rfl
theorem tw_729 : (Jvm.Cond.code ({ cls := "AllocForgeModel", name := "taken", desc := "(IZ)I" } : Jvm.MethodName) prog_6_method_26_code (3 : Nat) (Option.some Jvm.ClassFile.FieldType.int)) ∈ TG := tg_t (List.mem_of_getElem? (i := 729) (by decide +kernel)) rfl
theorem tw_730 : (Jvm.Cond.methodLink "AllocForgeLaw" (98 : Nat) ({ cls := "AllocForgeModel", name := "go", desc := "(IIII)I" } : Jvm.MethodName)) ∈ TG := tg_t (List.mem_of_getElem? (i := 730) (by decide +kernel)) rfl
theorem tw_731 : (Jvm.Cond.instanceMethod ({ cls := "AllocForgeModel", name := "go", desc := "(IIII)I" } : Jvm.MethodName)) ∈ TG := tg_t (List.mem_of_getElem? (i := 731) (by decide +kernel)) rfl
theorem tw_732 : (Jvm.Cond.selects "AllocForgeModel" ({ cls := "AllocForgeModel", name := "go", desc := "(IIII)I" } : Jvm.MethodName) ({ cls := "AllocForgeModel", name := "go", desc := "(IIII)I" } : Jvm.MethodName)) ∈ TG := tg_t (List.mem_of_getElem? (i := 732) (by decide +kernel)) rfl
theorem tw_733 : (Jvm.Cond.code ({ cls := "AllocForgeModel", name := "go", desc := "(IIII)I" } : Jvm.MethodName) prog_6_method_29_code (6 : Nat) (Option.some Jvm.ClassFile.FieldType.int)) ∈ TG := tg_t (List.mem_of_getElem? (i := 733) (by decide +kernel)) rfl
theorem tw_734 : (Jvm.Cond.methodLink "AllocForgeLaw" (101 : Nat) ({ cls := "AllocForgeModel", name := "same", desc := "(IIII)Z" } : Jvm.MethodName)) ∈ TG := tg_t (List.mem_of_getElem? (i := 734) (by decide +kernel)) rfl
theorem tw_735 : (Jvm.Cond.instanceMethod ({ cls := "AllocForgeModel", name := "same", desc := "(IIII)Z" } : Jvm.MethodName)) ∈ TG := tg_t (List.mem_of_getElem? (i := 735) (by decide +kernel)) rfl
theorem tw_736 : (Jvm.Cond.selects "AllocForgeModel" ({ cls := "AllocForgeModel", name := "same", desc := "(IIII)Z" } : Jvm.MethodName) ({ cls := "AllocForgeModel", name := "same", desc := "(IIII)Z" } : Jvm.MethodName)) ∈ TG := tg_t (List.mem_of_getElem? (i := 736) (by decide +kernel)) rfl
theorem tw_737 : (Jvm.Cond.code ({ cls := "AllocForgeModel", name := "same", desc := "(IIII)Z" } : Jvm.MethodName) prog_6_method_30_code (10 : Nat) (Option.some Jvm.ClassFile.FieldType.boolean)) ∈ TG := tg_t (List.mem_of_getElem? (i := 737) (by decide +kernel)) rfl
theorem tw_738 : (Jvm.Cond.methodLink "AllocForgeLaw" (104 : Nat) ({ cls := "AllocForgeModel", name := "said", desc := "(I)I" } : Jvm.MethodName)) ∈ TG := tg_t (List.mem_of_getElem? (i := 738) (by decide +kernel)) rfl
theorem tw_739 : (Jvm.Cond.instanceMethod ({ cls := "AllocForgeModel", name := "said", desc := "(I)I" } : Jvm.MethodName)) ∈ TG := tg_t (List.mem_of_getElem? (i := 739) (by decide +kernel)) rfl
theorem tw_740 : (Jvm.Cond.selects "AllocForgeModel" ({ cls := "AllocForgeModel", name := "said", desc := "(I)I" } : Jvm.MethodName) ({ cls := "AllocForgeModel", name := "said", desc := "(I)I" } : Jvm.MethodName)) ∈ TG := tg_t (List.mem_of_getElem? (i := 740) (by decide +kernel)) rfl
theorem tw_741 : (Jvm.Cond.code ({ cls := "AllocForgeModel", name := "said", desc := "(I)I" } : Jvm.MethodName) prog_6_method_31_code (2 : Nat) (Option.some Jvm.ClassFile.FieldType.int)) ∈ TG := tg_t (List.mem_of_getElem? (i := 741) (by decide +kernel)) rfl
theorem tw_742 : (Jvm.Cond.methodLink "AllocForgeLaw" (107 : Nat) ({ cls := "AllocForgeModel", name := "count", desc := "(I)I" } : Jvm.MethodName)) ∈ TG := tg_t (List.mem_of_getElem? (i := 742) (by decide +kernel)) rfl
theorem tw_743 : (Jvm.Cond.instanceMethod ({ cls := "AllocForgeModel", name := "count", desc := "(I)I" } : Jvm.MethodName)) ∈ TG := tg_t (List.mem_of_getElem? (i := 743) (by decide +kernel)) rfl
theorem tw_744 : (Jvm.Cond.selects "AllocForgeModel" ({ cls := "AllocForgeModel", name := "count", desc := "(I)I" } : Jvm.MethodName) ({ cls := "AllocForgeModel", name := "count", desc := "(I)I" } : Jvm.MethodName)) ∈ TG := tg_t (List.mem_of_getElem? (i := 744) (by decide +kernel)) rfl
theorem tw_745 : (Jvm.Cond.code ({ cls := "AllocForgeModel", name := "count", desc := "(I)I" } : Jvm.MethodName) prog_6_method_33_code (5 : Nat) (Option.some Jvm.ClassFile.FieldType.int)) ∈ TG := tg_t (List.mem_of_getElem? (i := 745) (by decide +kernel)) rfl
theorem tw_746 : (Jvm.Cond.methodLink "AllocForgeModel" (131 : Nat) ({ cls := "AllocForgeModel", name := "used", desc := "(II)I" } : Jvm.MethodName)) ∈ TG := tg_t (List.mem_of_getElem? (i := 746) (by decide +kernel)) rfl
theorem tw_748 : (Jvm.Cond.instanceMethod ({ cls := "AllocForgeModel", name := "used", desc := "(II)I" } : Jvm.MethodName)) ∈ TG := tg_t (List.mem_of_getElem? (i := 748) (by decide +kernel)) rfl
theorem tw_749 : (Jvm.Cond.code ({ cls := "AllocForgeModel", name := "used", desc := "(II)I" } : Jvm.MethodName) prog_6_method_32_code (7 : Nat) (Option.some Jvm.ClassFile.FieldType.int)) ∈ TG := tg_t (List.mem_of_getElem? (i := 749) (by decide +kernel)) rfl
theorem tw_750 : (Jvm.Cond.arrayClass Jvm.ClassFile.FieldType.long) ∈ TG := tg_t (List.mem_of_getElem? (i := 750) (by decide +kernel)) rfl
theorem tw_751 : (Jvm.Cond.arrayClass Jvm.ClassFile.FieldType.double) ∈ TG := tg_t (List.mem_of_getElem? (i := 751) (by decide +kernel)) rfl
theorem tw_752 : (Jvm.Cond.sameMethod "java/lang/Throwable" "java/lang/Throwable" "fillInStackTrace" "(I)Ljava/lang/Throwable;") ∈ TG := tg_t (List.mem_of_getElem? (i := 752) (by decide +kernel)) rfl
end
section
/-! classes, fields, methods: names -/
def R_AF : String := "AllocForge"
def R_Co : String := "AllocForge$Code"
def R_Al : String := "AllocForge$Allocation"
def R_Ma : String := "AllocForge$Machine"
def R_Mo : String := "AllocForgeModel"
def R_La : String := "AllocForgeLaw"
def R_Ar : String := "java/util/Arrays"
def R_Mt : String := "java/lang/Math"
def T_Al : u_T := fun k => match k with
  | 0 => ("AllocForge$Allocation", "homes", "[I", true)
  | 1 => ("AllocForge$Allocation", "registers", "I", false)
  | _ => ("AllocForge$Allocation", "evictions", "I", false)
def ty_Al : Nat → FieldType := fun k => match k with
  | 0 => .array .int
  | 1 => .int
  | _ => .int
theorem nm_Al : ∀ a, a < 3 → ∀ b, b < 3 → a ≠ b → (T_Al a).2.1 ≠ (T_Al b).2.1 := by decide +kernel
theorem tyok_Al : ∀ k, k < 3 → parseFieldDescriptor (T_Al k).2.2.1 = some (ty_Al k) := by decide +kernel
theorem in_Al0 : ∀ w ∈ u_ws R_Al T_Al 3, w ∈ tables_1 ∧ goodWord w = true := by decide +kernel
theorem in_Al : ∀ w ∈ u_ws R_Al T_Al 3, w ∈ TG := fun w h => tg_t (in_Al0 w h).1 (in_Al0 w h).2
def T_Co : u_T := fun k => match k with
  | 0 => ("AllocForge$Code", "ops", "[I", true)
  | 1 => ("AllocForge$Code", "lefts", "[I", true)
  | 2 => ("AllocForge$Code", "rights", "[I", true)
  | 3 => ("AllocForge$Code", "ends", "[I", true)
  | 4 => ("AllocForge$Code", "uses", "[I", true)
  | 5 => ("AllocForge$Code", "prices", "[I", true)
  | 6 => ("AllocForge$Code", "size", "I", false)
  | _ => ("AllocForge$Code", "values", "I", false)
def ty_Co : Nat → FieldType := fun k => match k with
  | 0 => .array .int
  | 1 => .array .int
  | 2 => .array .int
  | 3 => .array .int
  | 4 => .array .int
  | 5 => .array .int
  | 6 => .int
  | _ => .int
theorem nm_Co : ∀ a, a < 8 → ∀ b, b < 8 → a ≠ b → (T_Co a).2.1 ≠ (T_Co b).2.1 := by decide +kernel
theorem tyok_Co : ∀ k, k < 8 → parseFieldDescriptor (T_Co k).2.2.1 = some (ty_Co k) := by decide +kernel
theorem in_Co0 : ∀ w ∈ u_ws R_Co T_Co 8, w ∈ tables_1 ∧ goodWord w = true := by decide +kernel
theorem in_Co : ∀ w ∈ u_ws R_Co T_Co 8, w ∈ TG := fun w h => tg_t (in_Co0 w h).1 (in_Co0 w h).2
def T_Ma : u_T := fun k => match k with
  | 0 => ("AllocForge$Machine", "cells", "[I", true)
  | 1 => ("AllocForge$Machine", "numbers", "[I", true)
  | 2 => ("AllocForge$Machine", "said", "[I", true)
  | 3 => ("AllocForge$Machine", "saidCount", "I", false)
  | 4 => ("AllocForge$Machine", "result", "I", false)
  | _ => ("AllocForge$Machine", "fault", "Z", false)
def ty_Ma : Nat → FieldType := fun k => match k with
  | 0 => .array .int
  | 1 => .array .int
  | 2 => .array .int
  | 3 => .int
  | 4 => .int
  | _ => .boolean
theorem nm_Ma : ∀ a, a < 6 → ∀ b, b < 6 → a ≠ b → (T_Ma a).2.1 ≠ (T_Ma b).2.1 := by decide +kernel
theorem tyok_Ma : ∀ k, k < 6 → parseFieldDescriptor (T_Ma k).2.2.1 = some (ty_Ma k) := by decide +kernel
theorem in_Ma0 : ∀ w ∈ u_ws R_Ma T_Ma 6, w ∈ tables_1 ∧ goodWord w = true := by decide +kernel
theorem in_Ma : ∀ w ∈ u_ws R_Ma T_Ma 6, w ∈ TG := fun w h => tg_t (in_Ma0 w h).1 (in_Ma0 w h).2
def T_AF : u_T := fun k => match k with
  | 0 => ("AllocForge", "code", "LAllocForge$Code;", true)
  | 1 => ("AllocForge", "ownCells", "[I", true)
  | 2 => ("AllocForge", "written", "LAllocForge$Machine;", true)
  | 3 => ("AllocForge", "allocated", "LAllocForge$Machine;", true)
  | 4 => ("AllocForge", "latest", "LAllocForge$Machine;", false)
  | 5 => ("AllocForge", "kept", "LAllocForge$Allocation;", false)
  | _ => ("AllocForge", "trial", "LAllocForge$Allocation;", false)
def ty_AF : Nat → FieldType := fun k => match k with
  | 0 => .object "AllocForge$Code"
  | 1 => .array .int
  | 2 => .object "AllocForge$Machine"
  | 3 => .object "AllocForge$Machine"
  | 4 => .object "AllocForge$Machine"
  | 5 => .object "AllocForge$Allocation"
  | _ => .object "AllocForge$Allocation"
theorem nm_AF : ∀ a, a < 7 → ∀ b, b < 7 → a ≠ b → (T_AF a).2.1 ≠ (T_AF b).2.1 := by decide +kernel
theorem tyok_AF : ∀ k, k < 7 → parseFieldDescriptor (T_AF k).2.2.1 = some (ty_AF k) := by decide +kernel
theorem in_AF0 : ∀ w ∈ u_ws R_AF T_AF 7, w ∈ tables_1 ∧ goodWord w = true := by decide +kernel
theorem in_AF : ∀ w ∈ u_ws R_AF T_AF 7, w ∈ TG := fun w h => tg_t (in_AF0 w h).1 (in_AF0 w h).2
def T_Mo : u_T := fun k => match k with
  | 0 => ("AllocForgeModel", "op", "[I", true)
  | 1 => ("AllocForgeModel", "first", "[I", true)
  | 2 => ("AllocForgeModel", "second", "[I", true)
  | 3 => ("AllocForgeModel", "depth", "[I", true)
  | 4 => ("AllocForgeModel", "place", "[I", true)
  | 5 => ("AllocForgeModel", "made", "[I", true)
  | 6 => ("AllocForgeModel", "value", "[I", true)
  | 7 => ("AllocForgeModel", "cell", "[I", true)
  | 8 => ("AllocForgeModel", "said", "[I", true)
  | 9 => ("AllocForgeModel", "before", "[I", true)
  | 10 => ("AllocForgeModel", "many", "I", false)
  | 11 => ("AllocForgeModel", "evicted", "I", false)
  | 12 => ("AllocForgeModel", "registers", "I", false)
  | 13 => ("AllocForgeModel", "saidMany", "I", false)
  | 14 => ("AllocForgeModel", "result", "I", false)
  | 15 => ("AllocForgeModel", "thrown", "I", false)
  | 16 => ("AllocForgeModel", "changed", "I", false)
  | _ => ("AllocForgeModel", "allocated", "Z", false)
def ty_Mo : Nat → FieldType := fun k => match k with
  | 0 => .array .int
  | 1 => .array .int
  | 2 => .array .int
  | 3 => .array .int
  | 4 => .array .int
  | 5 => .array .int
  | 6 => .array .int
  | 7 => .array .int
  | 8 => .array .int
  | 9 => .array .int
  | 10 => .int
  | 11 => .int
  | 12 => .int
  | 13 => .int
  | 14 => .int
  | 15 => .int
  | 16 => .int
  | _ => .boolean
theorem nm_Mo : ∀ a, a < 18 → ∀ b, b < 18 → a ≠ b → (T_Mo a).2.1 ≠ (T_Mo b).2.1 := by decide +kernel
theorem tyok_Mo : ∀ k, k < 18 → parseFieldDescriptor (T_Mo k).2.2.1 = some (ty_Mo k) := by decide +kernel
theorem in_Mo0 : ∀ w ∈ u_ws R_Mo T_Mo 18, w ∈ tables_1 ∧ goodWord w = true := by decide +kernel
theorem in_Mo : ∀ w ∈ u_ws R_Mo T_Mo 18, w ∈ TG := fun w h => tg_t (in_Mo0 w h).1 (in_Mo0 w h).2
abbrev vwCl : List vw_C := [(R_Al, T_Al, 3), (R_Co, T_Co, 8), (R_Ma, T_Ma, 6), (R_AF, T_AF, 7), (R_Mo, T_Mo, 18)]
abbrev b_AF_init : ByteArray := prog_1_method_1_code
def y_AF_init : MethodName := ⟨R_AF, "<init>", "()V"⟩
def ws_AF_init : List Cond := .code y_AF_init b_AF_init 2 none :: TG
abbrev b_Co_init : ByteArray := prog_3_method_1_code
def y_Co_init : MethodName := ⟨R_Co, "<init>", "()V"⟩
def ws_Co_init : List Cond := .code y_Co_init b_Co_init 1 none :: TG
abbrev b_Ma_init : ByteArray := prog_4_method_1_code
def y_Ma_init : MethodName := ⟨R_Ma, "<init>", "()V"⟩
def ws_Ma_init : List Cond := .code y_Ma_init b_Ma_init 1 none :: TG
abbrev b_Al_init : ByteArray := prog_2_method_1_code
def y_Al_init : MethodName := ⟨R_Al, "<init>", "()V"⟩
def ws_Al_init : List Cond := .code y_Al_init b_Al_init 1 none :: TG
abbrev b_Ar_fill : ByteArray := prog_16_method_103_code
def y_Ar_fill : MethodName := ⟨R_Ar, "fill", "([II)V"⟩
def ws_Ar_fill : List Cond := .code y_Ar_fill b_Ar_fill 4 none :: TG
abbrev b_AF_clear : ByteArray := prog_1_method_3_code
def y_AF_clear : MethodName := ⟨R_AF, "clear", "()I"⟩
def ws_AF_clear : List Cond := .code y_AF_clear b_AF_clear 2 (some .int) :: TG
abbrev b_Co_size : ByteArray := prog_3_method_8_code
def y_Co_size : MethodName := ⟨R_Co, "size", "()I"⟩
def ws_Co_size : List Cond := .code y_Co_size b_Co_size 1 (some .int) :: TG
abbrev b_Co_empty : ByteArray := prog_3_method_5_code
def y_Co_empty : MethodName := ⟨R_Co, "empty", "()V"⟩
def ws_Co_empty : List Cond := .code y_Co_empty b_Co_empty 1 none :: TG
abbrev b_Al_forget : ByteArray := prog_2_method_2_code
def y_Al_forget : MethodName := ⟨R_Al, "forget", "()V"⟩
def ws_Al_forget : List Cond := .code y_Al_forget b_Al_forget 1 none :: TG
abbrev b_La_add : ByteArray := method_3_code
def y_La_add : MethodName := ⟨R_La, "add", "(LAllocForge;IIII[J)I"⟩
abbrev b_AF_add : ByteArray := prog_1_method_2_code
def y_AF_add : MethodName := ⟨R_AF, "add", "(IIII)I"⟩
def ws_AF_add : List Cond := .code y_AF_add b_AF_add 5 (some .int) :: TG
abbrev b_Co_accepts : ByteArray := prog_3_method_2_code
def y_Co_accepts : MethodName := ⟨R_Co, "accepts", "(IIII)Z"⟩
def ws_Co_accepts : List Cond := .code y_Co_accepts b_Co_accepts 5 (some .boolean) :: TG
abbrev b_Co_usesLeft : ByteArray := prog_3_method_6_code
def y_Co_usesLeft : MethodName := ⟨R_Co, "usesLeft", "(I)Z"⟩
def ws_Co_usesLeft : List Cond := .code y_Co_usesLeft b_Co_usesLeft 1 (some .boolean) :: TG
abbrev b_Co_isValue : ByteArray := prog_3_method_13_code
def y_Co_isValue : MethodName := ⟨R_Co, "isValue", "(I)Z"⟩
def ws_Co_isValue : List Cond := .code y_Co_isValue b_Co_isValue 2 (some .boolean) :: TG
abbrev b_Co_usesRight : ByteArray := prog_3_method_7_code
def y_Co_usesRight : MethodName := ⟨R_Co, "usesRight", "(I)Z"⟩
def ws_Co_usesRight : List Cond := .code y_Co_usesRight b_Co_usesRight 1 (some .boolean) :: TG
abbrev b_Co_append : ByteArray := prog_3_method_3_code
def y_Co_append : MethodName := ⟨R_Co, "append", "(IIII)V"⟩
def ws_Co_append : List Cond := .code y_Co_append b_Co_append 6 none :: TG
abbrev b_Co_noteUse : ByteArray := prog_3_method_4_code
def y_Co_noteUse : MethodName := ⟨R_Co, "noteUse", "(II)V"⟩
def ws_Co_noteUse : List Cond := .code y_Co_noteUse b_Co_noteUse 3 none :: TG
abbrev b_La_allocate : ByteArray := method_4_code
def y_La_allocate : MethodName := ⟨R_La, "allocate", "(LAllocForge;I[J)I"⟩
abbrev b_AF_allocate : ByteArray := prog_1_method_4_code
def y_AF_allocate : MethodName := ⟨R_AF, "allocate", "(I)I"⟩
def ws_AF_allocate : List Cond := .code y_AF_allocate b_AF_allocate 3 (some .int) :: TG
abbrev b_Al_fill : ByteArray := prog_2_method_3_code
def y_Al_fill : MethodName := ⟨R_Al, "fill", "(LAllocForge$Code;I)Z"⟩
def ws_Al_fill : List Cond := .code y_Al_fill b_Al_fill 5 (some .boolean) :: TG
abbrev b_Al_longestWaiting : ByteArray := prog_2_method_4_code
def y_Al_longestWaiting : MethodName := ⟨R_Al, "longestWaiting", "(LAllocForge$Code;)I"⟩
def ws_Al_longestWaiting : List Cond := .code y_Al_longestWaiting b_Al_longestWaiting 5 (some .int) :: TG
abbrev b_Co_lengthOf : ByteArray := prog_3_method_17_code
def y_Co_lengthOf : MethodName := ⟨R_Co, "lengthOf", "(I)I"⟩
def ws_Co_lengthOf : List Cond := .code y_Co_lengthOf b_Co_lengthOf 2 (some .int) :: TG
abbrev b_Al_takeRegister : ByteArray := prog_2_method_5_code
def y_Al_takeRegister : MethodName := ⟨R_Al, "takeRegister", "(LAllocForge$Code;I)Z"⟩
def ws_Al_takeRegister : List Cond := .code y_Al_takeRegister b_Al_takeRegister 10 (some .boolean) :: TG
abbrev b_Co_isCrossed : ByteArray := prog_3_method_20_code
def y_Co_isCrossed : MethodName := ⟨R_Co, "isCrossed", "(I)Z"⟩
def ws_Co_isCrossed : List Cond := .code y_Co_isCrossed b_Co_isCrossed 3 (some .boolean) :: TG
abbrev b_Mt_min : ByteArray := prog_12_method_69_code
def y_Mt_min : MethodName := ⟨R_Mt, "min", "(II)I"⟩
def ws_Mt_min : List Cond := .code y_Mt_min b_Mt_min 2 (some .int) :: TG
abbrev b_Co_weightOf : ByteArray := prog_3_method_18_code
def y_Co_weightOf : MethodName := ⟨R_Co, "weightOf", "(I)D"⟩
def ws_Co_weightOf : List Cond := .code y_Co_weightOf b_Co_weightOf 2 (some .double) :: TG
abbrev b_Al_heaviestMeeting : ByteArray := prog_2_method_6_code
def y_Al_heaviestMeeting : MethodName := ⟨R_Al, "heaviestMeeting", "(LAllocForge$Code;II)D"⟩
def ws_Al_heaviestMeeting : List Cond := .code y_Al_heaviestMeeting b_Al_heaviestMeeting 7 (some .double) :: TG
abbrev b_Co_meet : ByteArray := prog_3_method_19_code
def y_Co_meet : MethodName := ⟨R_Co, "meet", "(II)Z"⟩
def ws_Co_meet : List Cond := .code y_Co_meet b_Co_meet 3 (some .boolean) :: TG
abbrev b_Al_evictMeeting : ByteArray := prog_2_method_7_code
def y_Al_evictMeeting : MethodName := ⟨R_Al, "evictMeeting", "(LAllocForge$Code;II)V"⟩
def ws_Al_evictMeeting : List Cond := .code y_Al_evictMeeting b_Al_evictMeeting 5 none :: TG
abbrev b_Al_takeSlot : ByteArray := prog_2_method_8_code
def y_Al_takeSlot : MethodName := ⟨R_Al, "takeSlot", "(LAllocForge$Code;I)Z"⟩
def ws_Al_takeSlot : List Cond := .code y_Al_takeSlot b_Al_takeSlot 4 (some .boolean) :: TG
abbrev b_Al_valuesInRegisters : ByteArray := prog_2_method_13_code
def y_Al_valuesInRegisters : MethodName := ⟨R_Al, "valuesInRegisters", "()I"⟩
def ws_Al_valuesInRegisters : List Cond := .code y_Al_valuesInRegisters b_Al_valuesInRegisters 1 (some .int) :: TG
abbrev b_Al_valuesFrom : ByteArray := prog_2_method_17_code
def y_Al_valuesFrom : MethodName := ⟨R_Al, "valuesFrom", "(II)I"⟩
def ws_Al_valuesFrom : List Cond := .code y_Al_valuesFrom b_Al_valuesFrom 5 (some .int) :: TG
abbrev b_Al_valuesAt : ByteArray := prog_2_method_19_code
def y_Al_valuesAt : MethodName := ⟨R_Al, "valuesAt", "(I)I"⟩
def ws_Al_valuesAt : List Cond := .code y_Al_valuesAt b_Al_valuesAt 4 (some .int) :: TG
abbrev b_La_place : ByteArray := method_5_code
def y_La_place : MethodName := ⟨R_La, "place", "(LAllocForge;I[J)I"⟩
abbrev b_AF_place : ByteArray := prog_1_method_5_code
def y_AF_place : MethodName := ⟨R_AF, "place", "(I)I"⟩
def ws_AF_place : List Cond := .code y_AF_place b_AF_place 2 (some .int) :: TG
abbrev b_AF_requireValue : ByteArray := prog_1_method_14_code
def y_AF_requireValue : MethodName := ⟨R_AF, "requireValue", "(I)V"⟩
def ws_AF_requireValue : List Cond := .code y_AF_requireValue b_AF_requireValue 2 none :: TG
abbrev b_AF_requireAllocated : ByteArray := prog_1_method_15_code
def y_AF_requireAllocated : MethodName := ⟨R_AF, "requireAllocated", "()V"⟩
def ws_AF_requireAllocated : List Cond := .code y_AF_requireAllocated b_AF_requireAllocated 1 none :: TG
abbrev b_Al_registers : ByteArray := prog_2_method_9_code
def y_Al_registers : MethodName := ⟨R_Al, "registers", "()I"⟩
def ws_Al_registers : List Cond := .code y_Al_registers b_Al_registers 1 (some .int) :: TG
abbrev b_Al_homeOf : ByteArray := prog_2_method_12_code
def y_Al_homeOf : MethodName := ⟨R_Al, "homeOf", "(I)I"⟩
def ws_Al_homeOf : List Cond := .code y_Al_homeOf b_Al_homeOf 2 (some .int) :: TG
abbrev b_La_weight : ByteArray := method_6_code
def y_La_weight : MethodName := ⟨R_La, "weight", "(LAllocForge;I[D)I"⟩
abbrev b_AF_weight : ByteArray := prog_1_method_6_code
def y_AF_weight : MethodName := ⟨R_AF, "weight", "(I)D"⟩
def ws_AF_weight : List Cond := .code y_AF_weight b_AF_weight 2 (some .double) :: TG
abbrev b_La_told : ByteArray := method_7_code
def y_La_told : MethodName := ⟨R_La, "told", "(LAllocForge;II[J)I"⟩
abbrev b_AF_told : ByteArray := prog_1_method_7_code
def y_AF_told : MethodName := ⟨R_AF, "told", "(II)I"⟩
def ws_AF_told : List Cond := .code y_AF_told b_AF_told 3 (some .int) :: TG
abbrev b_Co_endOf : ByteArray := prog_3_method_14_code
def y_Co_endOf : MethodName := ⟨R_Co, "endOf", "(I)I"⟩
def ws_Co_endOf : List Cond := .code y_Co_endOf b_Co_endOf 2 (some .int) :: TG
abbrev b_Co_usesOf : ByteArray := prog_3_method_15_code
def y_Co_usesOf : MethodName := ⟨R_Co, "usesOf", "(I)I"⟩
def ws_Co_usesOf : List Cond := .code y_Co_usesOf b_Co_usesOf 2 (some .int) :: TG
abbrev b_Co_othersMeeting : ByteArray := prog_3_method_21_code
def y_Co_othersMeeting : MethodName := ⟨R_Co, "othersMeeting", "(I)I"⟩
def ws_Co_othersMeeting : List Cond := .code y_Co_othersMeeting b_Co_othersMeeting 4 (some .int) :: TG
abbrev b_La_cost : ByteArray := method_8_code
def y_La_cost : MethodName := ⟨R_La, "cost", "(LAllocForge;[D)I"⟩
abbrev b_AF_cost : ByteArray := prog_1_method_8_code
def y_AF_cost : MethodName := ⟨R_AF, "cost", "()D"⟩
def ws_AF_cost : List Cond := .code y_AF_cost b_AF_cost 1 (some .double) :: TG
abbrev b_Al_priceOfSlots : ByteArray := prog_2_method_20_code
def y_Al_priceOfSlots : MethodName := ⟨R_Al, "priceOfSlots", "(LAllocForge$Code;)D"⟩
def ws_Al_priceOfSlots : List Cond := .code y_Al_priceOfSlots b_Al_priceOfSlots 5 (some .double) :: TG
abbrev b_Co_priceOf : ByteArray := prog_3_method_16_code
def y_Co_priceOf : MethodName := ⟨R_Co, "priceOf", "(I)I"⟩
def ws_Co_priceOf : List Cond := .code y_Co_priceOf b_Co_priceOf 2 (some .int) :: TG
abbrev b_La_run : ByteArray := method_9_code
def y_La_run : MethodName := ⟨R_La, "run", "(LAllocForge;IIII[J)I"⟩
abbrev b_AF_run : ByteArray := prog_1_method_9_code
def y_AF_run : MethodName := ⟨R_AF, "run", "(IIII)I"⟩
def ws_AF_run : List Cond := .code y_AF_run b_AF_run 5 (some .int) :: TG
abbrev b_AF_runWritten : ByteArray := prog_1_method_16_code
def y_AF_runWritten : MethodName := ⟨R_AF, "runWritten", "(IIII)V"⟩
def ws_AF_runWritten : List Cond := .code y_AF_runWritten b_AF_runWritten 5 none :: TG
abbrev b_Ma_takeNumbers : ByteArray := prog_4_method_2_code
def y_Ma_takeNumbers : MethodName := ⟨R_Ma, "takeNumbers", "(IIII)V"⟩
def ws_Ma_takeNumbers : List Cond := .code y_Ma_takeNumbers b_Ma_takeNumbers 5 none :: TG
abbrev b_Ma_perform : ByteArray := prog_4_method_3_code
def y_Ma_perform : MethodName := ⟨R_Ma, "perform", "(LAllocForge$Code;[II)V"⟩
def ws_Ma_perform : List Cond := .code y_Ma_perform b_Ma_perform 5 none :: TG
abbrev b_Ma_step : ByteArray := prog_4_method_4_code
def y_Ma_step : MethodName := ⟨R_Ma, "step", "(LAllocForge$Code;I[II)V"⟩
def ws_Ma_step : List Cond := .code y_Ma_step b_Ma_step 8 none :: TG
abbrev b_Co_opAt : ByteArray := prog_3_method_10_code
def y_Co_opAt : MethodName := ⟨R_Co, "opAt", "(I)I"⟩
def ws_Co_opAt : List Cond := .code y_Co_opAt b_Co_opAt 2 (some .int) :: TG
abbrev b_Co_leftAt : ByteArray := prog_3_method_11_code
def y_Co_leftAt : MethodName := ⟨R_Co, "leftAt", "(I)I"⟩
def ws_Co_leftAt : List Cond := .code y_Co_leftAt b_Co_leftAt 2 (some .int) :: TG
abbrev b_Co_rightAt : ByteArray := prog_3_method_12_code
def y_Co_rightAt : MethodName := ⟨R_Co, "rightAt", "(I)I"⟩
def ws_Co_rightAt : List Cond := .code y_Co_rightAt b_Co_rightAt 2 (some .int) :: TG
abbrev b_Ma_compute : ByteArray := prog_4_method_5_code
def y_Ma_compute : MethodName := ⟨R_Ma, "compute", "(III)I"⟩
def ws_Ma_compute : List Cond := .code y_Ma_compute b_Ma_compute 4 (some .int) :: TG
abbrev b_Ma_divide : ByteArray := prog_4_method_6_code
def y_Ma_divide : MethodName := ⟨R_Ma, "divide", "(II)I"⟩
def ws_Ma_divide : List Cond := .code y_Ma_divide b_Ma_divide 3 (some .int) :: TG
abbrev b_Ma_spoil : ByteArray := prog_4_method_7_code
def y_Ma_spoil : MethodName := ⟨R_Ma, "spoil", "(I)V"⟩
def ws_Ma_spoil : List Cond := .code y_Ma_spoil b_Ma_spoil 3 none :: TG
abbrev b_AF_resultOf : ByteArray := prog_1_method_18_code
def y_AF_resultOf : MethodName := ⟨R_AF, "resultOf", "(LAllocForge$Machine;)I"⟩
def ws_AF_resultOf : List Cond := .code y_AF_resultOf b_AF_resultOf 1 (some .int) :: TG
abbrev b_Ma_hadFault : ByteArray := prog_4_method_11_code
def y_Ma_hadFault : MethodName := ⟨R_Ma, "hadFault", "()Z"⟩
def ws_Ma_hadFault : List Cond := .code y_Ma_hadFault b_Ma_hadFault 1 (some .boolean) :: TG
abbrev b_Ma_result : ByteArray := prog_4_method_10_code
def y_Ma_result : MethodName := ⟨R_Ma, "result", "()I"⟩
def ws_Ma_result : List Cond := .code y_Ma_result b_Ma_result 1 (some .int) :: TG
abbrev b_La_go : ByteArray := method_10_code
def y_La_go : MethodName := ⟨R_La, "go", "(LAllocForge;IIII[J)I"⟩
abbrev b_AF_go : ByteArray := prog_1_method_10_code
def y_AF_go : MethodName := ⟨R_AF, "go", "(IIII)I"⟩
def ws_AF_go : List Cond := .code y_AF_go b_AF_go 5 (some .int) :: TG
abbrev b_AF_runAllocated : ByteArray := prog_1_method_17_code
def y_AF_runAllocated : MethodName := ⟨R_AF, "runAllocated", "(IIII)V"⟩
def ws_AF_runAllocated : List Cond := .code y_AF_runAllocated b_AF_runAllocated 5 none :: TG
abbrev b_Al_homes : ByteArray := prog_2_method_11_code
def y_Al_homes : MethodName := ⟨R_Al, "homes", "()[I"⟩
def ws_Al_homes : List Cond := .code y_Al_homes b_Al_homes 1 (some (.array .int)) :: TG
abbrev b_La_same : ByteArray := method_11_code
def y_La_same : MethodName := ⟨R_La, "same", "(LAllocForge;IIII[J)I"⟩
abbrev b_AF_same : ByteArray := prog_1_method_11_code
def y_AF_same : MethodName := ⟨R_AF, "same", "(IIII)Z"⟩
def ws_AF_same : List Cond := .code y_AF_same b_AF_same 5 (some .boolean) :: TG
abbrev b_Ma_endedLike : ByteArray := prog_4_method_12_code
def y_Ma_endedLike : MethodName := ⟨R_Ma, "endedLike", "(LAllocForge$Machine;)Z"⟩
def ws_Ma_endedLike : List Cond := .code y_Ma_endedLike b_Ma_endedLike 3 (some .boolean) :: TG
abbrev b_La_said : ByteArray := method_12_code
def y_La_said : MethodName := ⟨R_La, "said", "(LAllocForge;I[J)I"⟩
abbrev b_AF_said : ByteArray := prog_1_method_12_code
def y_AF_said : MethodName := ⟨R_AF, "said", "(I)I"⟩
def ws_AF_said : List Cond := .code y_AF_said b_AF_said 2 (some .int) :: TG
abbrev b_Ma_saidCount : ByteArray := prog_4_method_8_code
def y_Ma_saidCount : MethodName := ⟨R_Ma, "saidCount", "()I"⟩
def ws_Ma_saidCount : List Cond := .code y_Ma_saidCount b_Ma_saidCount 1 (some .int) :: TG
abbrev b_Ma_saidAt : ByteArray := prog_4_method_9_code
def y_Ma_saidAt : MethodName := ⟨R_Ma, "saidAt", "(I)I"⟩
def ws_Ma_saidAt : List Cond := .code y_Ma_saidAt b_Ma_saidAt 2 (some .int) :: TG
abbrev b_La_count : ByteArray := method_13_code
def y_La_count : MethodName := ⟨R_La, "count", "(LAllocForge;I[J)I"⟩
abbrev b_AF_count : ByteArray := prog_1_method_13_code
def y_AF_count : MethodName := ⟨R_AF, "count", "(I)I"⟩
def ws_AF_count : List Cond := .code y_AF_count b_AF_count 2 (some .int) :: TG
abbrev b_Co_values : ByteArray := prog_3_method_9_code
def y_Co_values : MethodName := ⟨R_Co, "values", "()I"⟩
def ws_Co_values : List Cond := .code y_Co_values b_Co_values 1 (some .int) :: TG
abbrev b_Al_evictions : ByteArray := prog_2_method_10_code
def y_Al_evictions : MethodName := ⟨R_Al, "evictions", "()I"⟩
def ws_Al_evictions : List Cond := .code y_Al_evictions b_Al_evictions 1 (some .int) :: TG
abbrev b_Al_valuesInSlots : ByteArray := prog_2_method_14_code
def y_Al_valuesInSlots : MethodName := ⟨R_Al, "valuesInSlots", "()I"⟩
def ws_Al_valuesInSlots : List Cond := .code y_Al_valuesInSlots b_Al_valuesInSlots 1 (some .int) :: TG
abbrev b_Al_slotsUsed : ByteArray := prog_2_method_16_code
def y_Al_slotsUsed : MethodName := ⟨R_Al, "slotsUsed", "()I"⟩
def ws_Al_slotsUsed : List Cond := .code y_Al_slotsUsed b_Al_slotsUsed 1 (some .int) :: TG
abbrev b_Al_homesUsed : ByteArray := prog_2_method_18_code
def y_Al_homesUsed : MethodName := ⟨R_Al, "homesUsed", "(II)I"⟩
def ws_Al_homesUsed : List Cond := .code y_Al_homesUsed b_Al_homesUsed 5 (some .int) :: TG
abbrev b_Al_registersUsed : ByteArray := prog_2_method_15_code
def y_Al_registersUsed : MethodName := ⟨R_Al, "registersUsed", "()I"⟩
def ws_Al_registersUsed : List Cond := .code y_Al_registersUsed b_Al_registersUsed 1 (some .int) :: TG
abbrev b_Mo_init : ByteArray := prog_6_method_1_code
def y_Mo_init : MethodName := ⟨R_Mo, "<init>", "()V"⟩
def ws_Mo_init : List Cond := .code y_Mo_init b_Mo_init 1 none :: TG
abbrev b_Mo_thrown : ByteArray := prog_6_method_2_code
def y_Mo_thrown : MethodName := ⟨R_Mo, "thrown", "()I"⟩
def ws_Mo_thrown : List Cond := .code y_Mo_thrown b_Mo_thrown 1 (some .int) :: TG
abbrev b_Mo_add : ByteArray := prog_6_method_7_code
def y_Mo_add : MethodName := ⟨R_Mo, "add", "(IIII)I"⟩
def ws_Mo_add : List Cond := .code y_Mo_add b_Mo_add 5 (some .int) :: TG
abbrev b_Mo_in : ByteArray := prog_6_method_3_code
def y_Mo_in : MethodName := ⟨R_Mo, "in", "(III)Z"⟩
def ws_Mo_in : List Cond := .code y_Mo_in b_Mo_in 3 (some .boolean) :: TG
abbrev b_Mo_isValue : ByteArray := prog_6_method_5_code
def y_Mo_isValue : MethodName := ⟨R_Mo, "isValue", "(I)Z"⟩
def ws_Mo_isValue : List Cond := .code y_Mo_isValue b_Mo_isValue 2 (some .boolean) :: TG
abbrev b_Mo_isSum : ByteArray := prog_6_method_6_code
def y_Mo_isSum : MethodName := ⟨R_Mo, "isSum", "(I)Z"⟩
def ws_Mo_isSum : List Cond := .code y_Mo_isSum b_Mo_isSum 1 (some .boolean) :: TG
abbrev b_Mo_fail : ByteArray := prog_6_method_4_code
def y_Mo_fail : MethodName := ⟨R_Mo, "fail", "(I)I"⟩
def ws_Mo_fail : List Cond := .code y_Mo_fail b_Mo_fail 2 (some .int) :: TG
abbrev b_Mo_clear : ByteArray := prog_6_method_8_code
def y_Mo_clear : MethodName := ⟨R_Mo, "clear", "()I"⟩
def ws_Mo_clear : List Cond := .code y_Mo_clear b_Mo_clear 2 (some .int) :: TG
abbrev b_Mo_allocate : ByteArray := prog_6_method_21_code
def y_Mo_allocate : MethodName := ⟨R_Mo, "allocate", "(I)I"⟩
def ws_Mo_allocate : List Cond := .code y_Mo_allocate b_Mo_allocate 5 (some .int) :: TG
abbrev b_Mo_next : ByteArray := prog_6_method_18_code
def y_Mo_next : MethodName := ⟨R_Mo, "next", "()I"⟩
def ws_Mo_next : List Cond := .code y_Mo_next b_Mo_next 3 (some .int) :: TG
abbrev b_Mo_end : ByteArray := prog_6_method_10_code
def y_Mo_end : MethodName := ⟨R_Mo, "end", "(I)I"⟩
def ws_Mo_end : List Cond := .code y_Mo_end b_Mo_end 4 (some .int) :: TG
abbrev b_Mo_uses : ByteArray := prog_6_method_9_code
def y_Mo_uses : MethodName := ⟨R_Mo, "uses", "(II)I"⟩
def ws_Mo_uses : List Cond := .code y_Mo_uses b_Mo_uses 3 (some .int) :: TG
abbrev b_Mo_give : ByteArray := prog_6_method_20_code
def y_Mo_give : MethodName := ⟨R_Mo, "give", "(II)Z"⟩
def ws_Mo_give : List Cond := .code y_Mo_give b_Mo_give 7 (some .boolean) :: TG
abbrev b_Mo_isCrossed : ByteArray := prog_6_method_12_code
def y_Mo_isCrossed : MethodName := ⟨R_Mo, "isCrossed", "(I)Z"⟩
def ws_Mo_isCrossed : List Cond := .code y_Mo_isCrossed b_Mo_isCrossed 4 (some .boolean) :: TG
abbrev b_Mo_free : ByteArray := prog_6_method_19_code
def y_Mo_free : MethodName := ⟨R_Mo, "free", "(III)I"⟩
def ws_Mo_free : List Cond := .code y_Mo_free b_Mo_free 6 (some .int) :: TG
abbrev b_Mo_isFree : ByteArray := prog_6_method_16_code
def y_Mo_isFree : MethodName := ⟨R_Mo, "isFree", "(II)Z"⟩
def ws_Mo_isFree : List Cond := .code y_Mo_isFree b_Mo_isFree 4 (some .boolean) :: TG
abbrev b_Mo_meet : ByteArray := prog_6_method_11_code
def y_Mo_meet : MethodName := ⟨R_Mo, "meet", "(II)Z"⟩
def ws_Mo_meet : List Cond := .code y_Mo_meet b_Mo_meet 3 (some .boolean) :: TG
abbrev b_Mo_heaviest : ByteArray := prog_6_method_17_code
def y_Mo_heaviest : MethodName := ⟨R_Mo, "heaviest", "(II)D"⟩
def ws_Mo_heaviest : List Cond := .code y_Mo_heaviest b_Mo_heaviest 8 (some .double) :: TG
abbrev b_Mo_heavy : ByteArray := prog_6_method_15_code
def y_Mo_heavy : MethodName := ⟨R_Mo, "heavy", "(I)D"⟩
def ws_Mo_heavy : List Cond := .code y_Mo_heavy b_Mo_heavy 2 (some .double) :: TG
abbrev b_Mo_sum : ByteArray := prog_6_method_14_code
def y_Mo_sum : MethodName := ⟨R_Mo, "sum", "(I)I"⟩
def ws_Mo_sum : List Cond := .code y_Mo_sum b_Mo_sum 4 (some .int) :: TG
abbrev b_Mo_price : ByteArray := prog_6_method_13_code
def y_Mo_price : MethodName := ⟨R_Mo, "price", "(I)I"⟩
def ws_Mo_price : List Cond := .code y_Mo_price b_Mo_price 1 (some .int) :: TG
abbrev b_Mo_place : ByteArray := prog_6_method_22_code
def y_Mo_place : MethodName := ⟨R_Mo, "place", "(I)I"⟩
def ws_Mo_place : List Cond := .code y_Mo_place b_Mo_place 3 (some .int) :: TG
abbrev b_Mo_weight : ByteArray := prog_6_method_23_code
def y_Mo_weight : MethodName := ⟨R_Mo, "weight", "(I)D"⟩
def ws_Mo_weight : List Cond := .code y_Mo_weight b_Mo_weight 3 (some .double) :: TG
abbrev b_Mo_told : ByteArray := prog_6_method_24_code
def y_Mo_told : MethodName := ⟨R_Mo, "told", "(II)I"⟩
def ws_Mo_told : List Cond := .code y_Mo_told b_Mo_told 7 (some .int) :: TG
abbrev b_Mo_cost : ByteArray := prog_6_method_25_code
def y_Mo_cost : MethodName := ⟨R_Mo, "cost", "()D"⟩
def ws_Mo_cost : List Cond := .code y_Mo_cost b_Mo_cost 4 (some .double) :: TG
abbrev b_Mo_run : ByteArray := prog_6_method_28_code
def y_Mo_run : MethodName := ⟨R_Mo, "run", "(IIII)I"⟩
def ws_Mo_run : List Cond := .code y_Mo_run b_Mo_run 6 (some .int) :: TG
abbrev b_Mo_perform : ByteArray := prog_6_method_27_code
def y_Mo_perform : MethodName := ⟨R_Mo, "perform", "(IIIIZ)Z"⟩
def ws_Mo_perform : List Cond := .code y_Mo_perform b_Mo_perform 12 (some .boolean) :: TG
abbrev b_Mo_taken : ByteArray := prog_6_method_26_code
def y_Mo_taken : MethodName := ⟨R_Mo, "taken", "(IZ)I"⟩
def ws_Mo_taken : List Cond := .code y_Mo_taken b_Mo_taken 3 (some .int) :: TG
abbrev b_Mo_go : ByteArray := prog_6_method_29_code
def y_Mo_go : MethodName := ⟨R_Mo, "go", "(IIII)I"⟩
def ws_Mo_go : List Cond := .code y_Mo_go b_Mo_go 6 (some .int) :: TG
abbrev b_Mo_same : ByteArray := prog_6_method_30_code
def y_Mo_same : MethodName := ⟨R_Mo, "same", "(IIII)Z"⟩
def ws_Mo_same : List Cond := .code y_Mo_same b_Mo_same 10 (some .boolean) :: TG
abbrev b_Mo_said : ByteArray := prog_6_method_31_code
def y_Mo_said : MethodName := ⟨R_Mo, "said", "(I)I"⟩
def ws_Mo_said : List Cond := .code y_Mo_said b_Mo_said 2 (some .int) :: TG
abbrev b_Mo_count : ByteArray := prog_6_method_33_code
def y_Mo_count : MethodName := ⟨R_Mo, "count", "(I)I"⟩
def ws_Mo_count : List Cond := .code y_Mo_count b_Mo_count 5 (some .int) :: TG
abbrev b_Mo_used : ByteArray := prog_6_method_32_code
def y_Mo_used : MethodName := ⟨R_Mo, "used", "(II)I"⟩
def ws_Mo_used : List Cond := .code y_Mo_used b_Mo_used 7 (some .int) :: TG
abbrev b_La_law : ByteArray := code
def y_La_law : MethodName := ⟨R_La, "law", "([I)Z"⟩
theorem sp_Co_noteUse : Cond.selects R_Co y_Co_noteUse y_Co_noteUse ∈ TG := tg_s (by decide +kernel) rfl
theorem sp_Al_longestWaiting : Cond.selects R_Al y_Al_longestWaiting y_Al_longestWaiting ∈ TG := tg_s (by decide +kernel) rfl
theorem sp_Al_takeRegister : Cond.selects R_Al y_Al_takeRegister y_Al_takeRegister ∈ TG := tg_s (by decide +kernel) rfl
theorem sp_Al_heaviestMeeting : Cond.selects R_Al y_Al_heaviestMeeting y_Al_heaviestMeeting ∈ TG := tg_s (by decide +kernel) rfl
theorem sp_Al_evictMeeting : Cond.selects R_Al y_Al_evictMeeting y_Al_evictMeeting ∈ TG := tg_s (by decide +kernel) rfl
theorem sp_Al_takeSlot : Cond.selects R_Al y_Al_takeSlot y_Al_takeSlot ∈ TG := tg_s (by decide +kernel) rfl
theorem sp_Al_valuesFrom : Cond.selects R_Al y_Al_valuesFrom y_Al_valuesFrom ∈ TG := tg_s (by decide +kernel) rfl
theorem sp_Al_valuesAt : Cond.selects R_Al y_Al_valuesAt y_Al_valuesAt ∈ TG := tg_s (by decide +kernel) rfl
theorem sp_AF_requireValue : Cond.selects R_AF y_AF_requireValue y_AF_requireValue ∈ TG := tg_s (by decide +kernel) rfl
theorem sp_AF_requireAllocated : Cond.selects R_AF y_AF_requireAllocated y_AF_requireAllocated ∈ TG := tg_s (by decide +kernel) rfl
theorem sp_AF_runWritten : Cond.selects R_AF y_AF_runWritten y_AF_runWritten ∈ TG := tg_s (by decide +kernel) rfl
theorem sp_Ma_step : Cond.selects R_Ma y_Ma_step y_Ma_step ∈ TG := tg_s (by decide +kernel) rfl
theorem sp_Ma_compute : Cond.selects R_Ma y_Ma_compute y_Ma_compute ∈ TG := tg_s (by decide +kernel) rfl
theorem sp_Ma_divide : Cond.selects R_Ma y_Ma_divide y_Ma_divide ∈ TG := tg_s (by decide +kernel) rfl
theorem sp_Ma_spoil : Cond.selects R_Ma y_Ma_spoil y_Ma_spoil ∈ TG := tg_s (by decide +kernel) rfl
theorem sp_AF_runAllocated : Cond.selects R_AF y_AF_runAllocated y_AF_runAllocated ∈ TG := tg_s (by decide +kernel) rfl
theorem sp_Al_homesUsed : Cond.selects R_Al y_Al_homesUsed y_Al_homesUsed ∈ TG := tg_s (by decide +kernel) rfl
theorem sp_Mo_isValue : Cond.selects R_Mo y_Mo_isValue y_Mo_isValue ∈ TG := tg_s (by decide +kernel) rfl
theorem sp_Mo_fail : Cond.selects R_Mo y_Mo_fail y_Mo_fail ∈ TG := tg_s (by decide +kernel) rfl
theorem sp_Mo_next : Cond.selects R_Mo y_Mo_next y_Mo_next ∈ TG := tg_s (by decide +kernel) rfl
theorem sp_Mo_end : Cond.selects R_Mo y_Mo_end y_Mo_end ∈ TG := tg_s (by decide +kernel) rfl
theorem sp_Mo_uses : Cond.selects R_Mo y_Mo_uses y_Mo_uses ∈ TG := tg_s (by decide +kernel) rfl
theorem sp_Mo_give : Cond.selects R_Mo y_Mo_give y_Mo_give ∈ TG := tg_s (by decide +kernel) rfl
theorem sp_Mo_isCrossed : Cond.selects R_Mo y_Mo_isCrossed y_Mo_isCrossed ∈ TG := tg_s (by decide +kernel) rfl
theorem sp_Mo_free : Cond.selects R_Mo y_Mo_free y_Mo_free ∈ TG := tg_s (by decide +kernel) rfl
theorem sp_Mo_isFree : Cond.selects R_Mo y_Mo_isFree y_Mo_isFree ∈ TG := tg_s (by decide +kernel) rfl
theorem sp_Mo_meet : Cond.selects R_Mo y_Mo_meet y_Mo_meet ∈ TG := tg_s (by decide +kernel) rfl
theorem sp_Mo_heaviest : Cond.selects R_Mo y_Mo_heaviest y_Mo_heaviest ∈ TG := tg_s (by decide +kernel) rfl
theorem sp_Mo_heavy : Cond.selects R_Mo y_Mo_heavy y_Mo_heavy ∈ TG := tg_s (by decide +kernel) rfl
theorem sp_Mo_sum : Cond.selects R_Mo y_Mo_sum y_Mo_sum ∈ TG := tg_s (by decide +kernel) rfl
theorem sp_Mo_perform : Cond.selects R_Mo y_Mo_perform y_Mo_perform ∈ TG := tg_s (by decide +kernel) rfl
theorem sp_Mo_taken : Cond.selects R_Mo y_Mo_taken y_Mo_taken ∈ TG := tg_s (by decide +kernel) rfl
theorem sp_Mo_used : Cond.selects R_Mo y_Mo_used y_Mo_used ∈ TG := tg_s (by decide +kernel) rfl
end
section
/-! decode rows -/
theorem d_Co_init_0 : decode b_Co_init 0 = .ok (.aload_n 0, 1) := by decide +kernel
theorem d_Co_init_1 : decode b_Co_init 1 = .ok (.invokespecial 3, 3) := by decide +kernel
theorem d_Co_init_4 : decode b_Co_init 4 = .ok (.aload_n 0, 1) := by decide +kernel
theorem d_Co_init_5 : decode b_Co_init 5 = .ok (.bipush 24, 2) := by decide +kernel
theorem d_Co_init_7 : decode b_Co_init 7 = .ok (.newarray .int, 2) := by decide +kernel
theorem d_Co_init_9 : decode b_Co_init 9 = .ok (.putfield 9, 3) := by decide +kernel
theorem d_Co_init_12 : decode b_Co_init 12 = .ok (.aload_n 0, 1) := by decide +kernel
theorem d_Co_init_13 : decode b_Co_init 13 = .ok (.bipush 24, 2) := by decide +kernel
theorem d_Co_init_15 : decode b_Co_init 15 = .ok (.newarray .int, 2) := by decide +kernel
theorem d_Co_init_17 : decode b_Co_init 17 = .ok (.putfield 15, 3) := by decide +kernel
theorem d_Co_init_20 : decode b_Co_init 20 = .ok (.aload_n 0, 1) := by decide +kernel
theorem d_Co_init_21 : decode b_Co_init 21 = .ok (.bipush 24, 2) := by decide +kernel
theorem d_Co_init_23 : decode b_Co_init 23 = .ok (.newarray .int, 2) := by decide +kernel
theorem d_Co_init_25 : decode b_Co_init 25 = .ok (.putfield 18, 3) := by decide +kernel
theorem d_Co_init_28 : decode b_Co_init 28 = .ok (.aload_n 0, 1) := by decide +kernel
theorem d_Co_init_29 : decode b_Co_init 29 = .ok (.bipush 24, 2) := by decide +kernel
theorem d_Co_init_31 : decode b_Co_init 31 = .ok (.newarray .int, 2) := by decide +kernel
theorem d_Co_init_33 : decode b_Co_init 33 = .ok (.putfield 21, 3) := by decide +kernel
theorem d_Co_init_36 : decode b_Co_init 36 = .ok (.aload_n 0, 1) := by decide +kernel
theorem d_Co_init_37 : decode b_Co_init 37 = .ok (.bipush 24, 2) := by decide +kernel
theorem d_Co_init_39 : decode b_Co_init 39 = .ok (.newarray .int, 2) := by decide +kernel
theorem d_Co_init_41 : decode b_Co_init 41 = .ok (.putfield 24, 3) := by decide +kernel
theorem d_Co_init_44 : decode b_Co_init 44 = .ok (.aload_n 0, 1) := by decide +kernel
theorem d_Co_init_45 : decode b_Co_init 45 = .ok (.bipush 24, 2) := by decide +kernel
theorem d_Co_init_47 : decode b_Co_init 47 = .ok (.newarray .int, 2) := by decide +kernel
theorem d_Co_init_49 : decode b_Co_init 49 = .ok (.putfield 27, 3) := by decide +kernel
theorem d_Co_init_52 : decode b_Co_init 52 = .ok (.return_, 1) := by decide +kernel
theorem d_Ma_init_0 : decode b_Ma_init 0 = .ok (.aload_n 0, 1) := by decide +kernel
theorem d_Ma_init_1 : decode b_Ma_init 1 = .ok (.invokespecial 3, 3) := by decide +kernel
theorem d_Ma_init_4 : decode b_Ma_init 4 = .ok (.aload_n 0, 1) := by decide +kernel
theorem d_Ma_init_5 : decode b_Ma_init 5 = .ok (.bipush 24, 2) := by decide +kernel
theorem d_Ma_init_7 : decode b_Ma_init 7 = .ok (.newarray .int, 2) := by decide +kernel
theorem d_Ma_init_9 : decode b_Ma_init 9 = .ok (.putfield 9, 3) := by decide +kernel
theorem d_Ma_init_12 : decode b_Ma_init 12 = .ok (.aload_n 0, 1) := by decide +kernel
theorem d_Ma_init_13 : decode b_Ma_init 13 = .ok (.iconst 4, 1) := by decide +kernel
theorem d_Ma_init_14 : decode b_Ma_init 14 = .ok (.newarray .int, 2) := by decide +kernel
theorem d_Ma_init_16 : decode b_Ma_init 16 = .ok (.putfield 15, 3) := by decide +kernel
theorem d_Ma_init_19 : decode b_Ma_init 19 = .ok (.aload_n 0, 1) := by decide +kernel
theorem d_Ma_init_20 : decode b_Ma_init 20 = .ok (.bipush 24, 2) := by decide +kernel
theorem d_Ma_init_22 : decode b_Ma_init 22 = .ok (.newarray .int, 2) := by decide +kernel
theorem d_Ma_init_24 : decode b_Ma_init 24 = .ok (.putfield 18, 3) := by decide +kernel
theorem d_Ma_init_27 : decode b_Ma_init 27 = .ok (.return_, 1) := by decide +kernel
theorem d_Al_init_0 : decode b_Al_init 0 = .ok (.aload_n 0, 1) := by decide +kernel
theorem d_Al_init_1 : decode b_Al_init 1 = .ok (.invokespecial 3, 3) := by decide +kernel
theorem d_Al_init_4 : decode b_Al_init 4 = .ok (.aload_n 0, 1) := by decide +kernel
theorem d_Al_init_5 : decode b_Al_init 5 = .ok (.bipush 24, 2) := by decide +kernel
theorem d_Al_init_7 : decode b_Al_init 7 = .ok (.newarray .int, 2) := by decide +kernel
theorem d_Al_init_9 : decode b_Al_init 9 = .ok (.putfield 9, 3) := by decide +kernel
theorem d_Al_init_12 : decode b_Al_init 12 = .ok (.aload_n 0, 1) := by decide +kernel
theorem d_Al_init_13 : decode b_Al_init 13 = .ok (.getfield 9, 3) := by decide +kernel
theorem d_Al_init_16 : decode b_Al_init 16 = .ok (.iconst (-1), 1) := by decide +kernel
theorem d_Al_init_17 : decode b_Al_init 17 = .ok (.invokestatic 15, 3) := by decide +kernel
theorem d_Al_init_20 : decode b_Al_init 20 = .ok (.return_, 1) := by decide +kernel
theorem d_Ar_fill_0 : decode b_Ar_fill 0 = .ok (.iconst 0, 1) := by decide +kernel
theorem d_Ar_fill_1 : decode b_Ar_fill 1 = .ok (.istore_n 2, 1) := by decide +kernel
theorem d_Ar_fill_2 : decode b_Ar_fill 2 = .ok (.aload_n 0, 1) := by decide +kernel
theorem d_Ar_fill_3 : decode b_Ar_fill 3 = .ok (.arraylength, 1) := by decide +kernel
theorem d_Ar_fill_4 : decode b_Ar_fill 4 = .ok (.istore_n 3, 1) := by decide +kernel
theorem d_Ar_fill_5 : decode b_Ar_fill 5 = .ok (.iload_n 2, 1) := by decide +kernel
theorem d_Ar_fill_6 : decode b_Ar_fill 6 = .ok (.iload_n 3, 1) := by decide +kernel
theorem d_Ar_fill_7 : decode b_Ar_fill 7 = .ok (.if_icmp .ge 13, 3) := by decide +kernel
theorem d_Ar_fill_10 : decode b_Ar_fill 10 = .ok (.aload_n 0, 1) := by decide +kernel
theorem d_Ar_fill_11 : decode b_Ar_fill 11 = .ok (.iload_n 2, 1) := by decide +kernel
theorem d_Ar_fill_12 : decode b_Ar_fill 12 = .ok (.iload_n 1, 1) := by decide +kernel
theorem d_Ar_fill_13 : decode b_Ar_fill 13 = .ok (.iastore, 1) := by decide +kernel
theorem d_Ar_fill_14 : decode b_Ar_fill 14 = .ok (.iinc 2 1, 3) := by decide +kernel
theorem d_Ar_fill_17 : decode b_Ar_fill 17 = .ok (.goto (-12), 3) := by decide +kernel
theorem d_Ar_fill_20 : decode b_Ar_fill 20 = .ok (.return_, 1) := by decide +kernel
theorem d_Co_size_0 : decode b_Co_size 0 = .ok (.aload_n 0, 1) := by decide +kernel
theorem d_Co_size_1 : decode b_Co_size 1 = .ok (.getfield 43, 3) := by decide +kernel
theorem d_Co_size_4 : decode b_Co_size 4 = .ok (.ireturn, 1) := by decide +kernel
theorem d_Co_empty_0 : decode b_Co_empty 0 = .ok (.aload_n 0, 1) := by decide +kernel
theorem d_Co_empty_1 : decode b_Co_empty 1 = .ok (.iconst 0, 1) := by decide +kernel
theorem d_Co_empty_2 : decode b_Co_empty 2 = .ok (.putfield 43, 3) := by decide +kernel
theorem d_Co_empty_5 : decode b_Co_empty 5 = .ok (.aload_n 0, 1) := by decide +kernel
theorem d_Co_empty_6 : decode b_Co_empty 6 = .ok (.iconst 0, 1) := by decide +kernel
theorem d_Co_empty_7 : decode b_Co_empty 7 = .ok (.putfield 51, 3) := by decide +kernel
theorem d_Co_empty_10 : decode b_Co_empty 10 = .ok (.return_, 1) := by decide +kernel
theorem d_Al_forget_0 : decode b_Al_forget 0 = .ok (.aload_n 0, 1) := by decide +kernel
theorem d_Al_forget_1 : decode b_Al_forget 1 = .ok (.getfield 9, 3) := by decide +kernel
theorem d_Al_forget_4 : decode b_Al_forget 4 = .ok (.iconst (-1), 1) := by decide +kernel
theorem d_Al_forget_5 : decode b_Al_forget 5 = .ok (.invokestatic 15, 3) := by decide +kernel
theorem d_Al_forget_8 : decode b_Al_forget 8 = .ok (.aload_n 0, 1) := by decide +kernel
theorem d_Al_forget_9 : decode b_Al_forget 9 = .ok (.iconst 0, 1) := by decide +kernel
theorem d_Al_forget_10 : decode b_Al_forget 10 = .ok (.putfield 21, 3) := by decide +kernel
theorem d_Al_forget_13 : decode b_Al_forget 13 = .ok (.aload_n 0, 1) := by decide +kernel
theorem d_Al_forget_14 : decode b_Al_forget 14 = .ok (.iconst 0, 1) := by decide +kernel
theorem d_Al_forget_15 : decode b_Al_forget 15 = .ok (.putfield 25, 3) := by decide +kernel
theorem d_Al_forget_18 : decode b_Al_forget 18 = .ok (.return_, 1) := by decide +kernel
theorem d_Co_accepts_0 : decode b_Co_accepts 0 = .ok (.iload_n 1, 1) := by decide +kernel
theorem d_Co_accepts_1 : decode b_Co_accepts 1 = .ok (.ifCond .lt 23, 3) := by decide +kernel
theorem d_Co_accepts_4 : decode b_Co_accepts 4 = .ok (.iload_n 1, 1) := by decide +kernel
theorem d_Co_accepts_5 : decode b_Co_accepts 5 = .ok (.bipush 7, 2) := by decide +kernel
theorem d_Co_accepts_7 : decode b_Co_accepts 7 = .ok (.if_icmp .gt 17, 3) := by decide +kernel
theorem d_Co_accepts_10 : decode b_Co_accepts 10 = .ok (.iload 4, 2) := by decide +kernel
theorem d_Co_accepts_12 : decode b_Co_accepts 12 = .ok (.ifCond .lt 12, 3) := by decide +kernel
theorem d_Co_accepts_15 : decode b_Co_accepts 15 = .ok (.iload 4, 2) := by decide +kernel
theorem d_Co_accepts_17 : decode b_Co_accepts 17 = .ok (.getstatic 30, 3) := by decide +kernel
theorem d_Co_accepts_20 : decode b_Co_accepts 20 = .ok (.arraylength, 1) := by decide +kernel
theorem d_Co_accepts_21 : decode b_Co_accepts 21 = .ok (.if_icmp .lt 5, 3) := by decide +kernel
theorem d_Co_accepts_24 : decode b_Co_accepts 24 = .ok (.iconst 0, 1) := by decide +kernel
theorem d_Co_accepts_25 : decode b_Co_accepts 25 = .ok (.ireturn, 1) := by decide +kernel
theorem d_Co_accepts_26 : decode b_Co_accepts 26 = .ok (.iload_n 1, 1) := by decide +kernel
theorem d_Co_accepts_27 : decode b_Co_accepts 27 = .ok (.iconst 1, 1) := by decide +kernel
theorem d_Co_accepts_28 : decode b_Co_accepts 28 = .ok (.if_icmp .ne 14, 3) := by decide +kernel
theorem d_Co_accepts_31 : decode b_Co_accepts 31 = .ok (.iload_n 2, 1) := by decide +kernel
theorem d_Co_accepts_32 : decode b_Co_accepts 32 = .ok (.ifCond .lt 8, 3) := by decide +kernel
theorem d_Co_accepts_35 : decode b_Co_accepts 35 = .ok (.iload_n 2, 1) := by decide +kernel
theorem d_Co_accepts_36 : decode b_Co_accepts 36 = .ok (.iconst 4, 1) := by decide +kernel
theorem d_Co_accepts_37 : decode b_Co_accepts 37 = .ok (.if_icmp .lt 5, 3) := by decide +kernel
theorem d_Co_accepts_40 : decode b_Co_accepts 40 = .ok (.iconst 0, 1) := by decide +kernel
theorem d_Co_accepts_41 : decode b_Co_accepts 41 = .ok (.ireturn, 1) := by decide +kernel
theorem d_Co_accepts_42 : decode b_Co_accepts 42 = .ok (.iload_n 1, 1) := by decide +kernel
theorem d_Co_accepts_43 : decode b_Co_accepts 43 = .ok (.invokestatic 33, 3) := by decide +kernel
theorem d_Co_accepts_46 : decode b_Co_accepts 46 = .ok (.ifCond .eq 13, 3) := by decide +kernel
theorem d_Co_accepts_49 : decode b_Co_accepts 49 = .ok (.aload_n 0, 1) := by decide +kernel
theorem d_Co_accepts_50 : decode b_Co_accepts 50 = .ok (.iload_n 2, 1) := by decide +kernel
theorem d_Co_accepts_51 : decode b_Co_accepts 51 = .ok (.invokevirtual 37, 3) := by decide +kernel
theorem d_Co_accepts_54 : decode b_Co_accepts 54 = .ok (.ifCond .ne 5, 3) := by decide +kernel
theorem d_Co_accepts_57 : decode b_Co_accepts 57 = .ok (.iconst 0, 1) := by decide +kernel
theorem d_Co_accepts_58 : decode b_Co_accepts 58 = .ok (.ireturn, 1) := by decide +kernel
theorem d_Co_accepts_59 : decode b_Co_accepts 59 = .ok (.iload_n 1, 1) := by decide +kernel
theorem d_Co_accepts_60 : decode b_Co_accepts 60 = .ok (.invokestatic 40, 3) := by decide +kernel
theorem d_Co_accepts_63 : decode b_Co_accepts 63 = .ok (.ifCond .eq 11, 3) := by decide +kernel
theorem d_Co_accepts_66 : decode b_Co_accepts 66 = .ok (.aload_n 0, 1) := by decide +kernel
theorem d_Co_accepts_67 : decode b_Co_accepts 67 = .ok (.iload_n 3, 1) := by decide +kernel
theorem d_Co_accepts_68 : decode b_Co_accepts 68 = .ok (.invokevirtual 37, 3) := by decide +kernel
theorem d_Co_accepts_71 : decode b_Co_accepts 71 = .ok (.ifCond .eq 7, 3) := by decide +kernel
theorem d_Co_accepts_74 : decode b_Co_accepts 74 = .ok (.iconst 1, 1) := by decide +kernel
theorem d_Co_accepts_75 : decode b_Co_accepts 75 = .ok (.goto 4, 3) := by decide +kernel
theorem d_Co_accepts_78 : decode b_Co_accepts 78 = .ok (.iconst 0, 1) := by decide +kernel
theorem d_Co_accepts_79 : decode b_Co_accepts 79 = .ok (.ireturn, 1) := by decide +kernel
theorem d_Co_usesLeft_0 : decode b_Co_usesLeft 0 = .ok (.iload_n 0, 1) := by decide +kernel
theorem d_Co_usesLeft_1 : decode b_Co_usesLeft 1 = .ok (.iconst 2, 1) := by decide +kernel
theorem d_Co_usesLeft_2 : decode b_Co_usesLeft 2 = .ok (.if_icmp .lt 7, 3) := by decide +kernel
theorem d_Co_usesLeft_5 : decode b_Co_usesLeft 5 = .ok (.iconst 1, 1) := by decide +kernel
theorem d_Co_usesLeft_6 : decode b_Co_usesLeft 6 = .ok (.goto 4, 3) := by decide +kernel
theorem d_Co_usesLeft_9 : decode b_Co_usesLeft 9 = .ok (.iconst 0, 1) := by decide +kernel
theorem d_Co_usesLeft_10 : decode b_Co_usesLeft 10 = .ok (.ireturn, 1) := by decide +kernel
theorem d_Co_isValue_0 : decode b_Co_isValue 0 = .ok (.iload_n 1, 1) := by decide +kernel
theorem d_Co_isValue_1 : decode b_Co_isValue 1 = .ok (.ifCond .lt 26, 3) := by decide +kernel
theorem d_Co_isValue_4 : decode b_Co_isValue 4 = .ok (.iload_n 1, 1) := by decide +kernel
theorem d_Co_isValue_5 : decode b_Co_isValue 5 = .ok (.aload_n 0, 1) := by decide +kernel
theorem d_Co_isValue_6 : decode b_Co_isValue 6 = .ok (.getfield 43, 3) := by decide +kernel
theorem d_Co_isValue_9 : decode b_Co_isValue 9 = .ok (.if_icmp .ge 18, 3) := by decide +kernel
theorem d_Co_isValue_12 : decode b_Co_isValue 12 = .ok (.aload_n 0, 1) := by decide +kernel
theorem d_Co_isValue_13 : decode b_Co_isValue 13 = .ok (.getfield 9, 3) := by decide +kernel
theorem d_Co_isValue_16 : decode b_Co_isValue 16 = .ok (.iload_n 1, 1) := by decide +kernel
theorem d_Co_isValue_17 : decode b_Co_isValue 17 = .ok (.iaload, 1) := by decide +kernel
theorem d_Co_isValue_18 : decode b_Co_isValue 18 = .ok (.bipush 6, 2) := by decide +kernel
theorem d_Co_isValue_20 : decode b_Co_isValue 20 = .ok (.if_icmp .eq 7, 3) := by decide +kernel
theorem d_Co_isValue_23 : decode b_Co_isValue 23 = .ok (.iconst 1, 1) := by decide +kernel
theorem d_Co_isValue_24 : decode b_Co_isValue 24 = .ok (.goto 4, 3) := by decide +kernel
theorem d_Co_isValue_27 : decode b_Co_isValue 27 = .ok (.iconst 0, 1) := by decide +kernel
theorem d_Co_isValue_28 : decode b_Co_isValue 28 = .ok (.ireturn, 1) := by decide +kernel
theorem d_Co_usesRight_0 : decode b_Co_usesRight 0 = .ok (.iload_n 0, 1) := by decide +kernel
theorem d_Co_usesRight_1 : decode b_Co_usesRight 1 = .ok (.iconst 2, 1) := by decide +kernel
theorem d_Co_usesRight_2 : decode b_Co_usesRight 2 = .ok (.if_icmp .lt 12, 3) := by decide +kernel
theorem d_Co_usesRight_5 : decode b_Co_usesRight 5 = .ok (.iload_n 0, 1) := by decide +kernel
theorem d_Co_usesRight_6 : decode b_Co_usesRight 6 = .ok (.iconst 5, 1) := by decide +kernel
theorem d_Co_usesRight_7 : decode b_Co_usesRight 7 = .ok (.if_icmp .gt 7, 3) := by decide +kernel
theorem d_Co_usesRight_10 : decode b_Co_usesRight 10 = .ok (.iconst 1, 1) := by decide +kernel
theorem d_Co_usesRight_11 : decode b_Co_usesRight 11 = .ok (.goto 4, 3) := by decide +kernel
theorem d_Co_usesRight_14 : decode b_Co_usesRight 14 = .ok (.iconst 0, 1) := by decide +kernel
theorem d_Co_usesRight_15 : decode b_Co_usesRight 15 = .ok (.ireturn, 1) := by decide +kernel
theorem d_Co_append_0 : decode b_Co_append 0 = .ok (.aload_n 0, 1) := by decide +kernel
theorem d_Co_append_1 : decode b_Co_append 1 = .ok (.getfield 43, 3) := by decide +kernel
theorem d_Co_append_4 : decode b_Co_append 4 = .ok (.istore 5, 2) := by decide +kernel
theorem d_Co_append_6 : decode b_Co_append 6 = .ok (.aload_n 0, 1) := by decide +kernel
theorem d_Co_append_7 : decode b_Co_append 7 = .ok (.getfield 9, 3) := by decide +kernel
theorem d_Co_append_10 : decode b_Co_append 10 = .ok (.iload 5, 2) := by decide +kernel
theorem d_Co_append_12 : decode b_Co_append 12 = .ok (.iload_n 1, 1) := by decide +kernel
theorem d_Co_append_13 : decode b_Co_append 13 = .ok (.iastore, 1) := by decide +kernel
theorem d_Co_append_14 : decode b_Co_append 14 = .ok (.aload_n 0, 1) := by decide +kernel
theorem d_Co_append_15 : decode b_Co_append 15 = .ok (.getfield 15, 3) := by decide +kernel
theorem d_Co_append_18 : decode b_Co_append 18 = .ok (.iload 5, 2) := by decide +kernel
theorem d_Co_append_20 : decode b_Co_append 20 = .ok (.iload_n 2, 1) := by decide +kernel
theorem d_Co_append_21 : decode b_Co_append 21 = .ok (.iastore, 1) := by decide +kernel
theorem d_Co_append_22 : decode b_Co_append 22 = .ok (.aload_n 0, 1) := by decide +kernel
theorem d_Co_append_23 : decode b_Co_append 23 = .ok (.getfield 18, 3) := by decide +kernel
theorem d_Co_append_26 : decode b_Co_append 26 = .ok (.iload 5, 2) := by decide +kernel
theorem d_Co_append_28 : decode b_Co_append 28 = .ok (.iload_n 3, 1) := by decide +kernel
theorem d_Co_append_29 : decode b_Co_append 29 = .ok (.iastore, 1) := by decide +kernel
theorem d_Co_append_30 : decode b_Co_append 30 = .ok (.aload_n 0, 1) := by decide +kernel
theorem d_Co_append_31 : decode b_Co_append 31 = .ok (.getfield 21, 3) := by decide +kernel
theorem d_Co_append_34 : decode b_Co_append 34 = .ok (.iload 5, 2) := by decide +kernel
theorem d_Co_append_36 : decode b_Co_append 36 = .ok (.iload 5, 2) := by decide +kernel
theorem d_Co_append_38 : decode b_Co_append 38 = .ok (.iconst 1, 1) := by decide +kernel
theorem d_Co_append_39 : decode b_Co_append 39 = .ok (.iadd, 1) := by decide +kernel
theorem d_Co_append_40 : decode b_Co_append 40 = .ok (.iastore, 1) := by decide +kernel
theorem d_Co_append_41 : decode b_Co_append 41 = .ok (.aload_n 0, 1) := by decide +kernel
theorem d_Co_append_42 : decode b_Co_append 42 = .ok (.getfield 24, 3) := by decide +kernel
theorem d_Co_append_45 : decode b_Co_append 45 = .ok (.iload 5, 2) := by decide +kernel
theorem d_Co_append_47 : decode b_Co_append 47 = .ok (.iconst 0, 1) := by decide +kernel
theorem d_Co_append_48 : decode b_Co_append 48 = .ok (.iastore, 1) := by decide +kernel
theorem d_Co_append_49 : decode b_Co_append 49 = .ok (.aload_n 0, 1) := by decide +kernel
theorem d_Co_append_50 : decode b_Co_append 50 = .ok (.getfield 27, 3) := by decide +kernel
theorem d_Co_append_53 : decode b_Co_append 53 = .ok (.iload 5, 2) := by decide +kernel
theorem d_Co_append_55 : decode b_Co_append 55 = .ok (.getstatic 30, 3) := by decide +kernel
theorem d_Co_append_58 : decode b_Co_append 58 = .ok (.iload 4, 2) := by decide +kernel
theorem d_Co_append_60 : decode b_Co_append 60 = .ok (.iaload, 1) := by decide +kernel
theorem d_Co_append_61 : decode b_Co_append 61 = .ok (.iastore, 1) := by decide +kernel
theorem d_Co_append_62 : decode b_Co_append 62 = .ok (.iload_n 1, 1) := by decide +kernel
theorem d_Co_append_63 : decode b_Co_append 63 = .ok (.invokestatic 33, 3) := by decide +kernel
theorem d_Co_append_66 : decode b_Co_append 66 = .ok (.ifCond .eq 10, 3) := by decide +kernel
theorem d_Co_append_69 : decode b_Co_append 69 = .ok (.aload_n 0, 1) := by decide +kernel
theorem d_Co_append_70 : decode b_Co_append 70 = .ok (.iload_n 2, 1) := by decide +kernel
theorem d_Co_append_71 : decode b_Co_append 71 = .ok (.iload 5, 2) := by decide +kernel
theorem d_Co_append_73 : decode b_Co_append 73 = .ok (.invokevirtual 47, 3) := by decide +kernel
theorem d_Co_append_76 : decode b_Co_append 76 = .ok (.iload_n 1, 1) := by decide +kernel
theorem d_Co_append_77 : decode b_Co_append 77 = .ok (.invokestatic 40, 3) := by decide +kernel
theorem d_Co_append_80 : decode b_Co_append 80 = .ok (.ifCond .eq 10, 3) := by decide +kernel
theorem d_Co_append_83 : decode b_Co_append 83 = .ok (.aload_n 0, 1) := by decide +kernel
theorem d_Co_append_84 : decode b_Co_append 84 = .ok (.iload_n 3, 1) := by decide +kernel
theorem d_Co_append_85 : decode b_Co_append 85 = .ok (.iload 5, 2) := by decide +kernel
theorem d_Co_append_87 : decode b_Co_append 87 = .ok (.invokevirtual 47, 3) := by decide +kernel
theorem d_Co_append_90 : decode b_Co_append 90 = .ok (.iload_n 1, 1) := by decide +kernel
theorem d_Co_append_91 : decode b_Co_append 91 = .ok (.bipush 6, 2) := by decide +kernel
theorem d_Co_append_93 : decode b_Co_append 93 = .ok (.if_icmp .eq 13, 3) := by decide +kernel
theorem d_Co_append_96 : decode b_Co_append 96 = .ok (.aload_n 0, 1) := by decide +kernel
theorem d_Co_append_97 : decode b_Co_append 97 = .ok (.dup, 1) := by decide +kernel
theorem d_Co_append_98 : decode b_Co_append 98 = .ok (.getfield 51, 3) := by decide +kernel
theorem d_Co_append_101 : decode b_Co_append 101 = .ok (.iconst 1, 1) := by decide +kernel
theorem d_Co_append_102 : decode b_Co_append 102 = .ok (.iadd, 1) := by decide +kernel
theorem d_Co_append_103 : decode b_Co_append 103 = .ok (.putfield 51, 3) := by decide +kernel
theorem d_Co_append_106 : decode b_Co_append 106 = .ok (.aload_n 0, 1) := by decide +kernel
theorem d_Co_append_107 : decode b_Co_append 107 = .ok (.dup, 1) := by decide +kernel
theorem d_Co_append_108 : decode b_Co_append 108 = .ok (.getfield 43, 3) := by decide +kernel
theorem d_Co_append_111 : decode b_Co_append 111 = .ok (.iconst 1, 1) := by decide +kernel
theorem d_Co_append_112 : decode b_Co_append 112 = .ok (.iadd, 1) := by decide +kernel
theorem d_Co_append_113 : decode b_Co_append 113 = .ok (.putfield 43, 3) := by decide +kernel
theorem d_Co_append_116 : decode b_Co_append 116 = .ok (.return_, 1) := by decide +kernel
theorem d_Co_noteUse_0 : decode b_Co_noteUse 0 = .ok (.aload_n 0, 1) := by decide +kernel
theorem d_Co_noteUse_1 : decode b_Co_noteUse 1 = .ok (.getfield 21, 3) := by decide +kernel
theorem d_Co_noteUse_4 : decode b_Co_noteUse 4 = .ok (.iload_n 1, 1) := by decide +kernel
theorem d_Co_noteUse_5 : decode b_Co_noteUse 5 = .ok (.iload_n 2, 1) := by decide +kernel
theorem d_Co_noteUse_6 : decode b_Co_noteUse 6 = .ok (.iastore, 1) := by decide +kernel
theorem d_Co_noteUse_7 : decode b_Co_noteUse 7 = .ok (.aload_n 0, 1) := by decide +kernel
theorem d_Co_noteUse_8 : decode b_Co_noteUse 8 = .ok (.getfield 24, 3) := by decide +kernel
theorem d_Co_noteUse_11 : decode b_Co_noteUse 11 = .ok (.iload_n 1, 1) := by decide +kernel
theorem d_Co_noteUse_12 : decode b_Co_noteUse 12 = .ok (.dup2, 1) := by decide +kernel
theorem d_Co_noteUse_13 : decode b_Co_noteUse 13 = .ok (.iaload, 1) := by decide +kernel
theorem d_Co_noteUse_14 : decode b_Co_noteUse 14 = .ok (.iconst 1, 1) := by decide +kernel
theorem d_Co_noteUse_15 : decode b_Co_noteUse 15 = .ok (.iadd, 1) := by decide +kernel
theorem d_Co_noteUse_16 : decode b_Co_noteUse 16 = .ok (.iastore, 1) := by decide +kernel
theorem d_Co_noteUse_17 : decode b_Co_noteUse 17 = .ok (.aload_n 0, 1) := by decide +kernel
theorem d_Co_noteUse_18 : decode b_Co_noteUse 18 = .ok (.getfield 27, 3) := by decide +kernel
theorem d_Co_noteUse_21 : decode b_Co_noteUse 21 = .ok (.iload_n 1, 1) := by decide +kernel
theorem d_Co_noteUse_22 : decode b_Co_noteUse 22 = .ok (.dup2, 1) := by decide +kernel
theorem d_Co_noteUse_23 : decode b_Co_noteUse 23 = .ok (.iaload, 1) := by decide +kernel
theorem d_Co_noteUse_24 : decode b_Co_noteUse 24 = .ok (.aload_n 0, 1) := by decide +kernel
theorem d_Co_noteUse_25 : decode b_Co_noteUse 25 = .ok (.getfield 27, 3) := by decide +kernel
theorem d_Co_noteUse_28 : decode b_Co_noteUse 28 = .ok (.iload_n 2, 1) := by decide +kernel
theorem d_Co_noteUse_29 : decode b_Co_noteUse 29 = .ok (.iaload, 1) := by decide +kernel
theorem d_Co_noteUse_30 : decode b_Co_noteUse 30 = .ok (.iadd, 1) := by decide +kernel
theorem d_Co_noteUse_31 : decode b_Co_noteUse 31 = .ok (.iastore, 1) := by decide +kernel
theorem d_Co_noteUse_32 : decode b_Co_noteUse 32 = .ok (.return_, 1) := by decide +kernel
theorem d_Al_fill_0 : decode b_Al_fill 0 = .ok (.aload_n 0, 1) := by decide +kernel
theorem d_Al_fill_1 : decode b_Al_fill 1 = .ok (.invokevirtual 28, 3) := by decide +kernel
theorem d_Al_fill_4 : decode b_Al_fill 4 = .ok (.aload_n 0, 1) := by decide +kernel
theorem d_Al_fill_5 : decode b_Al_fill 5 = .ok (.iload_n 2, 1) := by decide +kernel
theorem d_Al_fill_6 : decode b_Al_fill 6 = .ok (.putfield 21, 3) := by decide +kernel
theorem d_Al_fill_9 : decode b_Al_fill 9 = .ok (.iconst 0, 1) := by decide +kernel
theorem d_Al_fill_10 : decode b_Al_fill 10 = .ok (.istore_n 3, 1) := by decide +kernel
theorem d_Al_fill_11 : decode b_Al_fill 11 = .ok (.iload_n 3, 1) := by decide +kernel
theorem d_Al_fill_12 : decode b_Al_fill 12 = .ok (.ldc 31, 2) := by decide +kernel
theorem d_Al_fill_14 : decode b_Al_fill 14 = .ok (.if_icmp .ge 46, 3) := by decide +kernel
theorem d_Al_fill_17 : decode b_Al_fill 17 = .ok (.aload_n 0, 1) := by decide +kernel
theorem d_Al_fill_18 : decode b_Al_fill 18 = .ok (.aload_n 1, 1) := by decide +kernel
theorem d_Al_fill_19 : decode b_Al_fill 19 = .ok (.invokevirtual 32, 3) := by decide +kernel
theorem d_Al_fill_22 : decode b_Al_fill 22 = .ok (.istore 4, 2) := by decide +kernel
theorem d_Al_fill_24 : decode b_Al_fill 24 = .ok (.iload 4, 2) := by decide +kernel
theorem d_Al_fill_26 : decode b_Al_fill 26 = .ok (.iconst (-1), 1) := by decide +kernel
theorem d_Al_fill_27 : decode b_Al_fill 27 = .ok (.if_icmp .ne 5, 3) := by decide +kernel
theorem d_Al_fill_30 : decode b_Al_fill 30 = .ok (.iconst 1, 1) := by decide +kernel
theorem d_Al_fill_31 : decode b_Al_fill 31 = .ok (.ireturn, 1) := by decide +kernel
theorem d_Al_fill_32 : decode b_Al_fill 32 = .ok (.aload_n 0, 1) := by decide +kernel
theorem d_Al_fill_33 : decode b_Al_fill 33 = .ok (.aload_n 1, 1) := by decide +kernel
theorem d_Al_fill_34 : decode b_Al_fill 34 = .ok (.iload 4, 2) := by decide +kernel
theorem d_Al_fill_36 : decode b_Al_fill 36 = .ok (.invokevirtual 36, 3) := by decide +kernel
theorem d_Al_fill_39 : decode b_Al_fill 39 = .ok (.ifCond .ne 15, 3) := by decide +kernel
theorem d_Al_fill_42 : decode b_Al_fill 42 = .ok (.aload_n 0, 1) := by decide +kernel
theorem d_Al_fill_43 : decode b_Al_fill 43 = .ok (.aload_n 1, 1) := by decide +kernel
theorem d_Al_fill_44 : decode b_Al_fill 44 = .ok (.iload 4, 2) := by decide +kernel
theorem d_Al_fill_46 : decode b_Al_fill 46 = .ok (.invokevirtual 40, 3) := by decide +kernel
theorem d_Al_fill_49 : decode b_Al_fill 49 = .ok (.ifCond .ne 5, 3) := by decide +kernel
theorem d_Al_fill_52 : decode b_Al_fill 52 = .ok (.iconst 0, 1) := by decide +kernel
theorem d_Al_fill_53 : decode b_Al_fill 53 = .ok (.ireturn, 1) := by decide +kernel
theorem d_Al_fill_54 : decode b_Al_fill 54 = .ok (.iinc 3 1, 3) := by decide +kernel
theorem d_Al_fill_57 : decode b_Al_fill 57 = .ok (.goto (-46), 3) := by decide +kernel
theorem d_Al_fill_60 : decode b_Al_fill 60 = .ok (.iconst 0, 1) := by decide +kernel
theorem d_Al_fill_61 : decode b_Al_fill 61 = .ok (.ireturn, 1) := by decide +kernel
theorem d_Al_longestWaiting_0 : decode b_Al_longestWaiting 0 = .ok (.iconst (-1), 1) := by decide +kernel
theorem d_Al_longestWaiting_1 : decode b_Al_longestWaiting 1 = .ok (.istore_n 2, 1) := by decide +kernel
theorem d_Al_longestWaiting_2 : decode b_Al_longestWaiting 2 = .ok (.iconst 0, 1) := by decide +kernel
theorem d_Al_longestWaiting_3 : decode b_Al_longestWaiting 3 = .ok (.istore_n 3, 1) := by decide +kernel
theorem d_Al_longestWaiting_4 : decode b_Al_longestWaiting 4 = .ok (.iload_n 3, 1) := by decide +kernel
theorem d_Al_longestWaiting_5 : decode b_Al_longestWaiting 5 = .ok (.aload_n 1, 1) := by decide +kernel
theorem d_Al_longestWaiting_6 : decode b_Al_longestWaiting 6 = .ok (.invokevirtual 43, 3) := by decide +kernel
theorem d_Al_longestWaiting_9 : decode b_Al_longestWaiting 9 = .ok (.if_icmp .ge 59, 3) := by decide +kernel
theorem d_Al_longestWaiting_12 : decode b_Al_longestWaiting 12 = .ok (.aload_n 1, 1) := by decide +kernel
theorem d_Al_longestWaiting_13 : decode b_Al_longestWaiting 13 = .ok (.iload_n 3, 1) := by decide +kernel
theorem d_Al_longestWaiting_14 : decode b_Al_longestWaiting 14 = .ok (.invokevirtual 49, 3) := by decide +kernel
theorem d_Al_longestWaiting_17 : decode b_Al_longestWaiting 17 = .ok (.ifCond .eq 17, 3) := by decide +kernel
theorem d_Al_longestWaiting_20 : decode b_Al_longestWaiting 20 = .ok (.aload_n 0, 1) := by decide +kernel
theorem d_Al_longestWaiting_21 : decode b_Al_longestWaiting 21 = .ok (.getfield 9, 3) := by decide +kernel
theorem d_Al_longestWaiting_24 : decode b_Al_longestWaiting 24 = .ok (.iload_n 3, 1) := by decide +kernel
theorem d_Al_longestWaiting_25 : decode b_Al_longestWaiting 25 = .ok (.iaload, 1) := by decide +kernel
theorem d_Al_longestWaiting_26 : decode b_Al_longestWaiting 26 = .ok (.iconst (-1), 1) := by decide +kernel
theorem d_Al_longestWaiting_27 : decode b_Al_longestWaiting 27 = .ok (.if_icmp .ne 7, 3) := by decide +kernel
theorem d_Al_longestWaiting_30 : decode b_Al_longestWaiting 30 = .ok (.iconst 1, 1) := by decide +kernel
theorem d_Al_longestWaiting_31 : decode b_Al_longestWaiting 31 = .ok (.goto 4, 3) := by decide +kernel
theorem d_Al_longestWaiting_34 : decode b_Al_longestWaiting 34 = .ok (.iconst 0, 1) := by decide +kernel
theorem d_Al_longestWaiting_35 : decode b_Al_longestWaiting 35 = .ok (.istore 4, 2) := by decide +kernel
theorem d_Al_longestWaiting_37 : decode b_Al_longestWaiting 37 = .ok (.iload 4, 2) := by decide +kernel
theorem d_Al_longestWaiting_39 : decode b_Al_longestWaiting 39 = .ok (.ifCond .eq 23, 3) := by decide +kernel
theorem d_Al_longestWaiting_42 : decode b_Al_longestWaiting 42 = .ok (.iload_n 2, 1) := by decide +kernel
theorem d_Al_longestWaiting_43 : decode b_Al_longestWaiting 43 = .ok (.iconst (-1), 1) := by decide +kernel
theorem d_Al_longestWaiting_44 : decode b_Al_longestWaiting 44 = .ok (.if_icmp .eq 16, 3) := by decide +kernel
theorem d_Al_longestWaiting_47 : decode b_Al_longestWaiting 47 = .ok (.aload_n 1, 1) := by decide +kernel
theorem d_Al_longestWaiting_48 : decode b_Al_longestWaiting 48 = .ok (.iload_n 3, 1) := by decide +kernel
theorem d_Al_longestWaiting_49 : decode b_Al_longestWaiting 49 = .ok (.invokevirtual 53, 3) := by decide +kernel
theorem d_Al_longestWaiting_52 : decode b_Al_longestWaiting 52 = .ok (.aload_n 1, 1) := by decide +kernel
theorem d_Al_longestWaiting_53 : decode b_Al_longestWaiting 53 = .ok (.iload_n 2, 1) := by decide +kernel
theorem d_Al_longestWaiting_54 : decode b_Al_longestWaiting 54 = .ok (.invokevirtual 53, 3) := by decide +kernel
theorem d_Al_longestWaiting_57 : decode b_Al_longestWaiting 57 = .ok (.if_icmp .le 5, 3) := by decide +kernel
theorem d_Al_longestWaiting_60 : decode b_Al_longestWaiting 60 = .ok (.iload_n 3, 1) := by decide +kernel
theorem d_Al_longestWaiting_61 : decode b_Al_longestWaiting 61 = .ok (.istore_n 2, 1) := by decide +kernel
theorem d_Al_longestWaiting_62 : decode b_Al_longestWaiting 62 = .ok (.iinc 3 1, 3) := by decide +kernel
theorem d_Al_longestWaiting_65 : decode b_Al_longestWaiting 65 = .ok (.goto (-61), 3) := by decide +kernel
theorem d_Al_longestWaiting_68 : decode b_Al_longestWaiting 68 = .ok (.iload_n 2, 1) := by decide +kernel
theorem d_Al_longestWaiting_69 : decode b_Al_longestWaiting 69 = .ok (.ireturn, 1) := by decide +kernel
theorem d_Co_lengthOf_0 : decode b_Co_lengthOf 0 = .ok (.aload_n 0, 1) := by decide +kernel
theorem d_Co_lengthOf_1 : decode b_Co_lengthOf 1 = .ok (.getfield 21, 3) := by decide +kernel
theorem d_Co_lengthOf_4 : decode b_Co_lengthOf 4 = .ok (.iload_n 1, 1) := by decide +kernel
theorem d_Co_lengthOf_5 : decode b_Co_lengthOf 5 = .ok (.iaload, 1) := by decide +kernel
theorem d_Co_lengthOf_6 : decode b_Co_lengthOf 6 = .ok (.iload_n 1, 1) := by decide +kernel
theorem d_Co_lengthOf_7 : decode b_Co_lengthOf 7 = .ok (.isub, 1) := by decide +kernel
theorem d_Co_lengthOf_8 : decode b_Co_lengthOf 8 = .ok (.ireturn, 1) := by decide +kernel
theorem d_Al_takeRegister_0 : decode b_Al_takeRegister 0 = .ok (.aload_n 1, 1) := by decide +kernel
theorem d_Al_takeRegister_1 : decode b_Al_takeRegister 1 = .ok (.iload_n 2, 1) := by decide +kernel
theorem d_Al_takeRegister_2 : decode b_Al_takeRegister 2 = .ok (.invokevirtual 57, 3) := by decide +kernel
theorem d_Al_takeRegister_5 : decode b_Al_takeRegister 5 = .ok (.ifCond .eq 14, 3) := by decide +kernel
theorem d_Al_takeRegister_8 : decode b_Al_takeRegister 8 = .ok (.aload_n 0, 1) := by decide +kernel
theorem d_Al_takeRegister_9 : decode b_Al_takeRegister 9 = .ok (.getfield 21, 3) := by decide +kernel
theorem d_Al_takeRegister_12 : decode b_Al_takeRegister 12 = .ok (.iconst 2, 1) := by decide +kernel
theorem d_Al_takeRegister_13 : decode b_Al_takeRegister 13 = .ok (.invokestatic 60, 3) := by decide +kernel
theorem d_Al_takeRegister_16 : decode b_Al_takeRegister 16 = .ok (.goto 7, 3) := by decide +kernel
theorem d_Al_takeRegister_19 : decode b_Al_takeRegister 19 = .ok (.aload_n 0, 1) := by decide +kernel
theorem d_Al_takeRegister_20 : decode b_Al_takeRegister 20 = .ok (.getfield 21, 3) := by decide +kernel
theorem d_Al_takeRegister_23 : decode b_Al_takeRegister 23 = .ok (.istore_n 3, 1) := by decide +kernel
theorem d_Al_takeRegister_24 : decode b_Al_takeRegister 24 = .ok (.iconst (-1), 1) := by decide +kernel
theorem d_Al_takeRegister_25 : decode b_Al_takeRegister 25 = .ok (.istore 4, 2) := by decide +kernel
theorem d_Al_takeRegister_27 : decode b_Al_takeRegister 27 = .ok (.aload_n 1, 1) := by decide +kernel
theorem d_Al_takeRegister_28 : decode b_Al_takeRegister 28 = .ok (.iload_n 2, 1) := by decide +kernel
theorem d_Al_takeRegister_29 : decode b_Al_takeRegister 29 = .ok (.invokevirtual 66, 3) := by decide +kernel
theorem d_Al_takeRegister_32 : decode b_Al_takeRegister 32 = .ok (.dstore 5, 2) := by decide +kernel
theorem d_Al_takeRegister_34 : decode b_Al_takeRegister 34 = .ok (.iconst 0, 1) := by decide +kernel
theorem d_Al_takeRegister_35 : decode b_Al_takeRegister 35 = .ok (.istore 7, 2) := by decide +kernel
theorem d_Al_takeRegister_37 : decode b_Al_takeRegister 37 = .ok (.iload 7, 2) := by decide +kernel
theorem d_Al_takeRegister_39 : decode b_Al_takeRegister 39 = .ok (.iload_n 3, 1) := by decide +kernel
theorem d_Al_takeRegister_40 : decode b_Al_takeRegister 40 = .ok (.if_icmp .ge 35, 3) := by decide +kernel
theorem d_Al_takeRegister_43 : decode b_Al_takeRegister 43 = .ok (.aload_n 0, 1) := by decide +kernel
theorem d_Al_takeRegister_44 : decode b_Al_takeRegister 44 = .ok (.aload_n 1, 1) := by decide +kernel
theorem d_Al_takeRegister_45 : decode b_Al_takeRegister 45 = .ok (.iload_n 2, 1) := by decide +kernel
theorem d_Al_takeRegister_46 : decode b_Al_takeRegister 46 = .ok (.iload 7, 2) := by decide +kernel
theorem d_Al_takeRegister_48 : decode b_Al_takeRegister 48 = .ok (.invokevirtual 70, 3) := by decide +kernel
theorem d_Al_takeRegister_51 : decode b_Al_takeRegister 51 = .ok (.dstore 8, 2) := by decide +kernel
theorem d_Al_takeRegister_53 : decode b_Al_takeRegister 53 = .ok (.dload 8, 2) := by decide +kernel
theorem d_Al_takeRegister_55 : decode b_Al_takeRegister 55 = .ok (.dload 5, 2) := by decide +kernel
theorem d_Al_takeRegister_57 : decode b_Al_takeRegister 57 = .ok (.dcmp .g, 1) := by decide +kernel
theorem d_Al_takeRegister_58 : decode b_Al_takeRegister 58 = .ok (.ifCond .ge 11, 3) := by decide +kernel
theorem d_Al_takeRegister_61 : decode b_Al_takeRegister 61 = .ok (.iload 7, 2) := by decide +kernel
theorem d_Al_takeRegister_63 : decode b_Al_takeRegister 63 = .ok (.istore 4, 2) := by decide +kernel
theorem d_Al_takeRegister_65 : decode b_Al_takeRegister 65 = .ok (.dload 8, 2) := by decide +kernel
theorem d_Al_takeRegister_67 : decode b_Al_takeRegister 67 = .ok (.dstore 5, 2) := by decide +kernel
theorem d_Al_takeRegister_69 : decode b_Al_takeRegister 69 = .ok (.iinc 7 1, 3) := by decide +kernel
theorem d_Al_takeRegister_72 : decode b_Al_takeRegister 72 = .ok (.goto (-35), 3) := by decide +kernel
theorem d_Al_takeRegister_75 : decode b_Al_takeRegister 75 = .ok (.iload 4, 2) := by decide +kernel
theorem d_Al_takeRegister_77 : decode b_Al_takeRegister 77 = .ok (.iconst (-1), 1) := by decide +kernel
theorem d_Al_takeRegister_78 : decode b_Al_takeRegister 78 = .ok (.if_icmp .ne 5, 3) := by decide +kernel
theorem d_Al_takeRegister_81 : decode b_Al_takeRegister 81 = .ok (.iconst 0, 1) := by decide +kernel
theorem d_Al_takeRegister_82 : decode b_Al_takeRegister 82 = .ok (.ireturn, 1) := by decide +kernel
theorem d_Al_takeRegister_83 : decode b_Al_takeRegister 83 = .ok (.aload_n 0, 1) := by decide +kernel
theorem d_Al_takeRegister_84 : decode b_Al_takeRegister 84 = .ok (.aload_n 1, 1) := by decide +kernel
theorem d_Al_takeRegister_85 : decode b_Al_takeRegister 85 = .ok (.iload_n 2, 1) := by decide +kernel
theorem d_Al_takeRegister_86 : decode b_Al_takeRegister 86 = .ok (.iload 4, 2) := by decide +kernel
theorem d_Al_takeRegister_88 : decode b_Al_takeRegister 88 = .ok (.invokevirtual 74, 3) := by decide +kernel
theorem d_Al_takeRegister_91 : decode b_Al_takeRegister 91 = .ok (.aload_n 0, 1) := by decide +kernel
theorem d_Al_takeRegister_92 : decode b_Al_takeRegister 92 = .ok (.getfield 9, 3) := by decide +kernel
theorem d_Al_takeRegister_95 : decode b_Al_takeRegister 95 = .ok (.iload_n 2, 1) := by decide +kernel
theorem d_Al_takeRegister_96 : decode b_Al_takeRegister 96 = .ok (.iload 4, 2) := by decide +kernel
theorem d_Al_takeRegister_98 : decode b_Al_takeRegister 98 = .ok (.iastore, 1) := by decide +kernel
theorem d_Al_takeRegister_99 : decode b_Al_takeRegister 99 = .ok (.iconst 1, 1) := by decide +kernel
theorem d_Al_takeRegister_100 : decode b_Al_takeRegister 100 = .ok (.ireturn, 1) := by decide +kernel
theorem d_Co_isCrossed_0 : decode b_Co_isCrossed 0 = .ok (.iload_n 1, 1) := by decide +kernel
theorem d_Co_isCrossed_1 : decode b_Co_isCrossed 1 = .ok (.iconst 1, 1) := by decide +kernel
theorem d_Co_isCrossed_2 : decode b_Co_isCrossed 2 = .ok (.iadd, 1) := by decide +kernel
theorem d_Co_isCrossed_3 : decode b_Co_isCrossed 3 = .ok (.istore_n 2, 1) := by decide +kernel
theorem d_Co_isCrossed_4 : decode b_Co_isCrossed 4 = .ok (.iload_n 2, 1) := by decide +kernel
theorem d_Co_isCrossed_5 : decode b_Co_isCrossed 5 = .ok (.aload_n 0, 1) := by decide +kernel
theorem d_Co_isCrossed_6 : decode b_Co_isCrossed 6 = .ok (.getfield 21, 3) := by decide +kernel
theorem d_Co_isCrossed_9 : decode b_Co_isCrossed 9 = .ok (.iload_n 1, 1) := by decide +kernel
theorem d_Co_isCrossed_10 : decode b_Co_isCrossed 10 = .ok (.iaload, 1) := by decide +kernel
theorem d_Co_isCrossed_11 : decode b_Co_isCrossed 11 = .ok (.if_icmp .ge 30, 3) := by decide +kernel
theorem d_Co_isCrossed_14 : decode b_Co_isCrossed 14 = .ok (.iload_n 2, 1) := by decide +kernel
theorem d_Co_isCrossed_15 : decode b_Co_isCrossed 15 = .ok (.aload_n 0, 1) := by decide +kernel
theorem d_Co_isCrossed_16 : decode b_Co_isCrossed 16 = .ok (.getfield 43, 3) := by decide +kernel
theorem d_Co_isCrossed_19 : decode b_Co_isCrossed 19 = .ok (.if_icmp .ge 22, 3) := by decide +kernel
theorem d_Co_isCrossed_22 : decode b_Co_isCrossed 22 = .ok (.aload_n 0, 1) := by decide +kernel
theorem d_Co_isCrossed_23 : decode b_Co_isCrossed 23 = .ok (.getfield 9, 3) := by decide +kernel
theorem d_Co_isCrossed_26 : decode b_Co_isCrossed 26 = .ok (.iload_n 2, 1) := by decide +kernel
theorem d_Co_isCrossed_27 : decode b_Co_isCrossed 27 = .ok (.iaload, 1) := by decide +kernel
theorem d_Co_isCrossed_28 : decode b_Co_isCrossed 28 = .ok (.bipush 7, 2) := by decide +kernel
theorem d_Co_isCrossed_30 : decode b_Co_isCrossed 30 = .ok (.if_icmp .ne 5, 3) := by decide +kernel
theorem d_Co_isCrossed_33 : decode b_Co_isCrossed 33 = .ok (.iconst 1, 1) := by decide +kernel
theorem d_Co_isCrossed_34 : decode b_Co_isCrossed 34 = .ok (.ireturn, 1) := by decide +kernel
theorem d_Co_isCrossed_35 : decode b_Co_isCrossed 35 = .ok (.iinc 2 1, 3) := by decide +kernel
theorem d_Co_isCrossed_38 : decode b_Co_isCrossed 38 = .ok (.goto (-34), 3) := by decide +kernel
theorem d_Co_isCrossed_41 : decode b_Co_isCrossed 41 = .ok (.iconst 0, 1) := by decide +kernel
theorem d_Co_isCrossed_42 : decode b_Co_isCrossed 42 = .ok (.ireturn, 1) := by decide +kernel
theorem d_Co_weightOf_0 : decode b_Co_weightOf 0 = .ok (.aload_n 0, 1) := by decide +kernel
theorem d_Co_weightOf_1 : decode b_Co_weightOf 1 = .ok (.getfield 27, 3) := by decide +kernel
theorem d_Co_weightOf_4 : decode b_Co_weightOf 4 = .ok (.iload_n 1, 1) := by decide +kernel
theorem d_Co_weightOf_5 : decode b_Co_weightOf 5 = .ok (.iaload, 1) := by decide +kernel
theorem d_Co_weightOf_6 : decode b_Co_weightOf 6 = .ok (.i2d, 1) := by decide +kernel
theorem d_Co_weightOf_7 : decode b_Co_weightOf 7 = .ok (.aload_n 0, 1) := by decide +kernel
theorem d_Co_weightOf_8 : decode b_Co_weightOf 8 = .ok (.iload_n 1, 1) := by decide +kernel
theorem d_Co_weightOf_9 : decode b_Co_weightOf 9 = .ok (.invokevirtual 54, 3) := by decide +kernel
theorem d_Co_weightOf_12 : decode b_Co_weightOf 12 = .ok (.i2d, 1) := by decide +kernel
theorem d_Co_weightOf_13 : decode b_Co_weightOf 13 = .ok (.ddiv, 1) := by decide +kernel
theorem d_Co_weightOf_14 : decode b_Co_weightOf 14 = .ok (.dreturn, 1) := by decide +kernel
theorem d_Al_heaviestMeeting_0 : decode b_Al_heaviestMeeting 0 = .ok (.dconst 0, 1) := by decide +kernel
theorem d_Al_heaviestMeeting_1 : decode b_Al_heaviestMeeting 1 = .ok (.dstore 4, 2) := by decide +kernel
theorem d_Al_heaviestMeeting_3 : decode b_Al_heaviestMeeting 3 = .ok (.iconst 0, 1) := by decide +kernel
theorem d_Al_heaviestMeeting_4 : decode b_Al_heaviestMeeting 4 = .ok (.istore 6, 2) := by decide +kernel
theorem d_Al_heaviestMeeting_6 : decode b_Al_heaviestMeeting 6 = .ok (.iload 6, 2) := by decide +kernel
theorem d_Al_heaviestMeeting_8 : decode b_Al_heaviestMeeting 8 = .ok (.aload_n 1, 1) := by decide +kernel
theorem d_Al_heaviestMeeting_9 : decode b_Al_heaviestMeeting 9 = .ok (.invokevirtual 43, 3) := by decide +kernel
theorem d_Al_heaviestMeeting_12 : decode b_Al_heaviestMeeting 12 = .ok (.if_icmp .ge 50, 3) := by decide +kernel
theorem d_Al_heaviestMeeting_15 : decode b_Al_heaviestMeeting 15 = .ok (.aload_n 0, 1) := by decide +kernel
theorem d_Al_heaviestMeeting_16 : decode b_Al_heaviestMeeting 16 = .ok (.getfield 9, 3) := by decide +kernel
theorem d_Al_heaviestMeeting_19 : decode b_Al_heaviestMeeting 19 = .ok (.iload 6, 2) := by decide +kernel
theorem d_Al_heaviestMeeting_21 : decode b_Al_heaviestMeeting 21 = .ok (.iaload, 1) := by decide +kernel
theorem d_Al_heaviestMeeting_22 : decode b_Al_heaviestMeeting 22 = .ok (.iload_n 3, 1) := by decide +kernel
theorem d_Al_heaviestMeeting_23 : decode b_Al_heaviestMeeting 23 = .ok (.if_icmp .ne 33, 3) := by decide +kernel
theorem d_Al_heaviestMeeting_26 : decode b_Al_heaviestMeeting 26 = .ok (.aload_n 1, 1) := by decide +kernel
theorem d_Al_heaviestMeeting_27 : decode b_Al_heaviestMeeting 27 = .ok (.iload_n 2, 1) := by decide +kernel
theorem d_Al_heaviestMeeting_28 : decode b_Al_heaviestMeeting 28 = .ok (.iload 6, 2) := by decide +kernel
theorem d_Al_heaviestMeeting_30 : decode b_Al_heaviestMeeting 30 = .ok (.invokevirtual 78, 3) := by decide +kernel
theorem d_Al_heaviestMeeting_33 : decode b_Al_heaviestMeeting 33 = .ok (.ifCond .eq 23, 3) := by decide +kernel
theorem d_Al_heaviestMeeting_36 : decode b_Al_heaviestMeeting 36 = .ok (.aload_n 1, 1) := by decide +kernel
theorem d_Al_heaviestMeeting_37 : decode b_Al_heaviestMeeting 37 = .ok (.iload 6, 2) := by decide +kernel
theorem d_Al_heaviestMeeting_39 : decode b_Al_heaviestMeeting 39 = .ok (.invokevirtual 66, 3) := by decide +kernel
theorem d_Al_heaviestMeeting_42 : decode b_Al_heaviestMeeting 42 = .ok (.dload 4, 2) := by decide +kernel
theorem d_Al_heaviestMeeting_44 : decode b_Al_heaviestMeeting 44 = .ok (.dcmp .l, 1) := by decide +kernel
theorem d_Al_heaviestMeeting_45 : decode b_Al_heaviestMeeting 45 = .ok (.ifCond .le 11, 3) := by decide +kernel
theorem d_Al_heaviestMeeting_48 : decode b_Al_heaviestMeeting 48 = .ok (.aload_n 1, 1) := by decide +kernel
theorem d_Al_heaviestMeeting_49 : decode b_Al_heaviestMeeting 49 = .ok (.iload 6, 2) := by decide +kernel
theorem d_Al_heaviestMeeting_51 : decode b_Al_heaviestMeeting 51 = .ok (.invokevirtual 66, 3) := by decide +kernel
theorem d_Al_heaviestMeeting_54 : decode b_Al_heaviestMeeting 54 = .ok (.dstore 4, 2) := by decide +kernel
theorem d_Al_heaviestMeeting_56 : decode b_Al_heaviestMeeting 56 = .ok (.iinc 6 1, 3) := by decide +kernel
theorem d_Al_heaviestMeeting_59 : decode b_Al_heaviestMeeting 59 = .ok (.goto (-53), 3) := by decide +kernel
theorem d_Al_heaviestMeeting_62 : decode b_Al_heaviestMeeting 62 = .ok (.dload 4, 2) := by decide +kernel
theorem d_Al_heaviestMeeting_64 : decode b_Al_heaviestMeeting 64 = .ok (.dreturn, 1) := by decide +kernel
theorem d_Co_meet_0 : decode b_Co_meet 0 = .ok (.iload_n 1, 1) := by decide +kernel
theorem d_Co_meet_1 : decode b_Co_meet 1 = .ok (.aload_n 0, 1) := by decide +kernel
theorem d_Co_meet_2 : decode b_Co_meet 2 = .ok (.getfield 21, 3) := by decide +kernel
theorem d_Co_meet_5 : decode b_Co_meet 5 = .ok (.iload_n 2, 1) := by decide +kernel
theorem d_Co_meet_6 : decode b_Co_meet 6 = .ok (.iaload, 1) := by decide +kernel
theorem d_Co_meet_7 : decode b_Co_meet 7 = .ok (.if_icmp .ge 17, 3) := by decide +kernel
theorem d_Co_meet_10 : decode b_Co_meet 10 = .ok (.iload_n 2, 1) := by decide +kernel
theorem d_Co_meet_11 : decode b_Co_meet 11 = .ok (.aload_n 0, 1) := by decide +kernel
theorem d_Co_meet_12 : decode b_Co_meet 12 = .ok (.getfield 21, 3) := by decide +kernel
theorem d_Co_meet_15 : decode b_Co_meet 15 = .ok (.iload_n 1, 1) := by decide +kernel
theorem d_Co_meet_16 : decode b_Co_meet 16 = .ok (.iaload, 1) := by decide +kernel
theorem d_Co_meet_17 : decode b_Co_meet 17 = .ok (.if_icmp .ge 7, 3) := by decide +kernel
theorem d_Co_meet_20 : decode b_Co_meet 20 = .ok (.iconst 1, 1) := by decide +kernel
theorem d_Co_meet_21 : decode b_Co_meet 21 = .ok (.goto 4, 3) := by decide +kernel
theorem d_Co_meet_24 : decode b_Co_meet 24 = .ok (.iconst 0, 1) := by decide +kernel
theorem d_Co_meet_25 : decode b_Co_meet 25 = .ok (.ireturn, 1) := by decide +kernel
theorem d_Al_evictMeeting_0 : decode b_Al_evictMeeting 0 = .ok (.iconst 0, 1) := by decide +kernel
theorem d_Al_evictMeeting_1 : decode b_Al_evictMeeting 1 = .ok (.istore 4, 2) := by decide +kernel
theorem d_Al_evictMeeting_3 : decode b_Al_evictMeeting 3 = .ok (.iload 4, 2) := by decide +kernel
theorem d_Al_evictMeeting_5 : decode b_Al_evictMeeting 5 = .ok (.aload_n 1, 1) := by decide +kernel
theorem d_Al_evictMeeting_6 : decode b_Al_evictMeeting 6 = .ok (.invokevirtual 43, 3) := by decide +kernel
theorem d_Al_evictMeeting_9 : decode b_Al_evictMeeting 9 = .ok (.if_icmp .ge 48, 3) := by decide +kernel
theorem d_Al_evictMeeting_12 : decode b_Al_evictMeeting 12 = .ok (.aload_n 0, 1) := by decide +kernel
theorem d_Al_evictMeeting_13 : decode b_Al_evictMeeting 13 = .ok (.getfield 9, 3) := by decide +kernel
theorem d_Al_evictMeeting_16 : decode b_Al_evictMeeting 16 = .ok (.iload 4, 2) := by decide +kernel
theorem d_Al_evictMeeting_18 : decode b_Al_evictMeeting 18 = .ok (.iaload, 1) := by decide +kernel
theorem d_Al_evictMeeting_19 : decode b_Al_evictMeeting 19 = .ok (.iload_n 3, 1) := by decide +kernel
theorem d_Al_evictMeeting_20 : decode b_Al_evictMeeting 20 = .ok (.if_icmp .ne 31, 3) := by decide +kernel
theorem d_Al_evictMeeting_23 : decode b_Al_evictMeeting 23 = .ok (.aload_n 1, 1) := by decide +kernel
theorem d_Al_evictMeeting_24 : decode b_Al_evictMeeting 24 = .ok (.iload_n 2, 1) := by decide +kernel
theorem d_Al_evictMeeting_25 : decode b_Al_evictMeeting 25 = .ok (.iload 4, 2) := by decide +kernel
theorem d_Al_evictMeeting_27 : decode b_Al_evictMeeting 27 = .ok (.invokevirtual 78, 3) := by decide +kernel
theorem d_Al_evictMeeting_30 : decode b_Al_evictMeeting 30 = .ok (.ifCond .eq 21, 3) := by decide +kernel
theorem d_Al_evictMeeting_33 : decode b_Al_evictMeeting 33 = .ok (.aload_n 0, 1) := by decide +kernel
theorem d_Al_evictMeeting_34 : decode b_Al_evictMeeting 34 = .ok (.getfield 9, 3) := by decide +kernel
theorem d_Al_evictMeeting_37 : decode b_Al_evictMeeting 37 = .ok (.iload 4, 2) := by decide +kernel
theorem d_Al_evictMeeting_39 : decode b_Al_evictMeeting 39 = .ok (.iconst (-1), 1) := by decide +kernel
theorem d_Al_evictMeeting_40 : decode b_Al_evictMeeting 40 = .ok (.iastore, 1) := by decide +kernel
theorem d_Al_evictMeeting_41 : decode b_Al_evictMeeting 41 = .ok (.aload_n 0, 1) := by decide +kernel
theorem d_Al_evictMeeting_42 : decode b_Al_evictMeeting 42 = .ok (.dup, 1) := by decide +kernel
theorem d_Al_evictMeeting_43 : decode b_Al_evictMeeting 43 = .ok (.getfield 25, 3) := by decide +kernel
theorem d_Al_evictMeeting_46 : decode b_Al_evictMeeting 46 = .ok (.iconst 1, 1) := by decide +kernel
theorem d_Al_evictMeeting_47 : decode b_Al_evictMeeting 47 = .ok (.iadd, 1) := by decide +kernel
theorem d_Al_evictMeeting_48 : decode b_Al_evictMeeting 48 = .ok (.putfield 25, 3) := by decide +kernel
theorem d_Al_evictMeeting_51 : decode b_Al_evictMeeting 51 = .ok (.iinc 4 1, 3) := by decide +kernel
theorem d_Al_evictMeeting_54 : decode b_Al_evictMeeting 54 = .ok (.goto (-51), 3) := by decide +kernel
theorem d_Al_evictMeeting_57 : decode b_Al_evictMeeting 57 = .ok (.return_, 1) := by decide +kernel
theorem d_Al_takeSlot_0 : decode b_Al_takeSlot 0 = .ok (.bipush 10, 2) := by decide +kernel
theorem d_Al_takeSlot_2 : decode b_Al_takeSlot 2 = .ok (.istore_n 3, 1) := by decide +kernel
theorem d_Al_takeSlot_3 : decode b_Al_takeSlot 3 = .ok (.iload_n 3, 1) := by decide +kernel
theorem d_Al_takeSlot_4 : decode b_Al_takeSlot 4 = .ok (.bipush 16, 2) := by decide +kernel
theorem d_Al_takeSlot_6 : decode b_Al_takeSlot 6 = .ok (.if_icmp .ge 30, 3) := by decide +kernel
theorem d_Al_takeSlot_9 : decode b_Al_takeSlot 9 = .ok (.aload_n 0, 1) := by decide +kernel
theorem d_Al_takeSlot_10 : decode b_Al_takeSlot 10 = .ok (.aload_n 1, 1) := by decide +kernel
theorem d_Al_takeSlot_11 : decode b_Al_takeSlot 11 = .ok (.iload_n 2, 1) := by decide +kernel
theorem d_Al_takeSlot_12 : decode b_Al_takeSlot 12 = .ok (.iload_n 3, 1) := by decide +kernel
theorem d_Al_takeSlot_13 : decode b_Al_takeSlot 13 = .ok (.invokevirtual 70, 3) := by decide +kernel
theorem d_Al_takeSlot_16 : decode b_Al_takeSlot 16 = .ok (.dconst 0, 1) := by decide +kernel
theorem d_Al_takeSlot_17 : decode b_Al_takeSlot 17 = .ok (.dcmp .l, 1) := by decide +kernel
theorem d_Al_takeSlot_18 : decode b_Al_takeSlot 18 = .ok (.ifCond .ne 12, 3) := by decide +kernel
theorem d_Al_takeSlot_21 : decode b_Al_takeSlot 21 = .ok (.aload_n 0, 1) := by decide +kernel
theorem d_Al_takeSlot_22 : decode b_Al_takeSlot 22 = .ok (.getfield 9, 3) := by decide +kernel
theorem d_Al_takeSlot_25 : decode b_Al_takeSlot 25 = .ok (.iload_n 2, 1) := by decide +kernel
theorem d_Al_takeSlot_26 : decode b_Al_takeSlot 26 = .ok (.iload_n 3, 1) := by decide +kernel
theorem d_Al_takeSlot_27 : decode b_Al_takeSlot 27 = .ok (.iastore, 1) := by decide +kernel
theorem d_Al_takeSlot_28 : decode b_Al_takeSlot 28 = .ok (.iconst 1, 1) := by decide +kernel
theorem d_Al_takeSlot_29 : decode b_Al_takeSlot 29 = .ok (.ireturn, 1) := by decide +kernel
theorem d_Al_takeSlot_30 : decode b_Al_takeSlot 30 = .ok (.iinc 3 1, 3) := by decide +kernel
theorem d_Al_takeSlot_33 : decode b_Al_takeSlot 33 = .ok (.goto (-30), 3) := by decide +kernel
theorem d_Al_takeSlot_36 : decode b_Al_takeSlot 36 = .ok (.iconst 0, 1) := by decide +kernel
theorem d_Al_takeSlot_37 : decode b_Al_takeSlot 37 = .ok (.ireturn, 1) := by decide +kernel
theorem d_Al_valuesInRegisters_0 : decode b_Al_valuesInRegisters 0 = .ok (.aload_n 0, 1) := by decide +kernel
theorem d_Al_valuesInRegisters_1 : decode b_Al_valuesInRegisters 1 = .ok (.iconst 0, 1) := by decide +kernel
theorem d_Al_valuesInRegisters_2 : decode b_Al_valuesInRegisters 2 = .ok (.iconst 5, 1) := by decide +kernel
theorem d_Al_valuesInRegisters_3 : decode b_Al_valuesInRegisters 3 = .ok (.invokevirtual 82, 3) := by decide +kernel
theorem d_Al_valuesInRegisters_6 : decode b_Al_valuesInRegisters 6 = .ok (.ireturn, 1) := by decide +kernel
theorem d_Al_valuesFrom_0 : decode b_Al_valuesFrom 0 = .ok (.iconst 0, 1) := by decide +kernel
theorem d_Al_valuesFrom_1 : decode b_Al_valuesFrom 1 = .ok (.istore_n 3, 1) := by decide +kernel
theorem d_Al_valuesFrom_2 : decode b_Al_valuesFrom 2 = .ok (.iload_n 1, 1) := by decide +kernel
theorem d_Al_valuesFrom_3 : decode b_Al_valuesFrom 3 = .ok (.istore 4, 2) := by decide +kernel
theorem d_Al_valuesFrom_5 : decode b_Al_valuesFrom 5 = .ok (.iload 4, 2) := by decide +kernel
theorem d_Al_valuesFrom_7 : decode b_Al_valuesFrom 7 = .ok (.iload_n 1, 1) := by decide +kernel
theorem d_Al_valuesFrom_8 : decode b_Al_valuesFrom 8 = .ok (.iload_n 2, 1) := by decide +kernel
theorem d_Al_valuesFrom_9 : decode b_Al_valuesFrom 9 = .ok (.iadd, 1) := by decide +kernel
theorem d_Al_valuesFrom_10 : decode b_Al_valuesFrom 10 = .ok (.if_icmp .ge 18, 3) := by decide +kernel
theorem d_Al_valuesFrom_13 : decode b_Al_valuesFrom 13 = .ok (.iload_n 3, 1) := by decide +kernel
theorem d_Al_valuesFrom_14 : decode b_Al_valuesFrom 14 = .ok (.aload_n 0, 1) := by decide +kernel
theorem d_Al_valuesFrom_15 : decode b_Al_valuesFrom 15 = .ok (.iload 4, 2) := by decide +kernel
theorem d_Al_valuesFrom_17 : decode b_Al_valuesFrom 17 = .ok (.invokevirtual 88, 3) := by decide +kernel
theorem d_Al_valuesFrom_20 : decode b_Al_valuesFrom 20 = .ok (.iadd, 1) := by decide +kernel
theorem d_Al_valuesFrom_21 : decode b_Al_valuesFrom 21 = .ok (.istore_n 3, 1) := by decide +kernel
theorem d_Al_valuesFrom_22 : decode b_Al_valuesFrom 22 = .ok (.iinc 4 1, 3) := by decide +kernel
theorem d_Al_valuesFrom_25 : decode b_Al_valuesFrom 25 = .ok (.goto (-20), 3) := by decide +kernel
theorem d_Al_valuesFrom_28 : decode b_Al_valuesFrom 28 = .ok (.iload_n 3, 1) := by decide +kernel
theorem d_Al_valuesFrom_29 : decode b_Al_valuesFrom 29 = .ok (.ireturn, 1) := by decide +kernel
theorem d_Al_valuesAt_0 : decode b_Al_valuesAt 0 = .ok (.iconst 0, 1) := by decide +kernel
theorem d_Al_valuesAt_1 : decode b_Al_valuesAt 1 = .ok (.istore_n 2, 1) := by decide +kernel
theorem d_Al_valuesAt_2 : decode b_Al_valuesAt 2 = .ok (.iconst 0, 1) := by decide +kernel
theorem d_Al_valuesAt_3 : decode b_Al_valuesAt 3 = .ok (.istore_n 3, 1) := by decide +kernel
theorem d_Al_valuesAt_4 : decode b_Al_valuesAt 4 = .ok (.iload_n 3, 1) := by decide +kernel
theorem d_Al_valuesAt_5 : decode b_Al_valuesAt 5 = .ok (.aload_n 0, 1) := by decide +kernel
theorem d_Al_valuesAt_6 : decode b_Al_valuesAt 6 = .ok (.getfield 9, 3) := by decide +kernel
theorem d_Al_valuesAt_9 : decode b_Al_valuesAt 9 = .ok (.arraylength, 1) := by decide +kernel
theorem d_Al_valuesAt_10 : decode b_Al_valuesAt 10 = .ok (.if_icmp .ge 22, 3) := by decide +kernel
theorem d_Al_valuesAt_13 : decode b_Al_valuesAt 13 = .ok (.aload_n 0, 1) := by decide +kernel
theorem d_Al_valuesAt_14 : decode b_Al_valuesAt 14 = .ok (.getfield 9, 3) := by decide +kernel
theorem d_Al_valuesAt_17 : decode b_Al_valuesAt 17 = .ok (.iload_n 3, 1) := by decide +kernel
theorem d_Al_valuesAt_18 : decode b_Al_valuesAt 18 = .ok (.iaload, 1) := by decide +kernel
theorem d_Al_valuesAt_19 : decode b_Al_valuesAt 19 = .ok (.iload_n 1, 1) := by decide +kernel
theorem d_Al_valuesAt_20 : decode b_Al_valuesAt 20 = .ok (.if_icmp .ne 6, 3) := by decide +kernel
theorem d_Al_valuesAt_23 : decode b_Al_valuesAt 23 = .ok (.iinc 2 1, 3) := by decide +kernel
theorem d_Al_valuesAt_26 : decode b_Al_valuesAt 26 = .ok (.iinc 3 1, 3) := by decide +kernel
theorem d_Al_valuesAt_29 : decode b_Al_valuesAt 29 = .ok (.goto (-25), 3) := by decide +kernel
theorem d_Al_valuesAt_32 : decode b_Al_valuesAt 32 = .ok (.iload_n 2, 1) := by decide +kernel
theorem d_Al_valuesAt_33 : decode b_Al_valuesAt 33 = .ok (.ireturn, 1) := by decide +kernel
theorem d_Al_registers_0 : decode b_Al_registers 0 = .ok (.aload_n 0, 1) := by decide +kernel
theorem d_Al_registers_1 : decode b_Al_registers 1 = .ok (.getfield 21, 3) := by decide +kernel
theorem d_Al_registers_4 : decode b_Al_registers 4 = .ok (.ireturn, 1) := by decide +kernel
theorem d_Al_homeOf_0 : decode b_Al_homeOf 0 = .ok (.aload_n 0, 1) := by decide +kernel
theorem d_Al_homeOf_1 : decode b_Al_homeOf 1 = .ok (.getfield 9, 3) := by decide +kernel
theorem d_Al_homeOf_4 : decode b_Al_homeOf 4 = .ok (.iload_n 1, 1) := by decide +kernel
theorem d_Al_homeOf_5 : decode b_Al_homeOf 5 = .ok (.iaload, 1) := by decide +kernel
theorem d_Al_homeOf_6 : decode b_Al_homeOf 6 = .ok (.ireturn, 1) := by decide +kernel
theorem d_Co_endOf_0 : decode b_Co_endOf 0 = .ok (.aload_n 0, 1) := by decide +kernel
theorem d_Co_endOf_1 : decode b_Co_endOf 1 = .ok (.getfield 21, 3) := by decide +kernel
theorem d_Co_endOf_4 : decode b_Co_endOf 4 = .ok (.iload_n 1, 1) := by decide +kernel
theorem d_Co_endOf_5 : decode b_Co_endOf 5 = .ok (.iaload, 1) := by decide +kernel
theorem d_Co_endOf_6 : decode b_Co_endOf 6 = .ok (.ireturn, 1) := by decide +kernel
theorem d_Co_usesOf_0 : decode b_Co_usesOf 0 = .ok (.aload_n 0, 1) := by decide +kernel
theorem d_Co_usesOf_1 : decode b_Co_usesOf 1 = .ok (.getfield 24, 3) := by decide +kernel
theorem d_Co_usesOf_4 : decode b_Co_usesOf 4 = .ok (.iload_n 1, 1) := by decide +kernel
theorem d_Co_usesOf_5 : decode b_Co_usesOf 5 = .ok (.iaload, 1) := by decide +kernel
theorem d_Co_usesOf_6 : decode b_Co_usesOf 6 = .ok (.ireturn, 1) := by decide +kernel
theorem d_Co_othersMeeting_0 : decode b_Co_othersMeeting 0 = .ok (.iconst 0, 1) := by decide +kernel
theorem d_Co_othersMeeting_1 : decode b_Co_othersMeeting 1 = .ok (.istore_n 2, 1) := by decide +kernel
theorem d_Co_othersMeeting_2 : decode b_Co_othersMeeting 2 = .ok (.iconst 0, 1) := by decide +kernel
theorem d_Co_othersMeeting_3 : decode b_Co_othersMeeting 3 = .ok (.istore_n 3, 1) := by decide +kernel
theorem d_Co_othersMeeting_4 : decode b_Co_othersMeeting 4 = .ok (.iload_n 3, 1) := by decide +kernel
theorem d_Co_othersMeeting_5 : decode b_Co_othersMeeting 5 = .ok (.aload_n 0, 1) := by decide +kernel
theorem d_Co_othersMeeting_6 : decode b_Co_othersMeeting 6 = .ok (.getfield 43, 3) := by decide +kernel
theorem d_Co_othersMeeting_9 : decode b_Co_othersMeeting 9 = .ok (.if_icmp .ge 34, 3) := by decide +kernel
theorem d_Co_othersMeeting_12 : decode b_Co_othersMeeting 12 = .ok (.iload_n 3, 1) := by decide +kernel
theorem d_Co_othersMeeting_13 : decode b_Co_othersMeeting 13 = .ok (.iload_n 1, 1) := by decide +kernel
theorem d_Co_othersMeeting_14 : decode b_Co_othersMeeting 14 = .ok (.if_icmp .eq 23, 3) := by decide +kernel
theorem d_Co_othersMeeting_17 : decode b_Co_othersMeeting 17 = .ok (.aload_n 0, 1) := by decide +kernel
theorem d_Co_othersMeeting_18 : decode b_Co_othersMeeting 18 = .ok (.iload_n 3, 1) := by decide +kernel
theorem d_Co_othersMeeting_19 : decode b_Co_othersMeeting 19 = .ok (.invokevirtual 37, 3) := by decide +kernel
theorem d_Co_othersMeeting_22 : decode b_Co_othersMeeting 22 = .ok (.ifCond .eq 15, 3) := by decide +kernel
theorem d_Co_othersMeeting_25 : decode b_Co_othersMeeting 25 = .ok (.aload_n 0, 1) := by decide +kernel
theorem d_Co_othersMeeting_26 : decode b_Co_othersMeeting 26 = .ok (.iload_n 1, 1) := by decide +kernel
theorem d_Co_othersMeeting_27 : decode b_Co_othersMeeting 27 = .ok (.iload_n 3, 1) := by decide +kernel
theorem d_Co_othersMeeting_28 : decode b_Co_othersMeeting 28 = .ok (.invokevirtual 58, 3) := by decide +kernel
theorem d_Co_othersMeeting_31 : decode b_Co_othersMeeting 31 = .ok (.ifCond .eq 6, 3) := by decide +kernel
theorem d_Co_othersMeeting_34 : decode b_Co_othersMeeting 34 = .ok (.iinc 2 1, 3) := by decide +kernel
theorem d_Co_othersMeeting_37 : decode b_Co_othersMeeting 37 = .ok (.iinc 3 1, 3) := by decide +kernel
theorem d_Co_othersMeeting_40 : decode b_Co_othersMeeting 40 = .ok (.goto (-36), 3) := by decide +kernel
theorem d_Co_othersMeeting_43 : decode b_Co_othersMeeting 43 = .ok (.iload_n 2, 1) := by decide +kernel
theorem d_Co_othersMeeting_44 : decode b_Co_othersMeeting 44 = .ok (.ireturn, 1) := by decide +kernel
theorem d_Al_priceOfSlots_0 : decode b_Al_priceOfSlots 0 = .ok (.dconst 0, 1) := by decide +kernel
theorem d_Al_priceOfSlots_1 : decode b_Al_priceOfSlots 1 = .ok (.dstore_n 2, 1) := by decide +kernel
theorem d_Al_priceOfSlots_2 : decode b_Al_priceOfSlots 2 = .ok (.iconst 0, 1) := by decide +kernel
theorem d_Al_priceOfSlots_3 : decode b_Al_priceOfSlots 3 = .ok (.istore 4, 2) := by decide +kernel
theorem d_Al_priceOfSlots_5 : decode b_Al_priceOfSlots 5 = .ok (.iload 4, 2) := by decide +kernel
theorem d_Al_priceOfSlots_7 : decode b_Al_priceOfSlots 7 = .ok (.aload_n 1, 1) := by decide +kernel
theorem d_Al_priceOfSlots_8 : decode b_Al_priceOfSlots 8 = .ok (.invokevirtual 43, 3) := by decide +kernel
theorem d_Al_priceOfSlots_11 : decode b_Al_priceOfSlots 11 = .ok (.if_icmp .ge 31, 3) := by decide +kernel
theorem d_Al_priceOfSlots_14 : decode b_Al_priceOfSlots 14 = .ok (.aload_n 0, 1) := by decide +kernel
theorem d_Al_priceOfSlots_15 : decode b_Al_priceOfSlots 15 = .ok (.getfield 9, 3) := by decide +kernel
theorem d_Al_priceOfSlots_18 : decode b_Al_priceOfSlots 18 = .ok (.iload 4, 2) := by decide +kernel
theorem d_Al_priceOfSlots_20 : decode b_Al_priceOfSlots 20 = .ok (.iaload, 1) := by decide +kernel
theorem d_Al_priceOfSlots_21 : decode b_Al_priceOfSlots 21 = .ok (.bipush 10, 2) := by decide +kernel
theorem d_Al_priceOfSlots_23 : decode b_Al_priceOfSlots 23 = .ok (.if_icmp .lt 13, 3) := by decide +kernel
theorem d_Al_priceOfSlots_26 : decode b_Al_priceOfSlots 26 = .ok (.dload_n 2, 1) := by decide +kernel
theorem d_Al_priceOfSlots_27 : decode b_Al_priceOfSlots 27 = .ok (.aload_n 1, 1) := by decide +kernel
theorem d_Al_priceOfSlots_28 : decode b_Al_priceOfSlots 28 = .ok (.iload 4, 2) := by decide +kernel
theorem d_Al_priceOfSlots_30 : decode b_Al_priceOfSlots 30 = .ok (.invokevirtual 91, 3) := by decide +kernel
theorem d_Al_priceOfSlots_33 : decode b_Al_priceOfSlots 33 = .ok (.i2d, 1) := by decide +kernel
theorem d_Al_priceOfSlots_34 : decode b_Al_priceOfSlots 34 = .ok (.dadd, 1) := by decide +kernel
theorem d_Al_priceOfSlots_35 : decode b_Al_priceOfSlots 35 = .ok (.dstore_n 2, 1) := by decide +kernel
theorem d_Al_priceOfSlots_36 : decode b_Al_priceOfSlots 36 = .ok (.iinc 4 1, 3) := by decide +kernel
theorem d_Al_priceOfSlots_39 : decode b_Al_priceOfSlots 39 = .ok (.goto (-34), 3) := by decide +kernel
theorem d_Al_priceOfSlots_42 : decode b_Al_priceOfSlots 42 = .ok (.dload_n 2, 1) := by decide +kernel
theorem d_Al_priceOfSlots_43 : decode b_Al_priceOfSlots 43 = .ok (.dreturn, 1) := by decide +kernel
theorem d_Co_priceOf_0 : decode b_Co_priceOf 0 = .ok (.aload_n 0, 1) := by decide +kernel
theorem d_Co_priceOf_1 : decode b_Co_priceOf 1 = .ok (.getfield 27, 3) := by decide +kernel
theorem d_Co_priceOf_4 : decode b_Co_priceOf 4 = .ok (.iload_n 1, 1) := by decide +kernel
theorem d_Co_priceOf_5 : decode b_Co_priceOf 5 = .ok (.iaload, 1) := by decide +kernel
theorem d_Co_priceOf_6 : decode b_Co_priceOf 6 = .ok (.ireturn, 1) := by decide +kernel
theorem d_Ma_takeNumbers_0 : decode b_Ma_takeNumbers 0 = .ok (.aload_n 0, 1) := by decide +kernel
theorem d_Ma_takeNumbers_1 : decode b_Ma_takeNumbers 1 = .ok (.getfield 15, 3) := by decide +kernel
theorem d_Ma_takeNumbers_4 : decode b_Ma_takeNumbers 4 = .ok (.iconst 0, 1) := by decide +kernel
theorem d_Ma_takeNumbers_5 : decode b_Ma_takeNumbers 5 = .ok (.iload_n 1, 1) := by decide +kernel
theorem d_Ma_takeNumbers_6 : decode b_Ma_takeNumbers 6 = .ok (.iastore, 1) := by decide +kernel
theorem d_Ma_takeNumbers_7 : decode b_Ma_takeNumbers 7 = .ok (.aload_n 0, 1) := by decide +kernel
theorem d_Ma_takeNumbers_8 : decode b_Ma_takeNumbers 8 = .ok (.getfield 15, 3) := by decide +kernel
theorem d_Ma_takeNumbers_11 : decode b_Ma_takeNumbers 11 = .ok (.iconst 1, 1) := by decide +kernel
theorem d_Ma_takeNumbers_12 : decode b_Ma_takeNumbers 12 = .ok (.iload_n 2, 1) := by decide +kernel
theorem d_Ma_takeNumbers_13 : decode b_Ma_takeNumbers 13 = .ok (.iastore, 1) := by decide +kernel
theorem d_Ma_takeNumbers_14 : decode b_Ma_takeNumbers 14 = .ok (.aload_n 0, 1) := by decide +kernel
theorem d_Ma_takeNumbers_15 : decode b_Ma_takeNumbers 15 = .ok (.getfield 15, 3) := by decide +kernel
theorem d_Ma_takeNumbers_18 : decode b_Ma_takeNumbers 18 = .ok (.iconst 2, 1) := by decide +kernel
theorem d_Ma_takeNumbers_19 : decode b_Ma_takeNumbers 19 = .ok (.iload_n 3, 1) := by decide +kernel
theorem d_Ma_takeNumbers_20 : decode b_Ma_takeNumbers 20 = .ok (.iastore, 1) := by decide +kernel
theorem d_Ma_takeNumbers_21 : decode b_Ma_takeNumbers 21 = .ok (.aload_n 0, 1) := by decide +kernel
theorem d_Ma_takeNumbers_22 : decode b_Ma_takeNumbers 22 = .ok (.getfield 15, 3) := by decide +kernel
theorem d_Ma_takeNumbers_25 : decode b_Ma_takeNumbers 25 = .ok (.iconst 3, 1) := by decide +kernel
theorem d_Ma_takeNumbers_26 : decode b_Ma_takeNumbers 26 = .ok (.iload 4, 2) := by decide +kernel
theorem d_Ma_takeNumbers_28 : decode b_Ma_takeNumbers 28 = .ok (.iastore, 1) := by decide +kernel
theorem d_Ma_takeNumbers_29 : decode b_Ma_takeNumbers 29 = .ok (.return_, 1) := by decide +kernel
theorem d_Ma_perform_0 : decode b_Ma_perform 0 = .ok (.aload_n 0, 1) := by decide +kernel
theorem d_Ma_perform_1 : decode b_Ma_perform 1 = .ok (.getfield 9, 3) := by decide +kernel
theorem d_Ma_perform_4 : decode b_Ma_perform 4 = .ok (.iconst 0, 1) := by decide +kernel
theorem d_Ma_perform_5 : decode b_Ma_perform 5 = .ok (.invokestatic 21, 3) := by decide +kernel
theorem d_Ma_perform_8 : decode b_Ma_perform 8 = .ok (.aload_n 0, 1) := by decide +kernel
theorem d_Ma_perform_9 : decode b_Ma_perform 9 = .ok (.iconst 0, 1) := by decide +kernel
theorem d_Ma_perform_10 : decode b_Ma_perform 10 = .ok (.putfield 27, 3) := by decide +kernel
theorem d_Ma_perform_13 : decode b_Ma_perform 13 = .ok (.aload_n 0, 1) := by decide +kernel
theorem d_Ma_perform_14 : decode b_Ma_perform 14 = .ok (.iconst 0, 1) := by decide +kernel
theorem d_Ma_perform_15 : decode b_Ma_perform 15 = .ok (.putfield 31, 3) := by decide +kernel
theorem d_Ma_perform_18 : decode b_Ma_perform 18 = .ok (.aload_n 0, 1) := by decide +kernel
theorem d_Ma_perform_19 : decode b_Ma_perform 19 = .ok (.iconst 0, 1) := by decide +kernel
theorem d_Ma_perform_20 : decode b_Ma_perform 20 = .ok (.putfield 34, 3) := by decide +kernel
theorem d_Ma_perform_23 : decode b_Ma_perform 23 = .ok (.iconst 0, 1) := by decide +kernel
theorem d_Ma_perform_24 : decode b_Ma_perform 24 = .ok (.istore 4, 2) := by decide +kernel
theorem d_Ma_perform_26 : decode b_Ma_perform 26 = .ok (.iload 4, 2) := by decide +kernel
theorem d_Ma_perform_28 : decode b_Ma_perform 28 = .ok (.aload_n 1, 1) := by decide +kernel
theorem d_Ma_perform_29 : decode b_Ma_perform 29 = .ok (.invokevirtual 38, 3) := by decide +kernel
theorem d_Ma_perform_32 : decode b_Ma_perform 32 = .ok (.if_icmp .ge 25, 3) := by decide +kernel
theorem d_Ma_perform_35 : decode b_Ma_perform 35 = .ok (.aload_n 0, 1) := by decide +kernel
theorem d_Ma_perform_36 : decode b_Ma_perform 36 = .ok (.getfield 34, 3) := by decide +kernel
theorem d_Ma_perform_39 : decode b_Ma_perform 39 = .ok (.ifCond .ne 18, 3) := by decide +kernel
theorem d_Ma_perform_42 : decode b_Ma_perform 42 = .ok (.aload_n 0, 1) := by decide +kernel
theorem d_Ma_perform_43 : decode b_Ma_perform 43 = .ok (.aload_n 1, 1) := by decide +kernel
theorem d_Ma_perform_44 : decode b_Ma_perform 44 = .ok (.iload 4, 2) := by decide +kernel
theorem d_Ma_perform_46 : decode b_Ma_perform 46 = .ok (.aload_n 2, 1) := by decide +kernel
theorem d_Ma_perform_47 : decode b_Ma_perform 47 = .ok (.iload_n 3, 1) := by decide +kernel
theorem d_Ma_perform_48 : decode b_Ma_perform 48 = .ok (.invokevirtual 44, 3) := by decide +kernel
theorem d_Ma_perform_51 : decode b_Ma_perform 51 = .ok (.iinc 4 1, 3) := by decide +kernel
theorem d_Ma_perform_54 : decode b_Ma_perform 54 = .ok (.goto (-28), 3) := by decide +kernel
theorem d_Ma_perform_57 : decode b_Ma_perform 57 = .ok (.return_, 1) := by decide +kernel
theorem d_Ma_step_0 : decode b_Ma_step 0 = .ok (.aload_n 1, 1) := by decide +kernel
theorem d_Ma_step_1 : decode b_Ma_step 1 = .ok (.iload_n 2, 1) := by decide +kernel
theorem d_Ma_step_2 : decode b_Ma_step 2 = .ok (.invokevirtual 48, 3) := by decide +kernel
theorem d_Ma_step_5 : decode b_Ma_step 5 = .ok (.istore 5, 2) := by decide +kernel
theorem d_Ma_step_7 : decode b_Ma_step 7 = .ok (.iload 5, 2) := by decide +kernel
theorem d_Ma_step_9 : decode b_Ma_step 9 = .ok (.invokestatic 52, 3) := by decide +kernel
theorem d_Ma_step_12 : decode b_Ma_step 12 = .ok (.ifCond .eq 18, 3) := by decide +kernel
theorem d_Ma_step_15 : decode b_Ma_step 15 = .ok (.aload_n 0, 1) := by decide +kernel
theorem d_Ma_step_16 : decode b_Ma_step 16 = .ok (.getfield 9, 3) := by decide +kernel
theorem d_Ma_step_19 : decode b_Ma_step 19 = .ok (.aload_n 3, 1) := by decide +kernel
theorem d_Ma_step_20 : decode b_Ma_step 20 = .ok (.aload_n 1, 1) := by decide +kernel
theorem d_Ma_step_21 : decode b_Ma_step 21 = .ok (.iload_n 2, 1) := by decide +kernel
theorem d_Ma_step_22 : decode b_Ma_step 22 = .ok (.invokevirtual 56, 3) := by decide +kernel
theorem d_Ma_step_25 : decode b_Ma_step 25 = .ok (.iaload, 1) := by decide +kernel
theorem d_Ma_step_26 : decode b_Ma_step 26 = .ok (.iaload, 1) := by decide +kernel
theorem d_Ma_step_27 : decode b_Ma_step 27 = .ok (.goto 8, 3) := by decide +kernel
theorem d_Ma_step_30 : decode b_Ma_step 30 = .ok (.aload_n 1, 1) := by decide +kernel
theorem d_Ma_step_31 : decode b_Ma_step 31 = .ok (.iload_n 2, 1) := by decide +kernel
theorem d_Ma_step_32 : decode b_Ma_step 32 = .ok (.invokevirtual 56, 3) := by decide +kernel
theorem d_Ma_step_35 : decode b_Ma_step 35 = .ok (.istore 6, 2) := by decide +kernel
theorem d_Ma_step_37 : decode b_Ma_step 37 = .ok (.iload 5, 2) := by decide +kernel
theorem d_Ma_step_39 : decode b_Ma_step 39 = .ok (.invokestatic 59, 3) := by decide +kernel
theorem d_Ma_step_42 : decode b_Ma_step 42 = .ok (.ifCond .eq 18, 3) := by decide +kernel
theorem d_Ma_step_45 : decode b_Ma_step 45 = .ok (.aload_n 0, 1) := by decide +kernel
theorem d_Ma_step_46 : decode b_Ma_step 46 = .ok (.getfield 9, 3) := by decide +kernel
theorem d_Ma_step_49 : decode b_Ma_step 49 = .ok (.aload_n 3, 1) := by decide +kernel
theorem d_Ma_step_50 : decode b_Ma_step 50 = .ok (.aload_n 1, 1) := by decide +kernel
theorem d_Ma_step_51 : decode b_Ma_step 51 = .ok (.iload_n 2, 1) := by decide +kernel
theorem d_Ma_step_52 : decode b_Ma_step 52 = .ok (.invokevirtual 62, 3) := by decide +kernel
theorem d_Ma_step_55 : decode b_Ma_step 55 = .ok (.iaload, 1) := by decide +kernel
theorem d_Ma_step_56 : decode b_Ma_step 56 = .ok (.iaload, 1) := by decide +kernel
theorem d_Ma_step_57 : decode b_Ma_step 57 = .ok (.goto 4, 3) := by decide +kernel
theorem d_Ma_step_60 : decode b_Ma_step 60 = .ok (.iconst 0, 1) := by decide +kernel
theorem d_Ma_step_61 : decode b_Ma_step 61 = .ok (.istore 7, 2) := by decide +kernel
theorem d_Ma_step_63 : decode b_Ma_step 63 = .ok (.aload_n 0, 1) := by decide +kernel
theorem d_Ma_step_64 : decode b_Ma_step 64 = .ok (.aload_n 0, 1) := by decide +kernel
theorem d_Ma_step_65 : decode b_Ma_step 65 = .ok (.iload 5, 2) := by decide +kernel
theorem d_Ma_step_67 : decode b_Ma_step 67 = .ok (.iload 6, 2) := by decide +kernel
theorem d_Ma_step_69 : decode b_Ma_step 69 = .ok (.iload 7, 2) := by decide +kernel
theorem d_Ma_step_71 : decode b_Ma_step 71 = .ok (.invokevirtual 65, 3) := by decide +kernel
theorem d_Ma_step_74 : decode b_Ma_step 74 = .ok (.putfield 31, 3) := by decide +kernel
theorem d_Ma_step_77 : decode b_Ma_step 77 = .ok (.iload 5, 2) := by decide +kernel
theorem d_Ma_step_79 : decode b_Ma_step 79 = .ok (.bipush 7, 2) := by decide +kernel
theorem d_Ma_step_81 : decode b_Ma_step 81 = .ok (.if_icmp .ne 9, 3) := by decide +kernel
theorem d_Ma_step_84 : decode b_Ma_step 84 = .ok (.aload_n 0, 1) := by decide +kernel
theorem d_Ma_step_85 : decode b_Ma_step 85 = .ok (.iload 4, 2) := by decide +kernel
theorem d_Ma_step_87 : decode b_Ma_step 87 = .ok (.invokevirtual 69, 3) := by decide +kernel
theorem d_Ma_step_90 : decode b_Ma_step 90 = .ok (.iload 5, 2) := by decide +kernel
theorem d_Ma_step_92 : decode b_Ma_step 92 = .ok (.bipush 6, 2) := by decide +kernel
theorem d_Ma_step_94 : decode b_Ma_step 94 = .ok (.if_icmp .eq 22, 3) := by decide +kernel
theorem d_Ma_step_97 : decode b_Ma_step 97 = .ok (.aload_n 0, 1) := by decide +kernel
theorem d_Ma_step_98 : decode b_Ma_step 98 = .ok (.getfield 34, 3) := by decide +kernel
theorem d_Ma_step_101 : decode b_Ma_step 101 = .ok (.ifCond .ne 15, 3) := by decide +kernel
theorem d_Ma_step_104 : decode b_Ma_step 104 = .ok (.aload_n 0, 1) := by decide +kernel
theorem d_Ma_step_105 : decode b_Ma_step 105 = .ok (.getfield 9, 3) := by decide +kernel
theorem d_Ma_step_108 : decode b_Ma_step 108 = .ok (.aload_n 3, 1) := by decide +kernel
theorem d_Ma_step_109 : decode b_Ma_step 109 = .ok (.iload_n 2, 1) := by decide +kernel
theorem d_Ma_step_110 : decode b_Ma_step 110 = .ok (.iaload, 1) := by decide +kernel
theorem d_Ma_step_111 : decode b_Ma_step 111 = .ok (.aload_n 0, 1) := by decide +kernel
theorem d_Ma_step_112 : decode b_Ma_step 112 = .ok (.getfield 31, 3) := by decide +kernel
theorem d_Ma_step_115 : decode b_Ma_step 115 = .ok (.iastore, 1) := by decide +kernel
theorem d_Ma_step_116 : decode b_Ma_step 116 = .ok (.return_, 1) := by decide +kernel
theorem d_Co_opAt_0 : decode b_Co_opAt 0 = .ok (.aload_n 0, 1) := by decide +kernel
theorem d_Co_opAt_1 : decode b_Co_opAt 1 = .ok (.getfield 9, 3) := by decide +kernel
theorem d_Co_opAt_4 : decode b_Co_opAt 4 = .ok (.iload_n 1, 1) := by decide +kernel
theorem d_Co_opAt_5 : decode b_Co_opAt 5 = .ok (.iaload, 1) := by decide +kernel
theorem d_Co_opAt_6 : decode b_Co_opAt 6 = .ok (.ireturn, 1) := by decide +kernel
theorem d_Co_leftAt_0 : decode b_Co_leftAt 0 = .ok (.aload_n 0, 1) := by decide +kernel
theorem d_Co_leftAt_1 : decode b_Co_leftAt 1 = .ok (.getfield 15, 3) := by decide +kernel
theorem d_Co_leftAt_4 : decode b_Co_leftAt 4 = .ok (.iload_n 1, 1) := by decide +kernel
theorem d_Co_leftAt_5 : decode b_Co_leftAt 5 = .ok (.iaload, 1) := by decide +kernel
theorem d_Co_leftAt_6 : decode b_Co_leftAt 6 = .ok (.ireturn, 1) := by decide +kernel
theorem d_Co_rightAt_0 : decode b_Co_rightAt 0 = .ok (.aload_n 0, 1) := by decide +kernel
theorem d_Co_rightAt_1 : decode b_Co_rightAt 1 = .ok (.getfield 18, 3) := by decide +kernel
theorem d_Co_rightAt_4 : decode b_Co_rightAt 4 = .ok (.iload_n 1, 1) := by decide +kernel
theorem d_Co_rightAt_5 : decode b_Co_rightAt 5 = .ok (.iaload, 1) := by decide +kernel
theorem d_Co_rightAt_6 : decode b_Co_rightAt 6 = .ok (.ireturn, 1) := by decide +kernel
theorem d_Ma_compute_0 : decode b_Ma_compute 0 = .ok (.iload_n 1, 1) := by decide +kernel
theorem d_Ma_compute_1 : decode b_Ma_compute 1 = .ok (.tableswitch 94 1 7 #[43, 50, 54, 58, 62, 69, 88], 43) := by decide +kernel
theorem d_Ma_compute_44 : decode b_Ma_compute 44 = .ok (.aload_n 0, 1) := by decide +kernel
theorem d_Ma_compute_45 : decode b_Ma_compute 45 = .ok (.getfield 15, 3) := by decide +kernel
theorem d_Ma_compute_48 : decode b_Ma_compute 48 = .ok (.iload_n 2, 1) := by decide +kernel
theorem d_Ma_compute_49 : decode b_Ma_compute 49 = .ok (.iaload, 1) := by decide +kernel
theorem d_Ma_compute_50 : decode b_Ma_compute 50 = .ok (.ireturn, 1) := by decide +kernel
theorem d_Ma_compute_51 : decode b_Ma_compute 51 = .ok (.iload_n 2, 1) := by decide +kernel
theorem d_Ma_compute_52 : decode b_Ma_compute 52 = .ok (.iload_n 3, 1) := by decide +kernel
theorem d_Ma_compute_53 : decode b_Ma_compute 53 = .ok (.iadd, 1) := by decide +kernel
theorem d_Ma_compute_54 : decode b_Ma_compute 54 = .ok (.ireturn, 1) := by decide +kernel
theorem d_Ma_compute_55 : decode b_Ma_compute 55 = .ok (.iload_n 2, 1) := by decide +kernel
theorem d_Ma_compute_56 : decode b_Ma_compute 56 = .ok (.iload_n 3, 1) := by decide +kernel
theorem d_Ma_compute_57 : decode b_Ma_compute 57 = .ok (.isub, 1) := by decide +kernel
theorem d_Ma_compute_58 : decode b_Ma_compute 58 = .ok (.ireturn, 1) := by decide +kernel
theorem d_Ma_compute_59 : decode b_Ma_compute 59 = .ok (.iload_n 2, 1) := by decide +kernel
theorem d_Ma_compute_60 : decode b_Ma_compute 60 = .ok (.iload_n 3, 1) := by decide +kernel
theorem d_Ma_compute_61 : decode b_Ma_compute 61 = .ok (.imul, 1) := by decide +kernel
theorem d_Ma_compute_62 : decode b_Ma_compute 62 = .ok (.ireturn, 1) := by decide +kernel
theorem d_Ma_compute_63 : decode b_Ma_compute 63 = .ok (.aload_n 0, 1) := by decide +kernel
theorem d_Ma_compute_64 : decode b_Ma_compute 64 = .ok (.iload_n 2, 1) := by decide +kernel
theorem d_Ma_compute_65 : decode b_Ma_compute 65 = .ok (.iload_n 3, 1) := by decide +kernel
theorem d_Ma_compute_66 : decode b_Ma_compute 66 = .ok (.invokevirtual 73, 3) := by decide +kernel
theorem d_Ma_compute_69 : decode b_Ma_compute 69 = .ok (.ireturn, 1) := by decide +kernel
theorem d_Ma_compute_70 : decode b_Ma_compute 70 = .ok (.aload_n 0, 1) := by decide +kernel
theorem d_Ma_compute_71 : decode b_Ma_compute 71 = .ok (.getfield 18, 3) := by decide +kernel
theorem d_Ma_compute_74 : decode b_Ma_compute 74 = .ok (.aload_n 0, 1) := by decide +kernel
theorem d_Ma_compute_75 : decode b_Ma_compute 75 = .ok (.dup, 1) := by decide +kernel
theorem d_Ma_compute_76 : decode b_Ma_compute 76 = .ok (.getfield 27, 3) := by decide +kernel
theorem d_Ma_compute_79 : decode b_Ma_compute 79 = .ok (.dup_x1, 1) := by decide +kernel
theorem d_Ma_compute_80 : decode b_Ma_compute 80 = .ok (.iconst 1, 1) := by decide +kernel
theorem d_Ma_compute_81 : decode b_Ma_compute 81 = .ok (.iadd, 1) := by decide +kernel
theorem d_Ma_compute_82 : decode b_Ma_compute 82 = .ok (.putfield 27, 3) := by decide +kernel
theorem d_Ma_compute_85 : decode b_Ma_compute 85 = .ok (.iload_n 2, 1) := by decide +kernel
theorem d_Ma_compute_86 : decode b_Ma_compute 86 = .ok (.iastore, 1) := by decide +kernel
theorem d_Ma_compute_87 : decode b_Ma_compute 87 = .ok (.iconst 0, 1) := by decide +kernel
theorem d_Ma_compute_88 : decode b_Ma_compute 88 = .ok (.ireturn, 1) := by decide +kernel
theorem d_Ma_compute_89 : decode b_Ma_compute 89 = .ok (.iload_n 2, 1) := by decide +kernel
theorem d_Ma_compute_90 : decode b_Ma_compute 90 = .ok (.iconst 3, 1) := by decide +kernel
theorem d_Ma_compute_91 : decode b_Ma_compute 91 = .ok (.imul, 1) := by decide +kernel
theorem d_Ma_compute_92 : decode b_Ma_compute 92 = .ok (.iconst 1, 1) := by decide +kernel
theorem d_Ma_compute_93 : decode b_Ma_compute 93 = .ok (.iadd, 1) := by decide +kernel
theorem d_Ma_compute_94 : decode b_Ma_compute 94 = .ok (.ireturn, 1) := by decide +kernel
theorem d_Ma_compute_95 : decode b_Ma_compute 95 = .ok (.iload_n 2, 1) := by decide +kernel
theorem d_Ma_compute_96 : decode b_Ma_compute 96 = .ok (.ireturn, 1) := by decide +kernel
theorem d_Ma_divide_0 : decode b_Ma_divide 0 = .ok (.iload_n 2, 1) := by decide +kernel
theorem d_Ma_divide_1 : decode b_Ma_divide 1 = .ok (.ifCond .ne 10, 3) := by decide +kernel
theorem d_Ma_divide_4 : decode b_Ma_divide 4 = .ok (.aload_n 0, 1) := by decide +kernel
theorem d_Ma_divide_5 : decode b_Ma_divide 5 = .ok (.iconst 1, 1) := by decide +kernel
theorem d_Ma_divide_6 : decode b_Ma_divide 6 = .ok (.putfield 34, 3) := by decide +kernel
theorem d_Ma_divide_9 : decode b_Ma_divide 9 = .ok (.iconst 0, 1) := by decide +kernel
theorem d_Ma_divide_10 : decode b_Ma_divide 10 = .ok (.ireturn, 1) := by decide +kernel
theorem d_Ma_divide_11 : decode b_Ma_divide 11 = .ok (.iload_n 1, 1) := by decide +kernel
theorem d_Ma_divide_12 : decode b_Ma_divide 12 = .ok (.iload_n 2, 1) := by decide +kernel
theorem d_Ma_divide_13 : decode b_Ma_divide 13 = .ok (.idiv, 1) := by decide +kernel
theorem d_Ma_divide_14 : decode b_Ma_divide 14 = .ok (.ireturn, 1) := by decide +kernel
theorem d_Ma_spoil_0 : decode b_Ma_spoil 0 = .ok (.iconst 2, 1) := by decide +kernel
theorem d_Ma_spoil_1 : decode b_Ma_spoil 1 = .ok (.istore_n 2, 1) := by decide +kernel
theorem d_Ma_spoil_2 : decode b_Ma_spoil 2 = .ok (.iload_n 2, 1) := by decide +kernel
theorem d_Ma_spoil_3 : decode b_Ma_spoil 3 = .ok (.iload_n 1, 1) := by decide +kernel
theorem d_Ma_spoil_4 : decode b_Ma_spoil 4 = .ok (.if_icmp .ge 16, 3) := by decide +kernel
theorem d_Ma_spoil_7 : decode b_Ma_spoil 7 = .ok (.aload_n 0, 1) := by decide +kernel
theorem d_Ma_spoil_8 : decode b_Ma_spoil 8 = .ok (.getfield 9, 3) := by decide +kernel
theorem d_Ma_spoil_11 : decode b_Ma_spoil 11 = .ok (.iload_n 2, 1) := by decide +kernel
theorem d_Ma_spoil_12 : decode b_Ma_spoil 12 = .ok (.iconst (-1), 1) := by decide +kernel
theorem d_Ma_spoil_13 : decode b_Ma_spoil 13 = .ok (.iastore, 1) := by decide +kernel
theorem d_Ma_spoil_14 : decode b_Ma_spoil 14 = .ok (.iinc 2 1, 3) := by decide +kernel
theorem d_Ma_spoil_17 : decode b_Ma_spoil 17 = .ok (.goto (-15), 3) := by decide +kernel
theorem d_Ma_spoil_20 : decode b_Ma_spoil 20 = .ok (.return_, 1) := by decide +kernel
theorem d_Ma_hadFault_0 : decode b_Ma_hadFault 0 = .ok (.aload_n 0, 1) := by decide +kernel
theorem d_Ma_hadFault_1 : decode b_Ma_hadFault 1 = .ok (.getfield 34, 3) := by decide +kernel
theorem d_Ma_hadFault_4 : decode b_Ma_hadFault 4 = .ok (.ireturn, 1) := by decide +kernel
theorem d_Ma_result_0 : decode b_Ma_result 0 = .ok (.aload_n 0, 1) := by decide +kernel
theorem d_Ma_result_1 : decode b_Ma_result 1 = .ok (.getfield 31, 3) := by decide +kernel
theorem d_Ma_result_4 : decode b_Ma_result 4 = .ok (.ireturn, 1) := by decide +kernel
theorem d_Al_homes_0 : decode b_Al_homes 0 = .ok (.aload_n 0, 1) := by decide +kernel
theorem d_Al_homes_1 : decode b_Al_homes 1 = .ok (.getfield 9, 3) := by decide +kernel
theorem d_Al_homes_4 : decode b_Al_homes 4 = .ok (.areturn, 1) := by decide +kernel
theorem d_Ma_endedLike_0 : decode b_Ma_endedLike 0 = .ok (.aload_n 0, 1) := by decide +kernel
theorem d_Ma_endedLike_1 : decode b_Ma_endedLike 1 = .ok (.getfield 34, 3) := by decide +kernel
theorem d_Ma_endedLike_4 : decode b_Ma_endedLike 4 = .ok (.aload_n 1, 1) := by decide +kernel
theorem d_Ma_endedLike_5 : decode b_Ma_endedLike 5 = .ok (.getfield 34, 3) := by decide +kernel
theorem d_Ma_endedLike_8 : decode b_Ma_endedLike 8 = .ok (.if_icmp .ne 14, 3) := by decide +kernel
theorem d_Ma_endedLike_11 : decode b_Ma_endedLike 11 = .ok (.aload_n 0, 1) := by decide +kernel
theorem d_Ma_endedLike_12 : decode b_Ma_endedLike 12 = .ok (.getfield 27, 3) := by decide +kernel
theorem d_Ma_endedLike_15 : decode b_Ma_endedLike 15 = .ok (.aload_n 1, 1) := by decide +kernel
theorem d_Ma_endedLike_16 : decode b_Ma_endedLike 16 = .ok (.getfield 27, 3) := by decide +kernel
theorem d_Ma_endedLike_19 : decode b_Ma_endedLike 19 = .ok (.if_icmp .eq 5, 3) := by decide +kernel
theorem d_Ma_endedLike_22 : decode b_Ma_endedLike 22 = .ok (.iconst 0, 1) := by decide +kernel
theorem d_Ma_endedLike_23 : decode b_Ma_endedLike 23 = .ok (.ireturn, 1) := by decide +kernel
theorem d_Ma_endedLike_24 : decode b_Ma_endedLike 24 = .ok (.iconst 0, 1) := by decide +kernel
theorem d_Ma_endedLike_25 : decode b_Ma_endedLike 25 = .ok (.istore_n 2, 1) := by decide +kernel
theorem d_Ma_endedLike_26 : decode b_Ma_endedLike 26 = .ok (.iload_n 2, 1) := by decide +kernel
theorem d_Ma_endedLike_27 : decode b_Ma_endedLike 27 = .ok (.aload_n 0, 1) := by decide +kernel
theorem d_Ma_endedLike_28 : decode b_Ma_endedLike 28 = .ok (.getfield 27, 3) := by decide +kernel
theorem d_Ma_endedLike_31 : decode b_Ma_endedLike 31 = .ok (.if_icmp .ge 26, 3) := by decide +kernel
theorem d_Ma_endedLike_34 : decode b_Ma_endedLike 34 = .ok (.aload_n 0, 1) := by decide +kernel
theorem d_Ma_endedLike_35 : decode b_Ma_endedLike 35 = .ok (.getfield 18, 3) := by decide +kernel
theorem d_Ma_endedLike_38 : decode b_Ma_endedLike 38 = .ok (.iload_n 2, 1) := by decide +kernel
theorem d_Ma_endedLike_39 : decode b_Ma_endedLike 39 = .ok (.iaload, 1) := by decide +kernel
theorem d_Ma_endedLike_40 : decode b_Ma_endedLike 40 = .ok (.aload_n 1, 1) := by decide +kernel
theorem d_Ma_endedLike_41 : decode b_Ma_endedLike 41 = .ok (.getfield 18, 3) := by decide +kernel
theorem d_Ma_endedLike_44 : decode b_Ma_endedLike 44 = .ok (.iload_n 2, 1) := by decide +kernel
theorem d_Ma_endedLike_45 : decode b_Ma_endedLike 45 = .ok (.iaload, 1) := by decide +kernel
theorem d_Ma_endedLike_46 : decode b_Ma_endedLike 46 = .ok (.if_icmp .eq 5, 3) := by decide +kernel
theorem d_Ma_endedLike_49 : decode b_Ma_endedLike 49 = .ok (.iconst 0, 1) := by decide +kernel
theorem d_Ma_endedLike_50 : decode b_Ma_endedLike 50 = .ok (.ireturn, 1) := by decide +kernel
theorem d_Ma_endedLike_51 : decode b_Ma_endedLike 51 = .ok (.iinc 2 1, 3) := by decide +kernel
theorem d_Ma_endedLike_54 : decode b_Ma_endedLike 54 = .ok (.goto (-28), 3) := by decide +kernel
theorem d_Ma_endedLike_57 : decode b_Ma_endedLike 57 = .ok (.aload_n 0, 1) := by decide +kernel
theorem d_Ma_endedLike_58 : decode b_Ma_endedLike 58 = .ok (.getfield 34, 3) := by decide +kernel
theorem d_Ma_endedLike_61 : decode b_Ma_endedLike 61 = .ok (.ifCond .ne 14, 3) := by decide +kernel
theorem d_Ma_endedLike_64 : decode b_Ma_endedLike 64 = .ok (.aload_n 0, 1) := by decide +kernel
theorem d_Ma_endedLike_65 : decode b_Ma_endedLike 65 = .ok (.getfield 31, 3) := by decide +kernel
theorem d_Ma_endedLike_68 : decode b_Ma_endedLike 68 = .ok (.aload_n 1, 1) := by decide +kernel
theorem d_Ma_endedLike_69 : decode b_Ma_endedLike 69 = .ok (.getfield 31, 3) := by decide +kernel
theorem d_Ma_endedLike_72 : decode b_Ma_endedLike 72 = .ok (.if_icmp .ne 7, 3) := by decide +kernel
theorem d_Ma_endedLike_75 : decode b_Ma_endedLike 75 = .ok (.iconst 1, 1) := by decide +kernel
theorem d_Ma_endedLike_76 : decode b_Ma_endedLike 76 = .ok (.goto 4, 3) := by decide +kernel
theorem d_Ma_endedLike_79 : decode b_Ma_endedLike 79 = .ok (.iconst 0, 1) := by decide +kernel
theorem d_Ma_endedLike_80 : decode b_Ma_endedLike 80 = .ok (.ireturn, 1) := by decide +kernel
theorem d_Ma_saidCount_0 : decode b_Ma_saidCount 0 = .ok (.aload_n 0, 1) := by decide +kernel
theorem d_Ma_saidCount_1 : decode b_Ma_saidCount 1 = .ok (.getfield 27, 3) := by decide +kernel
theorem d_Ma_saidCount_4 : decode b_Ma_saidCount 4 = .ok (.ireturn, 1) := by decide +kernel
theorem d_Ma_saidAt_0 : decode b_Ma_saidAt 0 = .ok (.aload_n 0, 1) := by decide +kernel
theorem d_Ma_saidAt_1 : decode b_Ma_saidAt 1 = .ok (.getfield 18, 3) := by decide +kernel
theorem d_Ma_saidAt_4 : decode b_Ma_saidAt 4 = .ok (.iload_n 1, 1) := by decide +kernel
theorem d_Ma_saidAt_5 : decode b_Ma_saidAt 5 = .ok (.iaload, 1) := by decide +kernel
theorem d_Ma_saidAt_6 : decode b_Ma_saidAt 6 = .ok (.ireturn, 1) := by decide +kernel
theorem d_Co_values_0 : decode b_Co_values 0 = .ok (.aload_n 0, 1) := by decide +kernel
theorem d_Co_values_1 : decode b_Co_values 1 = .ok (.getfield 51, 3) := by decide +kernel
theorem d_Co_values_4 : decode b_Co_values 4 = .ok (.ireturn, 1) := by decide +kernel
theorem d_Al_evictions_0 : decode b_Al_evictions 0 = .ok (.aload_n 0, 1) := by decide +kernel
theorem d_Al_evictions_1 : decode b_Al_evictions 1 = .ok (.getfield 25, 3) := by decide +kernel
theorem d_Al_evictions_4 : decode b_Al_evictions 4 = .ok (.ireturn, 1) := by decide +kernel
theorem d_Al_valuesInSlots_0 : decode b_Al_valuesInSlots 0 = .ok (.aload_n 0, 1) := by decide +kernel
theorem d_Al_valuesInSlots_1 : decode b_Al_valuesInSlots 1 = .ok (.bipush 10, 2) := by decide +kernel
theorem d_Al_valuesInSlots_3 : decode b_Al_valuesInSlots 3 = .ok (.bipush 6, 2) := by decide +kernel
theorem d_Al_valuesInSlots_5 : decode b_Al_valuesInSlots 5 = .ok (.invokevirtual 82, 3) := by decide +kernel
theorem d_Al_valuesInSlots_8 : decode b_Al_valuesInSlots 8 = .ok (.ireturn, 1) := by decide +kernel
theorem d_Al_slotsUsed_0 : decode b_Al_slotsUsed 0 = .ok (.aload_n 0, 1) := by decide +kernel
theorem d_Al_slotsUsed_1 : decode b_Al_slotsUsed 1 = .ok (.bipush 10, 2) := by decide +kernel
theorem d_Al_slotsUsed_3 : decode b_Al_slotsUsed 3 = .ok (.bipush 6, 2) := by decide +kernel
theorem d_Al_slotsUsed_5 : decode b_Al_slotsUsed 5 = .ok (.invokevirtual 85, 3) := by decide +kernel
theorem d_Al_slotsUsed_8 : decode b_Al_slotsUsed 8 = .ok (.ireturn, 1) := by decide +kernel
theorem d_Al_homesUsed_0 : decode b_Al_homesUsed 0 = .ok (.iconst 0, 1) := by decide +kernel
theorem d_Al_homesUsed_1 : decode b_Al_homesUsed 1 = .ok (.istore_n 3, 1) := by decide +kernel
theorem d_Al_homesUsed_2 : decode b_Al_homesUsed 2 = .ok (.iload_n 1, 1) := by decide +kernel
theorem d_Al_homesUsed_3 : decode b_Al_homesUsed 3 = .ok (.istore 4, 2) := by decide +kernel
theorem d_Al_homesUsed_5 : decode b_Al_homesUsed 5 = .ok (.iload 4, 2) := by decide +kernel
theorem d_Al_homesUsed_7 : decode b_Al_homesUsed 7 = .ok (.iload_n 1, 1) := by decide +kernel
theorem d_Al_homesUsed_8 : decode b_Al_homesUsed 8 = .ok (.iload_n 2, 1) := by decide +kernel
theorem d_Al_homesUsed_9 : decode b_Al_homesUsed 9 = .ok (.iadd, 1) := by decide +kernel
theorem d_Al_homesUsed_10 : decode b_Al_homesUsed 10 = .ok (.if_icmp .ge 21, 3) := by decide +kernel
theorem d_Al_homesUsed_13 : decode b_Al_homesUsed 13 = .ok (.aload_n 0, 1) := by decide +kernel
theorem d_Al_homesUsed_14 : decode b_Al_homesUsed 14 = .ok (.iload 4, 2) := by decide +kernel
theorem d_Al_homesUsed_16 : decode b_Al_homesUsed 16 = .ok (.invokevirtual 88, 3) := by decide +kernel
theorem d_Al_homesUsed_19 : decode b_Al_homesUsed 19 = .ok (.ifCond .le 6, 3) := by decide +kernel
theorem d_Al_homesUsed_22 : decode b_Al_homesUsed 22 = .ok (.iinc 3 1, 3) := by decide +kernel
theorem d_Al_homesUsed_25 : decode b_Al_homesUsed 25 = .ok (.iinc 4 1, 3) := by decide +kernel
theorem d_Al_homesUsed_28 : decode b_Al_homesUsed 28 = .ok (.goto (-23), 3) := by decide +kernel
theorem d_Al_homesUsed_31 : decode b_Al_homesUsed 31 = .ok (.iload_n 3, 1) := by decide +kernel
theorem d_Al_homesUsed_32 : decode b_Al_homesUsed 32 = .ok (.ireturn, 1) := by decide +kernel
theorem d_Al_registersUsed_0 : decode b_Al_registersUsed 0 = .ok (.aload_n 0, 1) := by decide +kernel
theorem d_Al_registersUsed_1 : decode b_Al_registersUsed 1 = .ok (.iconst 0, 1) := by decide +kernel
theorem d_Al_registersUsed_2 : decode b_Al_registersUsed 2 = .ok (.iconst 5, 1) := by decide +kernel
theorem d_Al_registersUsed_3 : decode b_Al_registersUsed 3 = .ok (.invokevirtual 85, 3) := by decide +kernel
theorem d_Al_registersUsed_6 : decode b_Al_registersUsed 6 = .ok (.ireturn, 1) := by decide +kernel
end
section
/-! decode rows -/
theorem d_AF_init_0 : decode b_AF_init 0 = .ok (.aload_n 0, 1) := by decide +kernel
theorem d_AF_init_1 : decode b_AF_init 1 = .ok (.invokespecial 1, 3) := by decide +kernel
theorem d_AF_init_4 : decode b_AF_init 4 = .ok (.aload_n 0, 1) := by decide +kernel
theorem d_AF_init_5 : decode b_AF_init 5 = .ok (.new 7, 3) := by decide +kernel
theorem d_AF_init_8 : decode b_AF_init 8 = .ok (.dup, 1) := by decide +kernel
theorem d_AF_init_9 : decode b_AF_init 9 = .ok (.invokespecial 9, 3) := by decide +kernel
theorem d_AF_init_12 : decode b_AF_init 12 = .ok (.putfield 10, 3) := by decide +kernel
theorem d_AF_init_15 : decode b_AF_init 15 = .ok (.aload_n 0, 1) := by decide +kernel
theorem d_AF_init_16 : decode b_AF_init 16 = .ok (.bipush 24, 2) := by decide +kernel
theorem d_AF_init_18 : decode b_AF_init 18 = .ok (.newarray .int, 2) := by decide +kernel
theorem d_AF_init_20 : decode b_AF_init 20 = .ok (.putfield 16, 3) := by decide +kernel
theorem d_AF_init_23 : decode b_AF_init 23 = .ok (.iconst 0, 1) := by decide +kernel
theorem d_AF_init_24 : decode b_AF_init 24 = .ok (.istore_n 1, 1) := by decide +kernel
theorem d_AF_init_25 : decode b_AF_init 25 = .ok (.iload_n 1, 1) := by decide +kernel
theorem d_AF_init_26 : decode b_AF_init 26 = .ok (.bipush 24, 2) := by decide +kernel
theorem d_AF_init_28 : decode b_AF_init 28 = .ok (.if_icmp .ge 16, 3) := by decide +kernel
theorem d_AF_init_31 : decode b_AF_init 31 = .ok (.aload_n 0, 1) := by decide +kernel
theorem d_AF_init_32 : decode b_AF_init 32 = .ok (.getfield 16, 3) := by decide +kernel
theorem d_AF_init_35 : decode b_AF_init 35 = .ok (.iload_n 1, 1) := by decide +kernel
theorem d_AF_init_36 : decode b_AF_init 36 = .ok (.iload_n 1, 1) := by decide +kernel
theorem d_AF_init_37 : decode b_AF_init 37 = .ok (.iastore, 1) := by decide +kernel
theorem d_AF_init_38 : decode b_AF_init 38 = .ok (.iinc 1 1, 3) := by decide +kernel
theorem d_AF_init_41 : decode b_AF_init 41 = .ok (.goto (-16), 3) := by decide +kernel
theorem d_AF_init_44 : decode b_AF_init 44 = .ok (.aload_n 0, 1) := by decide +kernel
theorem d_AF_init_45 : decode b_AF_init 45 = .ok (.new 20, 3) := by decide +kernel
theorem d_AF_init_48 : decode b_AF_init 48 = .ok (.dup, 1) := by decide +kernel
theorem d_AF_init_49 : decode b_AF_init 49 = .ok (.invokespecial 22, 3) := by decide +kernel
theorem d_AF_init_52 : decode b_AF_init 52 = .ok (.putfield 23, 3) := by decide +kernel
theorem d_AF_init_55 : decode b_AF_init 55 = .ok (.aload_n 0, 1) := by decide +kernel
theorem d_AF_init_56 : decode b_AF_init 56 = .ok (.new 20, 3) := by decide +kernel
theorem d_AF_init_59 : decode b_AF_init 59 = .ok (.dup, 1) := by decide +kernel
theorem d_AF_init_60 : decode b_AF_init 60 = .ok (.invokespecial 22, 3) := by decide +kernel
theorem d_AF_init_63 : decode b_AF_init 63 = .ok (.putfield 27, 3) := by decide +kernel
theorem d_AF_init_66 : decode b_AF_init 66 = .ok (.aload_n 0, 1) := by decide +kernel
theorem d_AF_init_67 : decode b_AF_init 67 = .ok (.aload_n 0, 1) := by decide +kernel
theorem d_AF_init_68 : decode b_AF_init 68 = .ok (.getfield 23, 3) := by decide +kernel
theorem d_AF_init_71 : decode b_AF_init 71 = .ok (.putfield 30, 3) := by decide +kernel
theorem d_AF_init_74 : decode b_AF_init 74 = .ok (.aload_n 0, 1) := by decide +kernel
theorem d_AF_init_75 : decode b_AF_init 75 = .ok (.new 33, 3) := by decide +kernel
theorem d_AF_init_78 : decode b_AF_init 78 = .ok (.dup, 1) := by decide +kernel
theorem d_AF_init_79 : decode b_AF_init 79 = .ok (.invokespecial 35, 3) := by decide +kernel
theorem d_AF_init_82 : decode b_AF_init 82 = .ok (.putfield 36, 3) := by decide +kernel
theorem d_AF_init_85 : decode b_AF_init 85 = .ok (.aload_n 0, 1) := by decide +kernel
theorem d_AF_init_86 : decode b_AF_init 86 = .ok (.new 33, 3) := by decide +kernel
theorem d_AF_init_89 : decode b_AF_init 89 = .ok (.dup, 1) := by decide +kernel
theorem d_AF_init_90 : decode b_AF_init 90 = .ok (.invokespecial 35, 3) := by decide +kernel
theorem d_AF_init_93 : decode b_AF_init 93 = .ok (.putfield 40, 3) := by decide +kernel
theorem d_AF_init_96 : decode b_AF_init 96 = .ok (.return_, 1) := by decide +kernel
theorem d_AF_clear_0 : decode b_AF_clear 0 = .ok (.aload_n 0, 1) := by decide +kernel
theorem d_AF_clear_1 : decode b_AF_clear 1 = .ok (.getfield 10, 3) := by decide +kernel
theorem d_AF_clear_4 : decode b_AF_clear 4 = .ok (.invokevirtual 54, 3) := by decide +kernel
theorem d_AF_clear_7 : decode b_AF_clear 7 = .ok (.istore_n 1, 1) := by decide +kernel
theorem d_AF_clear_8 : decode b_AF_clear 8 = .ok (.aload_n 0, 1) := by decide +kernel
theorem d_AF_clear_9 : decode b_AF_clear 9 = .ok (.getfield 10, 3) := by decide +kernel
theorem d_AF_clear_12 : decode b_AF_clear 12 = .ok (.invokevirtual 70, 3) := by decide +kernel
theorem d_AF_clear_15 : decode b_AF_clear 15 = .ok (.aload_n 0, 1) := by decide +kernel
theorem d_AF_clear_16 : decode b_AF_clear 16 = .ok (.getfield 36, 3) := by decide +kernel
theorem d_AF_clear_19 : decode b_AF_clear 19 = .ok (.invokevirtual 67, 3) := by decide +kernel
theorem d_AF_clear_22 : decode b_AF_clear 22 = .ok (.iload_n 1, 1) := by decide +kernel
theorem d_AF_clear_23 : decode b_AF_clear 23 = .ok (.ireturn, 1) := by decide +kernel
theorem d_AF_add_0 : decode b_AF_add 0 = .ok (.aload_n 0, 1) := by decide +kernel
theorem d_AF_add_1 : decode b_AF_add 1 = .ok (.getfield 10, 3) := by decide +kernel
theorem d_AF_add_4 : decode b_AF_add 4 = .ok (.iload_n 1, 1) := by decide +kernel
theorem d_AF_add_5 : decode b_AF_add 5 = .ok (.iload_n 2, 1) := by decide +kernel
theorem d_AF_add_6 : decode b_AF_add 6 = .ok (.iload_n 3, 1) := by decide +kernel
theorem d_AF_add_7 : decode b_AF_add 7 = .ok (.iload 4, 2) := by decide +kernel
theorem d_AF_add_9 : decode b_AF_add 9 = .ok (.invokevirtual 43, 3) := by decide +kernel
theorem d_AF_add_12 : decode b_AF_add 12 = .ok (.ifCond .ne 13, 3) := by decide +kernel
theorem d_AF_add_15 : decode b_AF_add 15 = .ok (.new 47, 3) := by decide +kernel
theorem d_AF_add_18 : decode b_AF_add 18 = .ok (.dup, 1) := by decide +kernel
theorem d_AF_add_19 : decode b_AF_add 19 = .ok (.ldc 49, 2) := by decide +kernel
theorem d_AF_add_21 : decode b_AF_add 21 = .ok (.invokespecial 51, 3) := by decide +kernel
theorem d_AF_add_24 : decode b_AF_add 24 = .ok (.athrow, 1) := by decide +kernel
theorem d_AF_add_25 : decode b_AF_add 25 = .ok (.aload_n 0, 1) := by decide +kernel
theorem d_AF_add_26 : decode b_AF_add 26 = .ok (.getfield 10, 3) := by decide +kernel
theorem d_AF_add_29 : decode b_AF_add 29 = .ok (.invokevirtual 54, 3) := by decide +kernel
theorem d_AF_add_32 : decode b_AF_add 32 = .ok (.bipush 24, 2) := by decide +kernel
theorem d_AF_add_34 : decode b_AF_add 34 = .ok (.if_icmp .lt 13, 3) := by decide +kernel
theorem d_AF_add_37 : decode b_AF_add 37 = .ok (.new 58, 3) := by decide +kernel
theorem d_AF_add_40 : decode b_AF_add 40 = .ok (.dup, 1) := by decide +kernel
theorem d_AF_add_41 : decode b_AF_add 41 = .ok (.ldc 60, 2) := by decide +kernel
theorem d_AF_add_43 : decode b_AF_add 43 = .ok (.invokespecial 62, 3) := by decide +kernel
theorem d_AF_add_46 : decode b_AF_add 46 = .ok (.athrow, 1) := by decide +kernel
theorem d_AF_add_47 : decode b_AF_add 47 = .ok (.aload_n 0, 1) := by decide +kernel
theorem d_AF_add_48 : decode b_AF_add 48 = .ok (.getfield 10, 3) := by decide +kernel
theorem d_AF_add_51 : decode b_AF_add 51 = .ok (.iload_n 1, 1) := by decide +kernel
theorem d_AF_add_52 : decode b_AF_add 52 = .ok (.iload_n 2, 1) := by decide +kernel
theorem d_AF_add_53 : decode b_AF_add 53 = .ok (.iload_n 3, 1) := by decide +kernel
theorem d_AF_add_54 : decode b_AF_add 54 = .ok (.iload 4, 2) := by decide +kernel
theorem d_AF_add_56 : decode b_AF_add 56 = .ok (.invokevirtual 63, 3) := by decide +kernel
theorem d_AF_add_59 : decode b_AF_add 59 = .ok (.aload_n 0, 1) := by decide +kernel
theorem d_AF_add_60 : decode b_AF_add 60 = .ok (.getfield 36, 3) := by decide +kernel
theorem d_AF_add_63 : decode b_AF_add 63 = .ok (.invokevirtual 67, 3) := by decide +kernel
theorem d_AF_add_66 : decode b_AF_add 66 = .ok (.aload_n 0, 1) := by decide +kernel
theorem d_AF_add_67 : decode b_AF_add 67 = .ok (.getfield 10, 3) := by decide +kernel
theorem d_AF_add_70 : decode b_AF_add 70 = .ok (.invokevirtual 54, 3) := by decide +kernel
theorem d_AF_add_73 : decode b_AF_add 73 = .ok (.ireturn, 1) := by decide +kernel
theorem d_AF_allocate_0 : decode b_AF_allocate 0 = .ok (.iload_n 1, 1) := by decide +kernel
theorem d_AF_allocate_1 : decode b_AF_allocate 1 = .ok (.iconst 1, 1) := by decide +kernel
theorem d_AF_allocate_2 : decode b_AF_allocate 2 = .ok (.if_icmp .lt 8, 3) := by decide +kernel
theorem d_AF_allocate_5 : decode b_AF_allocate 5 = .ok (.iload_n 1, 1) := by decide +kernel
theorem d_AF_allocate_6 : decode b_AF_allocate 6 = .ok (.iconst 5, 1) := by decide +kernel
theorem d_AF_allocate_7 : decode b_AF_allocate 7 = .ok (.if_icmp .le 13, 3) := by decide +kernel
theorem d_AF_allocate_10 : decode b_AF_allocate 10 = .ok (.new 47, 3) := by decide +kernel
theorem d_AF_allocate_13 : decode b_AF_allocate 13 = .ok (.dup, 1) := by decide +kernel
theorem d_AF_allocate_14 : decode b_AF_allocate 14 = .ok (.ldc 73, 2) := by decide +kernel
theorem d_AF_allocate_16 : decode b_AF_allocate 16 = .ok (.invokespecial 51, 3) := by decide +kernel
theorem d_AF_allocate_19 : decode b_AF_allocate 19 = .ok (.athrow, 1) := by decide +kernel
theorem d_AF_allocate_20 : decode b_AF_allocate 20 = .ok (.aload_n 0, 1) := by decide +kernel
theorem d_AF_allocate_21 : decode b_AF_allocate 21 = .ok (.getfield 40, 3) := by decide +kernel
theorem d_AF_allocate_24 : decode b_AF_allocate 24 = .ok (.aload_n 0, 1) := by decide +kernel
theorem d_AF_allocate_25 : decode b_AF_allocate 25 = .ok (.getfield 10, 3) := by decide +kernel
theorem d_AF_allocate_28 : decode b_AF_allocate 28 = .ok (.iload_n 1, 1) := by decide +kernel
theorem d_AF_allocate_29 : decode b_AF_allocate 29 = .ok (.invokevirtual 75, 3) := by decide +kernel
theorem d_AF_allocate_32 : decode b_AF_allocate 32 = .ok (.ifCond .ne 13, 3) := by decide +kernel
theorem d_AF_allocate_35 : decode b_AF_allocate 35 = .ok (.new 58, 3) := by decide +kernel
theorem d_AF_allocate_38 : decode b_AF_allocate 38 = .ok (.dup, 1) := by decide +kernel
theorem d_AF_allocate_39 : decode b_AF_allocate 39 = .ok (.ldc 79, 2) := by decide +kernel
theorem d_AF_allocate_41 : decode b_AF_allocate 41 = .ok (.invokespecial 62, 3) := by decide +kernel
theorem d_AF_allocate_44 : decode b_AF_allocate 44 = .ok (.athrow, 1) := by decide +kernel
theorem d_AF_allocate_45 : decode b_AF_allocate 45 = .ok (.aload_n 0, 1) := by decide +kernel
theorem d_AF_allocate_46 : decode b_AF_allocate 46 = .ok (.getfield 36, 3) := by decide +kernel
theorem d_AF_allocate_49 : decode b_AF_allocate 49 = .ok (.astore_n 2, 1) := by decide +kernel
theorem d_AF_allocate_50 : decode b_AF_allocate 50 = .ok (.aload_n 0, 1) := by decide +kernel
theorem d_AF_allocate_51 : decode b_AF_allocate 51 = .ok (.aload_n 0, 1) := by decide +kernel
theorem d_AF_allocate_52 : decode b_AF_allocate 52 = .ok (.getfield 40, 3) := by decide +kernel
theorem d_AF_allocate_55 : decode b_AF_allocate 55 = .ok (.putfield 36, 3) := by decide +kernel
theorem d_AF_allocate_58 : decode b_AF_allocate 58 = .ok (.aload_n 0, 1) := by decide +kernel
theorem d_AF_allocate_59 : decode b_AF_allocate 59 = .ok (.aload_n 2, 1) := by decide +kernel
theorem d_AF_allocate_60 : decode b_AF_allocate 60 = .ok (.putfield 40, 3) := by decide +kernel
theorem d_AF_allocate_63 : decode b_AF_allocate 63 = .ok (.aload_n 0, 1) := by decide +kernel
theorem d_AF_allocate_64 : decode b_AF_allocate 64 = .ok (.getfield 36, 3) := by decide +kernel
theorem d_AF_allocate_67 : decode b_AF_allocate 67 = .ok (.invokevirtual 81, 3) := by decide +kernel
theorem d_AF_allocate_70 : decode b_AF_allocate 70 = .ok (.ireturn, 1) := by decide +kernel
theorem d_AF_place_0 : decode b_AF_place 0 = .ok (.aload_n 0, 1) := by decide +kernel
theorem d_AF_place_1 : decode b_AF_place 1 = .ok (.iload_n 1, 1) := by decide +kernel
theorem d_AF_place_2 : decode b_AF_place 2 = .ok (.invokevirtual 84, 3) := by decide +kernel
theorem d_AF_place_5 : decode b_AF_place 5 = .ok (.aload_n 0, 1) := by decide +kernel
theorem d_AF_place_6 : decode b_AF_place 6 = .ok (.invokevirtual 88, 3) := by decide +kernel
theorem d_AF_place_9 : decode b_AF_place 9 = .ok (.aload_n 0, 1) := by decide +kernel
theorem d_AF_place_10 : decode b_AF_place 10 = .ok (.getfield 36, 3) := by decide +kernel
theorem d_AF_place_13 : decode b_AF_place 13 = .ok (.iload_n 1, 1) := by decide +kernel
theorem d_AF_place_14 : decode b_AF_place 14 = .ok (.invokevirtual 91, 3) := by decide +kernel
theorem d_AF_place_17 : decode b_AF_place 17 = .ok (.ireturn, 1) := by decide +kernel
theorem d_AF_requireValue_0 : decode b_AF_requireValue 0 = .ok (.aload_n 0, 1) := by decide +kernel
theorem d_AF_requireValue_1 : decode b_AF_requireValue 1 = .ok (.getfield 10, 3) := by decide +kernel
theorem d_AF_requireValue_4 : decode b_AF_requireValue 4 = .ok (.iload_n 1, 1) := by decide +kernel
theorem d_AF_requireValue_5 : decode b_AF_requireValue 5 = .ok (.invokevirtual 163, 3) := by decide +kernel
theorem d_AF_requireValue_8 : decode b_AF_requireValue 8 = .ok (.ifCond .ne 13, 3) := by decide +kernel
theorem d_AF_requireValue_11 : decode b_AF_requireValue 11 = .ok (.new 135, 3) := by decide +kernel
theorem d_AF_requireValue_14 : decode b_AF_requireValue 14 = .ok (.dup, 1) := by decide +kernel
theorem d_AF_requireValue_15 : decode b_AF_requireValue 15 = .ok (.ldc 166, 2) := by decide +kernel
theorem d_AF_requireValue_17 : decode b_AF_requireValue 17 = .ok (.invokespecial 139, 3) := by decide +kernel
theorem d_AF_requireValue_20 : decode b_AF_requireValue 20 = .ok (.athrow, 1) := by decide +kernel
theorem d_AF_requireValue_21 : decode b_AF_requireValue 21 = .ok (.return_, 1) := by decide +kernel
theorem d_AF_requireAllocated_0 : decode b_AF_requireAllocated 0 = .ok (.aload_n 0, 1) := by decide +kernel
theorem d_AF_requireAllocated_1 : decode b_AF_requireAllocated 1 = .ok (.getfield 36, 3) := by decide +kernel
theorem d_AF_requireAllocated_4 : decode b_AF_requireAllocated 4 = .ok (.invokevirtual 158, 3) := by decide +kernel
theorem d_AF_requireAllocated_7 : decode b_AF_requireAllocated 7 = .ok (.ifCond .ne 13, 3) := by decide +kernel
theorem d_AF_requireAllocated_10 : decode b_AF_requireAllocated 10 = .ok (.new 58, 3) := by decide +kernel
theorem d_AF_requireAllocated_13 : decode b_AF_requireAllocated 13 = .ok (.dup, 1) := by decide +kernel
theorem d_AF_requireAllocated_14 : decode b_AF_requireAllocated 14 = .ok (.ldc 168, 2) := by decide +kernel
theorem d_AF_requireAllocated_16 : decode b_AF_requireAllocated 16 = .ok (.invokespecial 62, 3) := by decide +kernel
theorem d_AF_requireAllocated_19 : decode b_AF_requireAllocated 19 = .ok (.athrow, 1) := by decide +kernel
theorem d_AF_requireAllocated_20 : decode b_AF_requireAllocated 20 = .ok (.return_, 1) := by decide +kernel
theorem d_AF_weight_0 : decode b_AF_weight 0 = .ok (.aload_n 0, 1) := by decide +kernel
theorem d_AF_weight_1 : decode b_AF_weight 1 = .ok (.iload_n 1, 1) := by decide +kernel
theorem d_AF_weight_2 : decode b_AF_weight 2 = .ok (.invokevirtual 84, 3) := by decide +kernel
theorem d_AF_weight_5 : decode b_AF_weight 5 = .ok (.aload_n 0, 1) := by decide +kernel
theorem d_AF_weight_6 : decode b_AF_weight 6 = .ok (.getfield 10, 3) := by decide +kernel
theorem d_AF_weight_9 : decode b_AF_weight 9 = .ok (.iload_n 1, 1) := by decide +kernel
theorem d_AF_weight_10 : decode b_AF_weight 10 = .ok (.invokevirtual 95, 3) := by decide +kernel
theorem d_AF_weight_13 : decode b_AF_weight 13 = .ok (.dreturn, 1) := by decide +kernel
theorem d_AF_told_0 : decode b_AF_told 0 = .ok (.iload_n 2, 1) := by decide +kernel
theorem d_AF_told_1 : decode b_AF_told 1 = .ok (.ifCond .lt 8, 3) := by decide +kernel
theorem d_AF_told_4 : decode b_AF_told 4 = .ok (.iload_n 2, 1) := by decide +kernel
theorem d_AF_told_5 : decode b_AF_told 5 = .ok (.iconst 3, 1) := by decide +kernel
theorem d_AF_told_6 : decode b_AF_told 6 = .ok (.if_icmp .le 13, 3) := by decide +kernel
theorem d_AF_told_9 : decode b_AF_told 9 = .ok (.new 47, 3) := by decide +kernel
theorem d_AF_told_12 : decode b_AF_told 12 = .ok (.dup, 1) := by decide +kernel
theorem d_AF_told_13 : decode b_AF_told 13 = .ok (.ldc 99, 2) := by decide +kernel
theorem d_AF_told_15 : decode b_AF_told 15 = .ok (.invokespecial 51, 3) := by decide +kernel
theorem d_AF_told_18 : decode b_AF_told 18 = .ok (.athrow, 1) := by decide +kernel
theorem d_AF_told_19 : decode b_AF_told 19 = .ok (.aload_n 0, 1) := by decide +kernel
theorem d_AF_told_20 : decode b_AF_told 20 = .ok (.iload_n 1, 1) := by decide +kernel
theorem d_AF_told_21 : decode b_AF_told 21 = .ok (.invokevirtual 84, 3) := by decide +kernel
theorem d_AF_told_24 : decode b_AF_told 24 = .ok (.iload_n 2, 1) := by decide +kernel
theorem d_AF_told_25 : decode b_AF_told 25 = .ok (.tableswitch 62 0 2 #[27, 36, 45], 27) := by decide +kernel
theorem d_AF_told_52 : decode b_AF_told 52 = .ok (.aload_n 0, 1) := by decide +kernel
theorem d_AF_told_53 : decode b_AF_told 53 = .ok (.getfield 10, 3) := by decide +kernel
theorem d_AF_told_56 : decode b_AF_told 56 = .ok (.iload_n 1, 1) := by decide +kernel
theorem d_AF_told_57 : decode b_AF_told 57 = .ok (.invokevirtual 101, 3) := by decide +kernel
theorem d_AF_told_60 : decode b_AF_told 60 = .ok (.ireturn, 1) := by decide +kernel
theorem d_AF_told_61 : decode b_AF_told 61 = .ok (.aload_n 0, 1) := by decide +kernel
theorem d_AF_told_62 : decode b_AF_told 62 = .ok (.getfield 10, 3) := by decide +kernel
theorem d_AF_told_65 : decode b_AF_told 65 = .ok (.iload_n 1, 1) := by decide +kernel
theorem d_AF_told_66 : decode b_AF_told 66 = .ok (.invokevirtual 104, 3) := by decide +kernel
theorem d_AF_told_69 : decode b_AF_told 69 = .ok (.ireturn, 1) := by decide +kernel
theorem d_AF_told_70 : decode b_AF_told 70 = .ok (.aload_n 0, 1) := by decide +kernel
theorem d_AF_told_71 : decode b_AF_told 71 = .ok (.getfield 10, 3) := by decide +kernel
theorem d_AF_told_74 : decode b_AF_told 74 = .ok (.iload_n 1, 1) := by decide +kernel
theorem d_AF_told_75 : decode b_AF_told 75 = .ok (.invokevirtual 107, 3) := by decide +kernel
theorem d_AF_told_78 : decode b_AF_told 78 = .ok (.ifCond .eq 7, 3) := by decide +kernel
theorem d_AF_told_81 : decode b_AF_told 81 = .ok (.iconst 1, 1) := by decide +kernel
theorem d_AF_told_82 : decode b_AF_told 82 = .ok (.goto 4, 3) := by decide +kernel
theorem d_AF_told_85 : decode b_AF_told 85 = .ok (.iconst 0, 1) := by decide +kernel
theorem d_AF_told_86 : decode b_AF_told 86 = .ok (.ireturn, 1) := by decide +kernel
theorem d_AF_told_87 : decode b_AF_told 87 = .ok (.aload_n 0, 1) := by decide +kernel
theorem d_AF_told_88 : decode b_AF_told 88 = .ok (.getfield 10, 3) := by decide +kernel
theorem d_AF_told_91 : decode b_AF_told 91 = .ok (.iload_n 1, 1) := by decide +kernel
theorem d_AF_told_92 : decode b_AF_told 92 = .ok (.invokevirtual 111, 3) := by decide +kernel
theorem d_AF_told_95 : decode b_AF_told 95 = .ok (.ireturn, 1) := by decide +kernel
theorem d_AF_cost_0 : decode b_AF_cost 0 = .ok (.aload_n 0, 1) := by decide +kernel
theorem d_AF_cost_1 : decode b_AF_cost 1 = .ok (.invokevirtual 88, 3) := by decide +kernel
theorem d_AF_cost_4 : decode b_AF_cost 4 = .ok (.aload_n 0, 1) := by decide +kernel
theorem d_AF_cost_5 : decode b_AF_cost 5 = .ok (.getfield 36, 3) := by decide +kernel
theorem d_AF_cost_8 : decode b_AF_cost 8 = .ok (.aload_n 0, 1) := by decide +kernel
theorem d_AF_cost_9 : decode b_AF_cost 9 = .ok (.getfield 10, 3) := by decide +kernel
theorem d_AF_cost_12 : decode b_AF_cost 12 = .ok (.invokevirtual 114, 3) := by decide +kernel
theorem d_AF_cost_15 : decode b_AF_cost 15 = .ok (.dreturn, 1) := by decide +kernel
theorem d_AF_run_0 : decode b_AF_run 0 = .ok (.aload_n 0, 1) := by decide +kernel
theorem d_AF_run_1 : decode b_AF_run 1 = .ok (.iload_n 1, 1) := by decide +kernel
theorem d_AF_run_2 : decode b_AF_run 2 = .ok (.iload_n 2, 1) := by decide +kernel
theorem d_AF_run_3 : decode b_AF_run 3 = .ok (.iload_n 3, 1) := by decide +kernel
theorem d_AF_run_4 : decode b_AF_run 4 = .ok (.iload 4, 2) := by decide +kernel
theorem d_AF_run_6 : decode b_AF_run 6 = .ok (.invokevirtual 118, 3) := by decide +kernel
theorem d_AF_run_9 : decode b_AF_run 9 = .ok (.aload_n 0, 1) := by decide +kernel
theorem d_AF_run_10 : decode b_AF_run 10 = .ok (.aload_n 0, 1) := by decide +kernel
theorem d_AF_run_11 : decode b_AF_run 11 = .ok (.getfield 23, 3) := by decide +kernel
theorem d_AF_run_14 : decode b_AF_run 14 = .ok (.putfield 30, 3) := by decide +kernel
theorem d_AF_run_17 : decode b_AF_run 17 = .ok (.aload_n 0, 1) := by decide +kernel
theorem d_AF_run_18 : decode b_AF_run 18 = .ok (.getfield 23, 3) := by decide +kernel
theorem d_AF_run_21 : decode b_AF_run 21 = .ok (.invokestatic 121, 3) := by decide +kernel
theorem d_AF_run_24 : decode b_AF_run 24 = .ok (.ireturn, 1) := by decide +kernel
theorem d_AF_runWritten_0 : decode b_AF_runWritten 0 = .ok (.aload_n 0, 1) := by decide +kernel
theorem d_AF_runWritten_1 : decode b_AF_runWritten 1 = .ok (.getfield 23, 3) := by decide +kernel
theorem d_AF_runWritten_4 : decode b_AF_runWritten 4 = .ok (.iload_n 1, 1) := by decide +kernel
theorem d_AF_runWritten_5 : decode b_AF_runWritten 5 = .ok (.iload_n 2, 1) := by decide +kernel
theorem d_AF_runWritten_6 : decode b_AF_runWritten 6 = .ok (.iload_n 3, 1) := by decide +kernel
theorem d_AF_runWritten_7 : decode b_AF_runWritten 7 = .ok (.iload 4, 2) := by decide +kernel
theorem d_AF_runWritten_9 : decode b_AF_runWritten 9 = .ok (.invokevirtual 170, 3) := by decide +kernel
theorem d_AF_runWritten_12 : decode b_AF_runWritten 12 = .ok (.aload_n 0, 1) := by decide +kernel
theorem d_AF_runWritten_13 : decode b_AF_runWritten 13 = .ok (.getfield 23, 3) := by decide +kernel
theorem d_AF_runWritten_16 : decode b_AF_runWritten 16 = .ok (.aload_n 0, 1) := by decide +kernel
theorem d_AF_runWritten_17 : decode b_AF_runWritten 17 = .ok (.getfield 10, 3) := by decide +kernel
theorem d_AF_runWritten_20 : decode b_AF_runWritten 20 = .ok (.aload_n 0, 1) := by decide +kernel
theorem d_AF_runWritten_21 : decode b_AF_runWritten 21 = .ok (.getfield 16, 3) := by decide +kernel
theorem d_AF_runWritten_24 : decode b_AF_runWritten 24 = .ok (.iconst 0, 1) := by decide +kernel
theorem d_AF_runWritten_25 : decode b_AF_runWritten 25 = .ok (.invokevirtual 173, 3) := by decide +kernel
theorem d_AF_runWritten_28 : decode b_AF_runWritten 28 = .ok (.return_, 1) := by decide +kernel
theorem d_AF_resultOf_0 : decode b_AF_resultOf 0 = .ok (.aload_n 0, 1) := by decide +kernel
theorem d_AF_resultOf_1 : decode b_AF_resultOf 1 = .ok (.invokevirtual 181, 3) := by decide +kernel
theorem d_AF_resultOf_4 : decode b_AF_resultOf 4 = .ok (.ifCond .eq 13, 3) := by decide +kernel
theorem d_AF_resultOf_7 : decode b_AF_resultOf 7 = .ok (.new 185, 3) := by decide +kernel
theorem d_AF_resultOf_10 : decode b_AF_resultOf 10 = .ok (.dup, 1) := by decide +kernel
theorem d_AF_resultOf_11 : decode b_AF_resultOf 11 = .ok (.ldc 187, 2) := by decide +kernel
theorem d_AF_resultOf_13 : decode b_AF_resultOf 13 = .ok (.invokespecial 189, 3) := by decide +kernel
theorem d_AF_resultOf_16 : decode b_AF_resultOf 16 = .ok (.athrow, 1) := by decide +kernel
theorem d_AF_resultOf_17 : decode b_AF_resultOf 17 = .ok (.aload_n 0, 1) := by decide +kernel
theorem d_AF_resultOf_18 : decode b_AF_resultOf 18 = .ok (.invokevirtual 190, 3) := by decide +kernel
theorem d_AF_resultOf_21 : decode b_AF_resultOf 21 = .ok (.ireturn, 1) := by decide +kernel
theorem d_AF_go_0 : decode b_AF_go 0 = .ok (.aload_n 0, 1) := by decide +kernel
theorem d_AF_go_1 : decode b_AF_go 1 = .ok (.invokevirtual 88, 3) := by decide +kernel
theorem d_AF_go_4 : decode b_AF_go 4 = .ok (.aload_n 0, 1) := by decide +kernel
theorem d_AF_go_5 : decode b_AF_go 5 = .ok (.iload_n 1, 1) := by decide +kernel
theorem d_AF_go_6 : decode b_AF_go 6 = .ok (.iload_n 2, 1) := by decide +kernel
theorem d_AF_go_7 : decode b_AF_go 7 = .ok (.iload_n 3, 1) := by decide +kernel
theorem d_AF_go_8 : decode b_AF_go 8 = .ok (.iload 4, 2) := by decide +kernel
theorem d_AF_go_10 : decode b_AF_go 10 = .ok (.invokevirtual 125, 3) := by decide +kernel
theorem d_AF_go_13 : decode b_AF_go 13 = .ok (.aload_n 0, 1) := by decide +kernel
theorem d_AF_go_14 : decode b_AF_go 14 = .ok (.aload_n 0, 1) := by decide +kernel
theorem d_AF_go_15 : decode b_AF_go 15 = .ok (.getfield 27, 3) := by decide +kernel
theorem d_AF_go_18 : decode b_AF_go 18 = .ok (.putfield 30, 3) := by decide +kernel
theorem d_AF_go_21 : decode b_AF_go 21 = .ok (.aload_n 0, 1) := by decide +kernel
theorem d_AF_go_22 : decode b_AF_go 22 = .ok (.getfield 27, 3) := by decide +kernel
theorem d_AF_go_25 : decode b_AF_go 25 = .ok (.invokestatic 121, 3) := by decide +kernel
theorem d_AF_go_28 : decode b_AF_go 28 = .ok (.ireturn, 1) := by decide +kernel
theorem d_AF_runAllocated_0 : decode b_AF_runAllocated 0 = .ok (.aload_n 0, 1) := by decide +kernel
theorem d_AF_runAllocated_1 : decode b_AF_runAllocated 1 = .ok (.getfield 27, 3) := by decide +kernel
theorem d_AF_runAllocated_4 : decode b_AF_runAllocated 4 = .ok (.iload_n 1, 1) := by decide +kernel
theorem d_AF_runAllocated_5 : decode b_AF_runAllocated 5 = .ok (.iload_n 2, 1) := by decide +kernel
theorem d_AF_runAllocated_6 : decode b_AF_runAllocated 6 = .ok (.iload_n 3, 1) := by decide +kernel
theorem d_AF_runAllocated_7 : decode b_AF_runAllocated 7 = .ok (.iload 4, 2) := by decide +kernel
theorem d_AF_runAllocated_9 : decode b_AF_runAllocated 9 = .ok (.invokevirtual 170, 3) := by decide +kernel
theorem d_AF_runAllocated_12 : decode b_AF_runAllocated 12 = .ok (.aload_n 0, 1) := by decide +kernel
theorem d_AF_runAllocated_13 : decode b_AF_runAllocated 13 = .ok (.getfield 27, 3) := by decide +kernel
theorem d_AF_runAllocated_16 : decode b_AF_runAllocated 16 = .ok (.aload_n 0, 1) := by decide +kernel
theorem d_AF_runAllocated_17 : decode b_AF_runAllocated 17 = .ok (.getfield 10, 3) := by decide +kernel
theorem d_AF_runAllocated_20 : decode b_AF_runAllocated 20 = .ok (.aload_n 0, 1) := by decide +kernel
theorem d_AF_runAllocated_21 : decode b_AF_runAllocated 21 = .ok (.getfield 36, 3) := by decide +kernel
theorem d_AF_runAllocated_24 : decode b_AF_runAllocated 24 = .ok (.invokevirtual 177, 3) := by decide +kernel
theorem d_AF_runAllocated_27 : decode b_AF_runAllocated 27 = .ok (.aload_n 0, 1) := by decide +kernel
theorem d_AF_runAllocated_28 : decode b_AF_runAllocated 28 = .ok (.getfield 36, 3) := by decide +kernel
theorem d_AF_runAllocated_31 : decode b_AF_runAllocated 31 = .ok (.invokevirtual 158, 3) := by decide +kernel
theorem d_AF_runAllocated_34 : decode b_AF_runAllocated 34 = .ok (.invokevirtual 173, 3) := by decide +kernel
theorem d_AF_runAllocated_37 : decode b_AF_runAllocated 37 = .ok (.return_, 1) := by decide +kernel
theorem d_AF_same_0 : decode b_AF_same 0 = .ok (.aload_n 0, 1) := by decide +kernel
theorem d_AF_same_1 : decode b_AF_same 1 = .ok (.invokevirtual 88, 3) := by decide +kernel
theorem d_AF_same_4 : decode b_AF_same 4 = .ok (.aload_n 0, 1) := by decide +kernel
theorem d_AF_same_5 : decode b_AF_same 5 = .ok (.iload_n 1, 1) := by decide +kernel
theorem d_AF_same_6 : decode b_AF_same 6 = .ok (.iload_n 2, 1) := by decide +kernel
theorem d_AF_same_7 : decode b_AF_same 7 = .ok (.iload_n 3, 1) := by decide +kernel
theorem d_AF_same_8 : decode b_AF_same 8 = .ok (.iload 4, 2) := by decide +kernel
theorem d_AF_same_10 : decode b_AF_same 10 = .ok (.invokevirtual 118, 3) := by decide +kernel
theorem d_AF_same_13 : decode b_AF_same 13 = .ok (.aload_n 0, 1) := by decide +kernel
theorem d_AF_same_14 : decode b_AF_same 14 = .ok (.iload_n 1, 1) := by decide +kernel
theorem d_AF_same_15 : decode b_AF_same 15 = .ok (.iload_n 2, 1) := by decide +kernel
theorem d_AF_same_16 : decode b_AF_same 16 = .ok (.iload_n 3, 1) := by decide +kernel
theorem d_AF_same_17 : decode b_AF_same 17 = .ok (.iload 4, 2) := by decide +kernel
theorem d_AF_same_19 : decode b_AF_same 19 = .ok (.invokevirtual 125, 3) := by decide +kernel
theorem d_AF_same_22 : decode b_AF_same 22 = .ok (.aload_n 0, 1) := by decide +kernel
theorem d_AF_same_23 : decode b_AF_same 23 = .ok (.aload_n 0, 1) := by decide +kernel
theorem d_AF_same_24 : decode b_AF_same 24 = .ok (.getfield 27, 3) := by decide +kernel
theorem d_AF_same_27 : decode b_AF_same 27 = .ok (.putfield 30, 3) := by decide +kernel
theorem d_AF_same_30 : decode b_AF_same 30 = .ok (.aload_n 0, 1) := by decide +kernel
theorem d_AF_same_31 : decode b_AF_same 31 = .ok (.getfield 27, 3) := by decide +kernel
theorem d_AF_same_34 : decode b_AF_same 34 = .ok (.aload_n 0, 1) := by decide +kernel
theorem d_AF_same_35 : decode b_AF_same 35 = .ok (.getfield 23, 3) := by decide +kernel
theorem d_AF_same_38 : decode b_AF_same 38 = .ok (.invokevirtual 128, 3) := by decide +kernel
theorem d_AF_same_41 : decode b_AF_same 41 = .ok (.ireturn, 1) := by decide +kernel
theorem d_AF_said_0 : decode b_AF_said 0 = .ok (.iload_n 1, 1) := by decide +kernel
theorem d_AF_said_1 : decode b_AF_said 1 = .ok (.ifCond .lt 14, 3) := by decide +kernel
theorem d_AF_said_4 : decode b_AF_said 4 = .ok (.iload_n 1, 1) := by decide +kernel
theorem d_AF_said_5 : decode b_AF_said 5 = .ok (.aload_n 0, 1) := by decide +kernel
theorem d_AF_said_6 : decode b_AF_said 6 = .ok (.getfield 30, 3) := by decide +kernel
theorem d_AF_said_9 : decode b_AF_said 9 = .ok (.invokevirtual 132, 3) := by decide +kernel
theorem d_AF_said_12 : decode b_AF_said 12 = .ok (.if_icmp .lt 13, 3) := by decide +kernel
theorem d_AF_said_15 : decode b_AF_said 15 = .ok (.new 135, 3) := by decide +kernel
theorem d_AF_said_18 : decode b_AF_said 18 = .ok (.dup, 1) := by decide +kernel
theorem d_AF_said_19 : decode b_AF_said 19 = .ok (.ldc 137, 2) := by decide +kernel
theorem d_AF_said_21 : decode b_AF_said 21 = .ok (.invokespecial 139, 3) := by decide +kernel
theorem d_AF_said_24 : decode b_AF_said 24 = .ok (.athrow, 1) := by decide +kernel
theorem d_AF_said_25 : decode b_AF_said 25 = .ok (.aload_n 0, 1) := by decide +kernel
theorem d_AF_said_26 : decode b_AF_said 26 = .ok (.getfield 30, 3) := by decide +kernel
theorem d_AF_said_29 : decode b_AF_said 29 = .ok (.iload_n 1, 1) := by decide +kernel
theorem d_AF_said_30 : decode b_AF_said 30 = .ok (.invokevirtual 140, 3) := by decide +kernel
theorem d_AF_said_33 : decode b_AF_said 33 = .ok (.ireturn, 1) := by decide +kernel
theorem d_AF_count_0 : decode b_AF_count 0 = .ok (.iload_n 1, 1) := by decide +kernel
theorem d_AF_count_1 : decode b_AF_count 1 = .ok (.tableswitch 111 0 7 #[47, 55, 63, 71, 79, 87, 95, 103], 47) := by decide +kernel
theorem d_AF_count_48 : decode b_AF_count 48 = .ok (.aload_n 0, 1) := by decide +kernel
theorem d_AF_count_49 : decode b_AF_count 49 = .ok (.getfield 10, 3) := by decide +kernel
theorem d_AF_count_52 : decode b_AF_count 52 = .ok (.invokevirtual 54, 3) := by decide +kernel
theorem d_AF_count_55 : decode b_AF_count 55 = .ok (.ireturn, 1) := by decide +kernel
theorem d_AF_count_56 : decode b_AF_count 56 = .ok (.aload_n 0, 1) := by decide +kernel
theorem d_AF_count_57 : decode b_AF_count 57 = .ok (.getfield 10, 3) := by decide +kernel
theorem d_AF_count_60 : decode b_AF_count 60 = .ok (.invokevirtual 143, 3) := by decide +kernel
theorem d_AF_count_63 : decode b_AF_count 63 = .ok (.ireturn, 1) := by decide +kernel
theorem d_AF_count_64 : decode b_AF_count 64 = .ok (.aload_n 0, 1) := by decide +kernel
theorem d_AF_count_65 : decode b_AF_count 65 = .ok (.getfield 30, 3) := by decide +kernel
theorem d_AF_count_68 : decode b_AF_count 68 = .ok (.invokevirtual 132, 3) := by decide +kernel
theorem d_AF_count_71 : decode b_AF_count 71 = .ok (.ireturn, 1) := by decide +kernel
theorem d_AF_count_72 : decode b_AF_count 72 = .ok (.aload_n 0, 1) := by decide +kernel
theorem d_AF_count_73 : decode b_AF_count 73 = .ok (.getfield 36, 3) := by decide +kernel
theorem d_AF_count_76 : decode b_AF_count 76 = .ok (.invokevirtual 146, 3) := by decide +kernel
theorem d_AF_count_79 : decode b_AF_count 79 = .ok (.ireturn, 1) := by decide +kernel
theorem d_AF_count_80 : decode b_AF_count 80 = .ok (.aload_n 0, 1) := by decide +kernel
theorem d_AF_count_81 : decode b_AF_count 81 = .ok (.getfield 36, 3) := by decide +kernel
theorem d_AF_count_84 : decode b_AF_count 84 = .ok (.invokevirtual 149, 3) := by decide +kernel
theorem d_AF_count_87 : decode b_AF_count 87 = .ok (.ireturn, 1) := by decide +kernel
theorem d_AF_count_88 : decode b_AF_count 88 = .ok (.aload_n 0, 1) := by decide +kernel
theorem d_AF_count_89 : decode b_AF_count 89 = .ok (.getfield 36, 3) := by decide +kernel
theorem d_AF_count_92 : decode b_AF_count 92 = .ok (.invokevirtual 152, 3) := by decide +kernel
theorem d_AF_count_95 : decode b_AF_count 95 = .ok (.ireturn, 1) := by decide +kernel
theorem d_AF_count_96 : decode b_AF_count 96 = .ok (.aload_n 0, 1) := by decide +kernel
theorem d_AF_count_97 : decode b_AF_count 97 = .ok (.getfield 36, 3) := by decide +kernel
theorem d_AF_count_100 : decode b_AF_count 100 = .ok (.invokevirtual 155, 3) := by decide +kernel
theorem d_AF_count_103 : decode b_AF_count 103 = .ok (.ireturn, 1) := by decide +kernel
theorem d_AF_count_104 : decode b_AF_count 104 = .ok (.aload_n 0, 1) := by decide +kernel
theorem d_AF_count_105 : decode b_AF_count 105 = .ok (.getfield 36, 3) := by decide +kernel
theorem d_AF_count_108 : decode b_AF_count 108 = .ok (.invokevirtual 158, 3) := by decide +kernel
theorem d_AF_count_111 : decode b_AF_count 111 = .ok (.ireturn, 1) := by decide +kernel
theorem d_AF_count_112 : decode b_AF_count 112 = .ok (.new 47, 3) := by decide +kernel
theorem d_AF_count_115 : decode b_AF_count 115 = .ok (.dup, 1) := by decide +kernel
theorem d_AF_count_116 : decode b_AF_count 116 = .ok (.ldc 161, 2) := by decide +kernel
theorem d_AF_count_118 : decode b_AF_count 118 = .ok (.invokespecial 51, 3) := by decide +kernel
theorem d_AF_count_121 : decode b_AF_count 121 = .ok (.athrow, 1) := by decide +kernel
theorem d_Mo_init_0 : decode b_Mo_init 0 = .ok (.aload_n 0, 1) := by decide +kernel
theorem d_Mo_init_1 : decode b_Mo_init 1 = .ok (.invokespecial 1, 3) := by decide +kernel
theorem d_Mo_init_4 : decode b_Mo_init 4 = .ok (.aload_n 0, 1) := by decide +kernel
theorem d_Mo_init_5 : decode b_Mo_init 5 = .ok (.bipush 24, 2) := by decide +kernel
theorem d_Mo_init_7 : decode b_Mo_init 7 = .ok (.newarray .int, 2) := by decide +kernel
theorem d_Mo_init_9 : decode b_Mo_init 9 = .ok (.putfield 7, 3) := by decide +kernel
theorem d_Mo_init_12 : decode b_Mo_init 12 = .ok (.aload_n 0, 1) := by decide +kernel
theorem d_Mo_init_13 : decode b_Mo_init 13 = .ok (.bipush 24, 2) := by decide +kernel
theorem d_Mo_init_15 : decode b_Mo_init 15 = .ok (.newarray .int, 2) := by decide +kernel
theorem d_Mo_init_17 : decode b_Mo_init 17 = .ok (.putfield 13, 3) := by decide +kernel
theorem d_Mo_init_20 : decode b_Mo_init 20 = .ok (.aload_n 0, 1) := by decide +kernel
theorem d_Mo_init_21 : decode b_Mo_init 21 = .ok (.bipush 24, 2) := by decide +kernel
theorem d_Mo_init_23 : decode b_Mo_init 23 = .ok (.newarray .int, 2) := by decide +kernel
theorem d_Mo_init_25 : decode b_Mo_init 25 = .ok (.putfield 16, 3) := by decide +kernel
theorem d_Mo_init_28 : decode b_Mo_init 28 = .ok (.aload_n 0, 1) := by decide +kernel
theorem d_Mo_init_29 : decode b_Mo_init 29 = .ok (.bipush 24, 2) := by decide +kernel
theorem d_Mo_init_31 : decode b_Mo_init 31 = .ok (.newarray .int, 2) := by decide +kernel
theorem d_Mo_init_33 : decode b_Mo_init 33 = .ok (.putfield 19, 3) := by decide +kernel
theorem d_Mo_init_36 : decode b_Mo_init 36 = .ok (.aload_n 0, 1) := by decide +kernel
theorem d_Mo_init_37 : decode b_Mo_init 37 = .ok (.bipush 24, 2) := by decide +kernel
theorem d_Mo_init_39 : decode b_Mo_init 39 = .ok (.newarray .int, 2) := by decide +kernel
theorem d_Mo_init_41 : decode b_Mo_init 41 = .ok (.putfield 22, 3) := by decide +kernel
theorem d_Mo_init_44 : decode b_Mo_init 44 = .ok (.aload_n 0, 1) := by decide +kernel
theorem d_Mo_init_45 : decode b_Mo_init 45 = .ok (.bipush 24, 2) := by decide +kernel
theorem d_Mo_init_47 : decode b_Mo_init 47 = .ok (.newarray .int, 2) := by decide +kernel
theorem d_Mo_init_49 : decode b_Mo_init 49 = .ok (.putfield 25, 3) := by decide +kernel
theorem d_Mo_init_52 : decode b_Mo_init 52 = .ok (.aload_n 0, 1) := by decide +kernel
theorem d_Mo_init_53 : decode b_Mo_init 53 = .ok (.bipush 24, 2) := by decide +kernel
theorem d_Mo_init_55 : decode b_Mo_init 55 = .ok (.newarray .int, 2) := by decide +kernel
theorem d_Mo_init_57 : decode b_Mo_init 57 = .ok (.putfield 28, 3) := by decide +kernel
theorem d_Mo_init_60 : decode b_Mo_init 60 = .ok (.aload_n 0, 1) := by decide +kernel
theorem d_Mo_init_61 : decode b_Mo_init 61 = .ok (.bipush 16, 2) := by decide +kernel
theorem d_Mo_init_63 : decode b_Mo_init 63 = .ok (.newarray .int, 2) := by decide +kernel
theorem d_Mo_init_65 : decode b_Mo_init 65 = .ok (.putfield 31, 3) := by decide +kernel
theorem d_Mo_init_68 : decode b_Mo_init 68 = .ok (.aload_n 0, 1) := by decide +kernel
theorem d_Mo_init_69 : decode b_Mo_init 69 = .ok (.bipush 24, 2) := by decide +kernel
theorem d_Mo_init_71 : decode b_Mo_init 71 = .ok (.newarray .int, 2) := by decide +kernel
theorem d_Mo_init_73 : decode b_Mo_init 73 = .ok (.putfield 34, 3) := by decide +kernel
theorem d_Mo_init_76 : decode b_Mo_init 76 = .ok (.aload_n 0, 1) := by decide +kernel
theorem d_Mo_init_77 : decode b_Mo_init 77 = .ok (.bipush 24, 2) := by decide +kernel
theorem d_Mo_init_79 : decode b_Mo_init 79 = .ok (.newarray .int, 2) := by decide +kernel
theorem d_Mo_init_81 : decode b_Mo_init 81 = .ok (.putfield 37, 3) := by decide +kernel
theorem d_Mo_init_84 : decode b_Mo_init 84 = .ok (.return_, 1) := by decide +kernel
theorem d_Mo_thrown_0 : decode b_Mo_thrown 0 = .ok (.aload_n 0, 1) := by decide +kernel
theorem d_Mo_thrown_1 : decode b_Mo_thrown 1 = .ok (.getfield 40, 3) := by decide +kernel
theorem d_Mo_thrown_4 : decode b_Mo_thrown 4 = .ok (.ireturn, 1) := by decide +kernel
theorem d_Mo_add_0 : decode b_Mo_add 0 = .ok (.iload_n 1, 1) := by decide +kernel
theorem d_Mo_add_1 : decode b_Mo_add 1 = .ok (.iconst 0, 1) := by decide +kernel
theorem d_Mo_add_2 : decode b_Mo_add 2 = .ok (.bipush 7, 2) := by decide +kernel
theorem d_Mo_add_4 : decode b_Mo_add 4 = .ok (.invokestatic 47, 3) := by decide +kernel
theorem d_Mo_add_7 : decode b_Mo_add 7 = .ok (.ifCond .eq 55, 3) := by decide +kernel
theorem d_Mo_add_10 : decode b_Mo_add 10 = .ok (.iload 4, 2) := by decide +kernel
theorem d_Mo_add_12 : decode b_Mo_add 12 = .ok (.iconst 0, 1) := by decide +kernel
theorem d_Mo_add_13 : decode b_Mo_add 13 = .ok (.iconst 3, 1) := by decide +kernel
theorem d_Mo_add_14 : decode b_Mo_add 14 = .ok (.invokestatic 47, 3) := by decide +kernel
theorem d_Mo_add_17 : decode b_Mo_add 17 = .ok (.ifCond .eq 45, 3) := by decide +kernel
theorem d_Mo_add_20 : decode b_Mo_add 20 = .ok (.iload_n 1, 1) := by decide +kernel
theorem d_Mo_add_21 : decode b_Mo_add 21 = .ok (.iconst 1, 1) := by decide +kernel
theorem d_Mo_add_22 : decode b_Mo_add 22 = .ok (.if_icmp .ne 12, 3) := by decide +kernel
theorem d_Mo_add_25 : decode b_Mo_add 25 = .ok (.iload_n 2, 1) := by decide +kernel
theorem d_Mo_add_26 : decode b_Mo_add 26 = .ok (.iconst 0, 1) := by decide +kernel
theorem d_Mo_add_27 : decode b_Mo_add 27 = .ok (.iconst 3, 1) := by decide +kernel
theorem d_Mo_add_28 : decode b_Mo_add 28 = .ok (.invokestatic 47, 3) := by decide +kernel
theorem d_Mo_add_31 : decode b_Mo_add 31 = .ok (.ifCond .eq 31, 3) := by decide +kernel
theorem d_Mo_add_34 : decode b_Mo_add 34 = .ok (.iload_n 1, 1) := by decide +kernel
theorem d_Mo_add_35 : decode b_Mo_add 35 = .ok (.iconst 1, 1) := by decide +kernel
theorem d_Mo_add_36 : decode b_Mo_add 36 = .ok (.if_icmp .le 11, 3) := by decide +kernel
theorem d_Mo_add_39 : decode b_Mo_add 39 = .ok (.aload_n 0, 1) := by decide +kernel
theorem d_Mo_add_40 : decode b_Mo_add 40 = .ok (.iload_n 2, 1) := by decide +kernel
theorem d_Mo_add_41 : decode b_Mo_add 41 = .ok (.invokevirtual 51, 3) := by decide +kernel
theorem d_Mo_add_44 : decode b_Mo_add 44 = .ok (.ifCond .eq 18, 3) := by decide +kernel
theorem d_Mo_add_47 : decode b_Mo_add 47 = .ok (.iload_n 1, 1) := by decide +kernel
theorem d_Mo_add_48 : decode b_Mo_add 48 = .ok (.invokestatic 55, 3) := by decide +kernel
theorem d_Mo_add_51 : decode b_Mo_add 51 = .ok (.ifCond .eq 17, 3) := by decide +kernel
theorem d_Mo_add_54 : decode b_Mo_add 54 = .ok (.aload_n 0, 1) := by decide +kernel
theorem d_Mo_add_55 : decode b_Mo_add 55 = .ok (.iload_n 3, 1) := by decide +kernel
theorem d_Mo_add_56 : decode b_Mo_add 56 = .ok (.invokevirtual 51, 3) := by decide +kernel
theorem d_Mo_add_59 : decode b_Mo_add 59 = .ok (.ifCond .ne 9, 3) := by decide +kernel
theorem d_Mo_add_62 : decode b_Mo_add 62 = .ok (.aload_n 0, 1) := by decide +kernel
theorem d_Mo_add_63 : decode b_Mo_add 63 = .ok (.iconst 1, 1) := by decide +kernel
theorem d_Mo_add_64 : decode b_Mo_add 64 = .ok (.invokevirtual 58, 3) := by decide +kernel
theorem d_Mo_add_67 : decode b_Mo_add 67 = .ok (.ireturn, 1) := by decide +kernel
theorem d_Mo_add_68 : decode b_Mo_add 68 = .ok (.aload_n 0, 1) := by decide +kernel
theorem d_Mo_add_69 : decode b_Mo_add 69 = .ok (.getfield 44, 3) := by decide +kernel
theorem d_Mo_add_72 : decode b_Mo_add 72 = .ok (.bipush 24, 2) := by decide +kernel
theorem d_Mo_add_74 : decode b_Mo_add 74 = .ok (.if_icmp .ne 9, 3) := by decide +kernel
theorem d_Mo_add_77 : decode b_Mo_add 77 = .ok (.aload_n 0, 1) := by decide +kernel
theorem d_Mo_add_78 : decode b_Mo_add 78 = .ok (.iconst 2, 1) := by decide +kernel
theorem d_Mo_add_79 : decode b_Mo_add 79 = .ok (.invokevirtual 58, 3) := by decide +kernel
theorem d_Mo_add_82 : decode b_Mo_add 82 = .ok (.ireturn, 1) := by decide +kernel
theorem d_Mo_add_83 : decode b_Mo_add 83 = .ok (.aload_n 0, 1) := by decide +kernel
theorem d_Mo_add_84 : decode b_Mo_add 84 = .ok (.iconst 0, 1) := by decide +kernel
theorem d_Mo_add_85 : decode b_Mo_add 85 = .ok (.putfield 40, 3) := by decide +kernel
theorem d_Mo_add_88 : decode b_Mo_add 88 = .ok (.aload_n 0, 1) := by decide +kernel
theorem d_Mo_add_89 : decode b_Mo_add 89 = .ok (.getfield 7, 3) := by decide +kernel
theorem d_Mo_add_92 : decode b_Mo_add 92 = .ok (.aload_n 0, 1) := by decide +kernel
theorem d_Mo_add_93 : decode b_Mo_add 93 = .ok (.getfield 44, 3) := by decide +kernel
theorem d_Mo_add_96 : decode b_Mo_add 96 = .ok (.iload_n 1, 1) := by decide +kernel
theorem d_Mo_add_97 : decode b_Mo_add 97 = .ok (.iastore, 1) := by decide +kernel
theorem d_Mo_add_98 : decode b_Mo_add 98 = .ok (.aload_n 0, 1) := by decide +kernel
theorem d_Mo_add_99 : decode b_Mo_add 99 = .ok (.getfield 13, 3) := by decide +kernel
theorem d_Mo_add_102 : decode b_Mo_add 102 = .ok (.aload_n 0, 1) := by decide +kernel
theorem d_Mo_add_103 : decode b_Mo_add 103 = .ok (.getfield 44, 3) := by decide +kernel
theorem d_Mo_add_106 : decode b_Mo_add 106 = .ok (.iload_n 2, 1) := by decide +kernel
theorem d_Mo_add_107 : decode b_Mo_add 107 = .ok (.iastore, 1) := by decide +kernel
theorem d_Mo_add_108 : decode b_Mo_add 108 = .ok (.aload_n 0, 1) := by decide +kernel
theorem d_Mo_add_109 : decode b_Mo_add 109 = .ok (.getfield 16, 3) := by decide +kernel
theorem d_Mo_add_112 : decode b_Mo_add 112 = .ok (.aload_n 0, 1) := by decide +kernel
theorem d_Mo_add_113 : decode b_Mo_add 113 = .ok (.getfield 44, 3) := by decide +kernel
theorem d_Mo_add_116 : decode b_Mo_add 116 = .ok (.iload_n 3, 1) := by decide +kernel
theorem d_Mo_add_117 : decode b_Mo_add 117 = .ok (.iastore, 1) := by decide +kernel
theorem d_Mo_add_118 : decode b_Mo_add 118 = .ok (.aload_n 0, 1) := by decide +kernel
theorem d_Mo_add_119 : decode b_Mo_add 119 = .ok (.getfield 19, 3) := by decide +kernel
theorem d_Mo_add_122 : decode b_Mo_add 122 = .ok (.aload_n 0, 1) := by decide +kernel
theorem d_Mo_add_123 : decode b_Mo_add 123 = .ok (.getfield 44, 3) := by decide +kernel
theorem d_Mo_add_126 : decode b_Mo_add 126 = .ok (.iload 4, 2) := by decide +kernel
theorem d_Mo_add_128 : decode b_Mo_add 128 = .ok (.iastore, 1) := by decide +kernel
theorem d_Mo_add_129 : decode b_Mo_add 129 = .ok (.aload_n 0, 1) := by decide +kernel
theorem d_Mo_add_130 : decode b_Mo_add 130 = .ok (.dup, 1) := by decide +kernel
theorem d_Mo_add_131 : decode b_Mo_add 131 = .ok (.getfield 44, 3) := by decide +kernel
theorem d_Mo_add_134 : decode b_Mo_add 134 = .ok (.iconst 1, 1) := by decide +kernel
theorem d_Mo_add_135 : decode b_Mo_add 135 = .ok (.iadd, 1) := by decide +kernel
theorem d_Mo_add_136 : decode b_Mo_add 136 = .ok (.putfield 44, 3) := by decide +kernel
theorem d_Mo_add_139 : decode b_Mo_add 139 = .ok (.aload_n 0, 1) := by decide +kernel
theorem d_Mo_add_140 : decode b_Mo_add 140 = .ok (.iconst 0, 1) := by decide +kernel
theorem d_Mo_add_141 : decode b_Mo_add 141 = .ok (.putfield 62, 3) := by decide +kernel
theorem d_Mo_add_144 : decode b_Mo_add 144 = .ok (.aload_n 0, 1) := by decide +kernel
theorem d_Mo_add_145 : decode b_Mo_add 145 = .ok (.getfield 44, 3) := by decide +kernel
theorem d_Mo_add_148 : decode b_Mo_add 148 = .ok (.ireturn, 1) := by decide +kernel
theorem d_Mo_in_0 : decode b_Mo_in 0 = .ok (.iload_n 0, 1) := by decide +kernel
theorem d_Mo_in_1 : decode b_Mo_in 1 = .ok (.iload_n 1, 1) := by decide +kernel
theorem d_Mo_in_2 : decode b_Mo_in 2 = .ok (.if_icmp .lt 12, 3) := by decide +kernel
theorem d_Mo_in_5 : decode b_Mo_in 5 = .ok (.iload_n 0, 1) := by decide +kernel
theorem d_Mo_in_6 : decode b_Mo_in 6 = .ok (.iload_n 2, 1) := by decide +kernel
theorem d_Mo_in_7 : decode b_Mo_in 7 = .ok (.if_icmp .gt 7, 3) := by decide +kernel
theorem d_Mo_in_10 : decode b_Mo_in 10 = .ok (.iconst 1, 1) := by decide +kernel
theorem d_Mo_in_11 : decode b_Mo_in 11 = .ok (.goto 4, 3) := by decide +kernel
theorem d_Mo_in_14 : decode b_Mo_in 14 = .ok (.iconst 0, 1) := by decide +kernel
theorem d_Mo_in_15 : decode b_Mo_in 15 = .ok (.ireturn, 1) := by decide +kernel
theorem d_Mo_isValue_0 : decode b_Mo_isValue 0 = .ok (.iload_n 1, 1) := by decide +kernel
theorem d_Mo_isValue_1 : decode b_Mo_isValue 1 = .ok (.iconst 0, 1) := by decide +kernel
theorem d_Mo_isValue_2 : decode b_Mo_isValue 2 = .ok (.aload_n 0, 1) := by decide +kernel
theorem d_Mo_isValue_3 : decode b_Mo_isValue 3 = .ok (.getfield 44, 3) := by decide +kernel
theorem d_Mo_isValue_6 : decode b_Mo_isValue 6 = .ok (.iconst 1, 1) := by decide +kernel
theorem d_Mo_isValue_7 : decode b_Mo_isValue 7 = .ok (.isub, 1) := by decide +kernel
theorem d_Mo_isValue_8 : decode b_Mo_isValue 8 = .ok (.invokestatic 47, 3) := by decide +kernel
theorem d_Mo_isValue_11 : decode b_Mo_isValue 11 = .ok (.ifCond .eq 18, 3) := by decide +kernel
theorem d_Mo_isValue_14 : decode b_Mo_isValue 14 = .ok (.aload_n 0, 1) := by decide +kernel
theorem d_Mo_isValue_15 : decode b_Mo_isValue 15 = .ok (.getfield 7, 3) := by decide +kernel
theorem d_Mo_isValue_18 : decode b_Mo_isValue 18 = .ok (.iload_n 1, 1) := by decide +kernel
theorem d_Mo_isValue_19 : decode b_Mo_isValue 19 = .ok (.iaload, 1) := by decide +kernel
theorem d_Mo_isValue_20 : decode b_Mo_isValue 20 = .ok (.bipush 6, 2) := by decide +kernel
theorem d_Mo_isValue_22 : decode b_Mo_isValue 22 = .ok (.if_icmp .eq 7, 3) := by decide +kernel
theorem d_Mo_isValue_25 : decode b_Mo_isValue 25 = .ok (.iconst 1, 1) := by decide +kernel
theorem d_Mo_isValue_26 : decode b_Mo_isValue 26 = .ok (.goto 4, 3) := by decide +kernel
theorem d_Mo_isValue_29 : decode b_Mo_isValue 29 = .ok (.iconst 0, 1) := by decide +kernel
theorem d_Mo_isValue_30 : decode b_Mo_isValue 30 = .ok (.ireturn, 1) := by decide +kernel
theorem d_Mo_isSum_0 : decode b_Mo_isSum 0 = .ok (.iload_n 0, 1) := by decide +kernel
theorem d_Mo_isSum_1 : decode b_Mo_isSum 1 = .ok (.iconst 2, 1) := by decide +kernel
theorem d_Mo_isSum_2 : decode b_Mo_isSum 2 = .ok (.iconst 5, 1) := by decide +kernel
theorem d_Mo_isSum_3 : decode b_Mo_isSum 3 = .ok (.invokestatic 47, 3) := by decide +kernel
theorem d_Mo_isSum_6 : decode b_Mo_isSum 6 = .ok (.ireturn, 1) := by decide +kernel
theorem d_Mo_fail_0 : decode b_Mo_fail 0 = .ok (.aload_n 0, 1) := by decide +kernel
theorem d_Mo_fail_1 : decode b_Mo_fail 1 = .ok (.iload_n 1, 1) := by decide +kernel
theorem d_Mo_fail_2 : decode b_Mo_fail 2 = .ok (.putfield 40, 3) := by decide +kernel
theorem d_Mo_fail_5 : decode b_Mo_fail 5 = .ok (.iconst 0, 1) := by decide +kernel
theorem d_Mo_fail_6 : decode b_Mo_fail 6 = .ok (.ireturn, 1) := by decide +kernel
theorem d_Mo_clear_0 : decode b_Mo_clear 0 = .ok (.aload_n 0, 1) := by decide +kernel
theorem d_Mo_clear_1 : decode b_Mo_clear 1 = .ok (.iconst 0, 1) := by decide +kernel
theorem d_Mo_clear_2 : decode b_Mo_clear 2 = .ok (.putfield 40, 3) := by decide +kernel
theorem d_Mo_clear_5 : decode b_Mo_clear 5 = .ok (.aload_n 0, 1) := by decide +kernel
theorem d_Mo_clear_6 : decode b_Mo_clear 6 = .ok (.getfield 44, 3) := by decide +kernel
theorem d_Mo_clear_9 : decode b_Mo_clear 9 = .ok (.istore_n 1, 1) := by decide +kernel
theorem d_Mo_clear_10 : decode b_Mo_clear 10 = .ok (.aload_n 0, 1) := by decide +kernel
theorem d_Mo_clear_11 : decode b_Mo_clear 11 = .ok (.iconst 0, 1) := by decide +kernel
theorem d_Mo_clear_12 : decode b_Mo_clear 12 = .ok (.putfield 44, 3) := by decide +kernel
theorem d_Mo_clear_15 : decode b_Mo_clear 15 = .ok (.aload_n 0, 1) := by decide +kernel
theorem d_Mo_clear_16 : decode b_Mo_clear 16 = .ok (.iconst 0, 1) := by decide +kernel
theorem d_Mo_clear_17 : decode b_Mo_clear 17 = .ok (.putfield 62, 3) := by decide +kernel
theorem d_Mo_clear_20 : decode b_Mo_clear 20 = .ok (.iload_n 1, 1) := by decide +kernel
theorem d_Mo_clear_21 : decode b_Mo_clear 21 = .ok (.ireturn, 1) := by decide +kernel
theorem d_Mo_allocate_0 : decode b_Mo_allocate 0 = .ok (.iload_n 1, 1) := by decide +kernel
theorem d_Mo_allocate_1 : decode b_Mo_allocate 1 = .ok (.iconst 1, 1) := by decide +kernel
theorem d_Mo_allocate_2 : decode b_Mo_allocate 2 = .ok (.iconst 5, 1) := by decide +kernel
theorem d_Mo_allocate_3 : decode b_Mo_allocate 3 = .ok (.invokestatic 47, 3) := by decide +kernel
theorem d_Mo_allocate_6 : decode b_Mo_allocate 6 = .ok (.ifCond .ne 9, 3) := by decide +kernel
theorem d_Mo_allocate_9 : decode b_Mo_allocate 9 = .ok (.aload_n 0, 1) := by decide +kernel
theorem d_Mo_allocate_10 : decode b_Mo_allocate 10 = .ok (.iconst 1, 1) := by decide +kernel
theorem d_Mo_allocate_11 : decode b_Mo_allocate 11 = .ok (.invokevirtual 58, 3) := by decide +kernel
theorem d_Mo_allocate_14 : decode b_Mo_allocate 14 = .ok (.ireturn, 1) := by decide +kernel
theorem d_Mo_allocate_15 : decode b_Mo_allocate 15 = .ok (.iconst 0, 1) := by decide +kernel
theorem d_Mo_allocate_16 : decode b_Mo_allocate 16 = .ok (.istore_n 2, 1) := by decide +kernel
theorem d_Mo_allocate_17 : decode b_Mo_allocate 17 = .ok (.iload_n 2, 1) := by decide +kernel
theorem d_Mo_allocate_18 : decode b_Mo_allocate 18 = .ok (.aload_n 0, 1) := by decide +kernel
theorem d_Mo_allocate_19 : decode b_Mo_allocate 19 = .ok (.getfield 44, 3) := by decide +kernel
theorem d_Mo_allocate_22 : decode b_Mo_allocate 22 = .ok (.if_icmp .ge 16, 3) := by decide +kernel
theorem d_Mo_allocate_25 : decode b_Mo_allocate 25 = .ok (.aload_n 0, 1) := by decide +kernel
theorem d_Mo_allocate_26 : decode b_Mo_allocate 26 = .ok (.getfield 25, 3) := by decide +kernel
theorem d_Mo_allocate_29 : decode b_Mo_allocate 29 = .ok (.iload_n 2, 1) := by decide +kernel
theorem d_Mo_allocate_30 : decode b_Mo_allocate 30 = .ok (.iconst (-1), 1) := by decide +kernel
theorem d_Mo_allocate_31 : decode b_Mo_allocate 31 = .ok (.iastore, 1) := by decide +kernel
theorem d_Mo_allocate_32 : decode b_Mo_allocate 32 = .ok (.iinc 2 1, 3) := by decide +kernel
theorem d_Mo_allocate_35 : decode b_Mo_allocate 35 = .ok (.goto (-18), 3) := by decide +kernel
theorem d_Mo_allocate_38 : decode b_Mo_allocate 38 = .ok (.aload_n 0, 1) := by decide +kernel
theorem d_Mo_allocate_39 : decode b_Mo_allocate 39 = .ok (.iconst 0, 1) := by decide +kernel
theorem d_Mo_allocate_40 : decode b_Mo_allocate 40 = .ok (.putfield 101, 3) := by decide +kernel
theorem d_Mo_allocate_43 : decode b_Mo_allocate 43 = .ok (.aload_n 0, 1) := by decide +kernel
theorem d_Mo_allocate_44 : decode b_Mo_allocate 44 = .ok (.invokevirtual 104, 3) := by decide +kernel
theorem d_Mo_allocate_47 : decode b_Mo_allocate 47 = .ok (.istore_n 2, 1) := by decide +kernel
theorem d_Mo_allocate_48 : decode b_Mo_allocate 48 = .ok (.iconst 0, 1) := by decide +kernel
theorem d_Mo_allocate_49 : decode b_Mo_allocate 49 = .ok (.istore_n 3, 1) := by decide +kernel
theorem d_Mo_allocate_50 : decode b_Mo_allocate 50 = .ok (.iload_n 2, 1) := by decide +kernel
theorem d_Mo_allocate_51 : decode b_Mo_allocate 51 = .ok (.ifCond .lt 30, 3) := by decide +kernel
theorem d_Mo_allocate_54 : decode b_Mo_allocate 54 = .ok (.aload_n 0, 1) := by decide +kernel
theorem d_Mo_allocate_55 : decode b_Mo_allocate 55 = .ok (.iload_n 2, 1) := by decide +kernel
theorem d_Mo_allocate_56 : decode b_Mo_allocate 56 = .ok (.iload_n 1, 1) := by decide +kernel
theorem d_Mo_allocate_57 : decode b_Mo_allocate 57 = .ok (.invokevirtual 108, 3) := by decide +kernel
theorem d_Mo_allocate_60 : decode b_Mo_allocate 60 = .ok (.istore 4, 2) := by decide +kernel
theorem d_Mo_allocate_62 : decode b_Mo_allocate 62 = .ok (.iload 4, 2) := by decide +kernel
theorem d_Mo_allocate_64 : decode b_Mo_allocate 64 = .ok (.ifCond .ne 9, 3) := by decide +kernel
theorem d_Mo_allocate_67 : decode b_Mo_allocate 67 = .ok (.aload_n 0, 1) := by decide +kernel
theorem d_Mo_allocate_68 : decode b_Mo_allocate 68 = .ok (.iconst 2, 1) := by decide +kernel
theorem d_Mo_allocate_69 : decode b_Mo_allocate 69 = .ok (.invokevirtual 58, 3) := by decide +kernel
theorem d_Mo_allocate_72 : decode b_Mo_allocate 72 = .ok (.ireturn, 1) := by decide +kernel
theorem d_Mo_allocate_73 : decode b_Mo_allocate 73 = .ok (.aload_n 0, 1) := by decide +kernel
theorem d_Mo_allocate_74 : decode b_Mo_allocate 74 = .ok (.invokevirtual 104, 3) := by decide +kernel
theorem d_Mo_allocate_77 : decode b_Mo_allocate 77 = .ok (.istore_n 2, 1) := by decide +kernel
theorem d_Mo_allocate_78 : decode b_Mo_allocate 78 = .ok (.goto (-28), 3) := by decide +kernel
theorem d_Mo_allocate_81 : decode b_Mo_allocate 81 = .ok (.aload_n 0, 1) := by decide +kernel
theorem d_Mo_allocate_82 : decode b_Mo_allocate 82 = .ok (.iconst 0, 1) := by decide +kernel
theorem d_Mo_allocate_83 : decode b_Mo_allocate 83 = .ok (.putfield 40, 3) := by decide +kernel
theorem d_Mo_allocate_86 : decode b_Mo_allocate 86 = .ok (.aload_n 0, 1) := by decide +kernel
theorem d_Mo_allocate_87 : decode b_Mo_allocate 87 = .ok (.iconst 1, 1) := by decide +kernel
theorem d_Mo_allocate_88 : decode b_Mo_allocate 88 = .ok (.putfield 62, 3) := by decide +kernel
theorem d_Mo_allocate_91 : decode b_Mo_allocate 91 = .ok (.aload_n 0, 1) := by decide +kernel
theorem d_Mo_allocate_92 : decode b_Mo_allocate 92 = .ok (.aload_n 0, 1) := by decide +kernel
theorem d_Mo_allocate_93 : decode b_Mo_allocate 93 = .ok (.getfield 101, 3) := by decide +kernel
theorem d_Mo_allocate_96 : decode b_Mo_allocate 96 = .ok (.putfield 111, 3) := by decide +kernel
theorem d_Mo_allocate_99 : decode b_Mo_allocate 99 = .ok (.aload_n 0, 1) := by decide +kernel
theorem d_Mo_allocate_100 : decode b_Mo_allocate 100 = .ok (.iload_n 1, 1) := by decide +kernel
theorem d_Mo_allocate_101 : decode b_Mo_allocate 101 = .ok (.putfield 114, 3) := by decide +kernel
theorem d_Mo_allocate_104 : decode b_Mo_allocate 104 = .ok (.iconst 0, 1) := by decide +kernel
theorem d_Mo_allocate_105 : decode b_Mo_allocate 105 = .ok (.istore 4, 2) := by decide +kernel
theorem d_Mo_allocate_107 : decode b_Mo_allocate 107 = .ok (.iload 4, 2) := by decide +kernel
theorem d_Mo_allocate_109 : decode b_Mo_allocate 109 = .ok (.aload_n 0, 1) := by decide +kernel
theorem d_Mo_allocate_110 : decode b_Mo_allocate 110 = .ok (.getfield 44, 3) := by decide +kernel
theorem d_Mo_allocate_113 : decode b_Mo_allocate 113 = .ok (.if_icmp .ge 50, 3) := by decide +kernel
theorem d_Mo_allocate_116 : decode b_Mo_allocate 116 = .ok (.aload_n 0, 1) := by decide +kernel
theorem d_Mo_allocate_117 : decode b_Mo_allocate 117 = .ok (.getfield 22, 3) := by decide +kernel
theorem d_Mo_allocate_120 : decode b_Mo_allocate 120 = .ok (.iload 4, 2) := by decide +kernel
theorem d_Mo_allocate_122 : decode b_Mo_allocate 122 = .ok (.aload_n 0, 1) := by decide +kernel
theorem d_Mo_allocate_123 : decode b_Mo_allocate 123 = .ok (.getfield 25, 3) := by decide +kernel
theorem d_Mo_allocate_126 : decode b_Mo_allocate 126 = .ok (.iload 4, 2) := by decide +kernel
theorem d_Mo_allocate_128 : decode b_Mo_allocate 128 = .ok (.iaload, 1) := by decide +kernel
theorem d_Mo_allocate_129 : decode b_Mo_allocate 129 = .ok (.iastore, 1) := by decide +kernel
theorem d_Mo_allocate_130 : decode b_Mo_allocate 130 = .ok (.aload_n 0, 1) := by decide +kernel
theorem d_Mo_allocate_131 : decode b_Mo_allocate 131 = .ok (.getfield 7, 3) := by decide +kernel
theorem d_Mo_allocate_134 : decode b_Mo_allocate 134 = .ok (.iload 4, 2) := by decide +kernel
theorem d_Mo_allocate_136 : decode b_Mo_allocate 136 = .ok (.iaload, 1) := by decide +kernel
theorem d_Mo_allocate_137 : decode b_Mo_allocate 137 = .ok (.bipush 6, 2) := by decide +kernel
theorem d_Mo_allocate_139 : decode b_Mo_allocate 139 = .ok (.if_icmp .eq 18, 3) := by decide +kernel
theorem d_Mo_allocate_142 : decode b_Mo_allocate 142 = .ok (.aload_n 0, 1) := by decide +kernel
theorem d_Mo_allocate_143 : decode b_Mo_allocate 143 = .ok (.getfield 25, 3) := by decide +kernel
theorem d_Mo_allocate_146 : decode b_Mo_allocate 146 = .ok (.iload 4, 2) := by decide +kernel
theorem d_Mo_allocate_148 : decode b_Mo_allocate 148 = .ok (.iaload, 1) := by decide +kernel
theorem d_Mo_allocate_149 : decode b_Mo_allocate 149 = .ok (.bipush 10, 2) := by decide +kernel
theorem d_Mo_allocate_151 : decode b_Mo_allocate 151 = .ok (.if_icmp .ge 6, 3) := by decide +kernel
theorem d_Mo_allocate_154 : decode b_Mo_allocate 154 = .ok (.iinc 3 1, 3) := by decide +kernel
theorem d_Mo_allocate_157 : decode b_Mo_allocate 157 = .ok (.iinc 4 1, 3) := by decide +kernel
theorem d_Mo_allocate_160 : decode b_Mo_allocate 160 = .ok (.goto (-53), 3) := by decide +kernel
theorem d_Mo_allocate_163 : decode b_Mo_allocate 163 = .ok (.iload_n 3, 1) := by decide +kernel
theorem d_Mo_allocate_164 : decode b_Mo_allocate 164 = .ok (.ireturn, 1) := by decide +kernel
theorem d_Mo_next_0 : decode b_Mo_next 0 = .ok (.iconst (-1), 1) := by decide +kernel
theorem d_Mo_next_1 : decode b_Mo_next 1 = .ok (.istore_n 1, 1) := by decide +kernel
theorem d_Mo_next_2 : decode b_Mo_next 2 = .ok (.iconst 0, 1) := by decide +kernel
theorem d_Mo_next_3 : decode b_Mo_next 3 = .ok (.istore_n 2, 1) := by decide +kernel
theorem d_Mo_next_4 : decode b_Mo_next 4 = .ok (.iload_n 2, 1) := by decide +kernel
theorem d_Mo_next_5 : decode b_Mo_next 5 = .ok (.aload_n 0, 1) := by decide +kernel
theorem d_Mo_next_6 : decode b_Mo_next 6 = .ok (.getfield 44, 3) := by decide +kernel
theorem d_Mo_next_9 : decode b_Mo_next 9 = .ok (.if_icmp .ge 56, 3) := by decide +kernel
theorem d_Mo_next_12 : decode b_Mo_next 12 = .ok (.aload_n 0, 1) := by decide +kernel
theorem d_Mo_next_13 : decode b_Mo_next 13 = .ok (.getfield 7, 3) := by decide +kernel
theorem d_Mo_next_16 : decode b_Mo_next 16 = .ok (.iload_n 2, 1) := by decide +kernel
theorem d_Mo_next_17 : decode b_Mo_next 17 = .ok (.iaload, 1) := by decide +kernel
theorem d_Mo_next_18 : decode b_Mo_next 18 = .ok (.bipush 6, 2) := by decide +kernel
theorem d_Mo_next_20 : decode b_Mo_next 20 = .ok (.if_icmp .eq 39, 3) := by decide +kernel
theorem d_Mo_next_23 : decode b_Mo_next 23 = .ok (.aload_n 0, 1) := by decide +kernel
theorem d_Mo_next_24 : decode b_Mo_next 24 = .ok (.getfield 25, 3) := by decide +kernel
theorem d_Mo_next_27 : decode b_Mo_next 27 = .ok (.iload_n 2, 1) := by decide +kernel
theorem d_Mo_next_28 : decode b_Mo_next 28 = .ok (.iaload, 1) := by decide +kernel
theorem d_Mo_next_29 : decode b_Mo_next 29 = .ok (.iconst (-1), 1) := by decide +kernel
theorem d_Mo_next_30 : decode b_Mo_next 30 = .ok (.if_icmp .eq 6, 3) := by decide +kernel
theorem d_Mo_next_33 : decode b_Mo_next 33 = .ok (.goto 26, 3) := by decide +kernel
theorem d_Mo_next_36 : decode b_Mo_next 36 = .ok (.iload_n 1, 1) := by decide +kernel
theorem d_Mo_next_37 : decode b_Mo_next 37 = .ok (.ifCond .lt 20, 3) := by decide +kernel
theorem d_Mo_next_40 : decode b_Mo_next 40 = .ok (.aload_n 0, 1) := by decide +kernel
theorem d_Mo_next_41 : decode b_Mo_next 41 = .ok (.iload_n 2, 1) := by decide +kernel
theorem d_Mo_next_42 : decode b_Mo_next 42 = .ok (.invokevirtual 70, 3) := by decide +kernel
theorem d_Mo_next_45 : decode b_Mo_next 45 = .ok (.iload_n 2, 1) := by decide +kernel
theorem d_Mo_next_46 : decode b_Mo_next 46 = .ok (.isub, 1) := by decide +kernel
theorem d_Mo_next_47 : decode b_Mo_next 47 = .ok (.aload_n 0, 1) := by decide +kernel
theorem d_Mo_next_48 : decode b_Mo_next 48 = .ok (.iload_n 1, 1) := by decide +kernel
theorem d_Mo_next_49 : decode b_Mo_next 49 = .ok (.invokevirtual 70, 3) := by decide +kernel
theorem d_Mo_next_52 : decode b_Mo_next 52 = .ok (.iload_n 1, 1) := by decide +kernel
theorem d_Mo_next_53 : decode b_Mo_next 53 = .ok (.isub, 1) := by decide +kernel
theorem d_Mo_next_54 : decode b_Mo_next 54 = .ok (.if_icmp .le 5, 3) := by decide +kernel
theorem d_Mo_next_57 : decode b_Mo_next 57 = .ok (.iload_n 2, 1) := by decide +kernel
theorem d_Mo_next_58 : decode b_Mo_next 58 = .ok (.istore_n 1, 1) := by decide +kernel
theorem d_Mo_next_59 : decode b_Mo_next 59 = .ok (.iinc 2 1, 3) := by decide +kernel
theorem d_Mo_next_62 : decode b_Mo_next 62 = .ok (.goto (-58), 3) := by decide +kernel
theorem d_Mo_next_65 : decode b_Mo_next 65 = .ok (.iload_n 1, 1) := by decide +kernel
theorem d_Mo_next_66 : decode b_Mo_next 66 = .ok (.ireturn, 1) := by decide +kernel
theorem d_Mo_end_0 : decode b_Mo_end 0 = .ok (.iload_n 1, 1) := by decide +kernel
theorem d_Mo_end_1 : decode b_Mo_end 1 = .ok (.iconst 1, 1) := by decide +kernel
theorem d_Mo_end_2 : decode b_Mo_end 2 = .ok (.iadd, 1) := by decide +kernel
theorem d_Mo_end_3 : decode b_Mo_end 3 = .ok (.istore_n 2, 1) := by decide +kernel
theorem d_Mo_end_4 : decode b_Mo_end 4 = .ok (.iload_n 1, 1) := by decide +kernel
theorem d_Mo_end_5 : decode b_Mo_end 5 = .ok (.iconst 1, 1) := by decide +kernel
theorem d_Mo_end_6 : decode b_Mo_end 6 = .ok (.iadd, 1) := by decide +kernel
theorem d_Mo_end_7 : decode b_Mo_end 7 = .ok (.istore_n 3, 1) := by decide +kernel
theorem d_Mo_end_8 : decode b_Mo_end 8 = .ok (.iload_n 3, 1) := by decide +kernel
theorem d_Mo_end_9 : decode b_Mo_end 9 = .ok (.aload_n 0, 1) := by decide +kernel
theorem d_Mo_end_10 : decode b_Mo_end 10 = .ok (.getfield 44, 3) := by decide +kernel
theorem d_Mo_end_13 : decode b_Mo_end 13 = .ok (.if_icmp .ge 20, 3) := by decide +kernel
theorem d_Mo_end_16 : decode b_Mo_end 16 = .ok (.aload_n 0, 1) := by decide +kernel
theorem d_Mo_end_17 : decode b_Mo_end 17 = .ok (.iload_n 3, 1) := by decide +kernel
theorem d_Mo_end_18 : decode b_Mo_end 18 = .ok (.iload_n 1, 1) := by decide +kernel
theorem d_Mo_end_19 : decode b_Mo_end 19 = .ok (.invokevirtual 66, 3) := by decide +kernel
theorem d_Mo_end_22 : decode b_Mo_end 22 = .ok (.ifCond .le 5, 3) := by decide +kernel
theorem d_Mo_end_25 : decode b_Mo_end 25 = .ok (.iload_n 3, 1) := by decide +kernel
theorem d_Mo_end_26 : decode b_Mo_end 26 = .ok (.istore_n 2, 1) := by decide +kernel
theorem d_Mo_end_27 : decode b_Mo_end 27 = .ok (.iinc 3 1, 3) := by decide +kernel
theorem d_Mo_end_30 : decode b_Mo_end 30 = .ok (.goto (-22), 3) := by decide +kernel
theorem d_Mo_end_33 : decode b_Mo_end 33 = .ok (.iload_n 2, 1) := by decide +kernel
theorem d_Mo_end_34 : decode b_Mo_end 34 = .ok (.ireturn, 1) := by decide +kernel
theorem d_Mo_uses_0 : decode b_Mo_uses 0 = .ok (.aload_n 0, 1) := by decide +kernel
theorem d_Mo_uses_1 : decode b_Mo_uses 1 = .ok (.getfield 7, 3) := by decide +kernel
theorem d_Mo_uses_4 : decode b_Mo_uses 4 = .ok (.iload_n 1, 1) := by decide +kernel
theorem d_Mo_uses_5 : decode b_Mo_uses 5 = .ok (.iaload, 1) := by decide +kernel
theorem d_Mo_uses_6 : decode b_Mo_uses 6 = .ok (.iconst 2, 1) := by decide +kernel
theorem d_Mo_uses_7 : decode b_Mo_uses 7 = .ok (.if_icmp .ge 5, 3) := by decide +kernel
theorem d_Mo_uses_10 : decode b_Mo_uses 10 = .ok (.iconst 0, 1) := by decide +kernel
theorem d_Mo_uses_11 : decode b_Mo_uses 11 = .ok (.ireturn, 1) := by decide +kernel
theorem d_Mo_uses_12 : decode b_Mo_uses 12 = .ok (.aload_n 0, 1) := by decide +kernel
theorem d_Mo_uses_13 : decode b_Mo_uses 13 = .ok (.getfield 13, 3) := by decide +kernel
theorem d_Mo_uses_16 : decode b_Mo_uses 16 = .ok (.iload_n 1, 1) := by decide +kernel
theorem d_Mo_uses_17 : decode b_Mo_uses 17 = .ok (.iaload, 1) := by decide +kernel
theorem d_Mo_uses_18 : decode b_Mo_uses 18 = .ok (.iload_n 2, 1) := by decide +kernel
theorem d_Mo_uses_19 : decode b_Mo_uses 19 = .ok (.if_icmp .ne 7, 3) := by decide +kernel
theorem d_Mo_uses_22 : decode b_Mo_uses 22 = .ok (.iconst 1, 1) := by decide +kernel
theorem d_Mo_uses_23 : decode b_Mo_uses 23 = .ok (.goto 4, 3) := by decide +kernel
theorem d_Mo_uses_26 : decode b_Mo_uses 26 = .ok (.iconst 0, 1) := by decide +kernel
theorem d_Mo_uses_27 : decode b_Mo_uses 27 = .ok (.aload_n 0, 1) := by decide +kernel
theorem d_Mo_uses_28 : decode b_Mo_uses 28 = .ok (.getfield 7, 3) := by decide +kernel
theorem d_Mo_uses_31 : decode b_Mo_uses 31 = .ok (.iload_n 1, 1) := by decide +kernel
theorem d_Mo_uses_32 : decode b_Mo_uses 32 = .ok (.iaload, 1) := by decide +kernel
theorem d_Mo_uses_33 : decode b_Mo_uses 33 = .ok (.invokestatic 55, 3) := by decide +kernel
theorem d_Mo_uses_36 : decode b_Mo_uses 36 = .ok (.ifCond .eq 17, 3) := by decide +kernel
theorem d_Mo_uses_39 : decode b_Mo_uses 39 = .ok (.aload_n 0, 1) := by decide +kernel
theorem d_Mo_uses_40 : decode b_Mo_uses 40 = .ok (.getfield 16, 3) := by decide +kernel
theorem d_Mo_uses_43 : decode b_Mo_uses 43 = .ok (.iload_n 1, 1) := by decide +kernel
theorem d_Mo_uses_44 : decode b_Mo_uses 44 = .ok (.iaload, 1) := by decide +kernel
theorem d_Mo_uses_45 : decode b_Mo_uses 45 = .ok (.iload_n 2, 1) := by decide +kernel
theorem d_Mo_uses_46 : decode b_Mo_uses 46 = .ok (.if_icmp .ne 7, 3) := by decide +kernel
theorem d_Mo_uses_49 : decode b_Mo_uses 49 = .ok (.iconst 1, 1) := by decide +kernel
theorem d_Mo_uses_50 : decode b_Mo_uses 50 = .ok (.goto 4, 3) := by decide +kernel
theorem d_Mo_uses_53 : decode b_Mo_uses 53 = .ok (.iconst 0, 1) := by decide +kernel
theorem d_Mo_uses_54 : decode b_Mo_uses 54 = .ok (.iadd, 1) := by decide +kernel
theorem d_Mo_uses_55 : decode b_Mo_uses 55 = .ok (.ireturn, 1) := by decide +kernel
theorem d_Mo_give_0 : decode b_Mo_give 0 = .ok (.aload_n 0, 1) := by decide +kernel
theorem d_Mo_give_1 : decode b_Mo_give 1 = .ok (.iload_n 1, 1) := by decide +kernel
theorem d_Mo_give_2 : decode b_Mo_give 2 = .ok (.invokevirtual 90, 3) := by decide +kernel
theorem d_Mo_give_5 : decode b_Mo_give 5 = .ok (.ifCond .eq 12, 3) := by decide +kernel
theorem d_Mo_give_8 : decode b_Mo_give 8 = .ok (.iload_n 2, 1) := by decide +kernel
theorem d_Mo_give_9 : decode b_Mo_give 9 = .ok (.iconst 2, 1) := by decide +kernel
theorem d_Mo_give_10 : decode b_Mo_give 10 = .ok (.if_icmp .le 7, 3) := by decide +kernel
theorem d_Mo_give_13 : decode b_Mo_give 13 = .ok (.iconst 2, 1) := by decide +kernel
theorem d_Mo_give_14 : decode b_Mo_give 14 = .ok (.goto 4, 3) := by decide +kernel
theorem d_Mo_give_17 : decode b_Mo_give 17 = .ok (.iload_n 2, 1) := by decide +kernel
theorem d_Mo_give_18 : decode b_Mo_give 18 = .ok (.istore_n 3, 1) := by decide +kernel
theorem d_Mo_give_19 : decode b_Mo_give 19 = .ok (.aload_n 0, 1) := by decide +kernel
theorem d_Mo_give_20 : decode b_Mo_give 20 = .ok (.iload_n 1, 1) := by decide +kernel
theorem d_Mo_give_21 : decode b_Mo_give 21 = .ok (.iconst 0, 1) := by decide +kernel
theorem d_Mo_give_22 : decode b_Mo_give 22 = .ok (.iload_n 3, 1) := by decide +kernel
theorem d_Mo_give_23 : decode b_Mo_give 23 = .ok (.invokevirtual 93, 3) := by decide +kernel
theorem d_Mo_give_26 : decode b_Mo_give 26 = .ok (.istore 4, 2) := by decide +kernel
theorem d_Mo_give_28 : decode b_Mo_give 28 = .ok (.iload 4, 2) := by decide +kernel
theorem d_Mo_give_30 : decode b_Mo_give 30 = .ok (.ifCond .lt 13, 3) := by decide +kernel
theorem d_Mo_give_33 : decode b_Mo_give 33 = .ok (.aload_n 0, 1) := by decide +kernel
theorem d_Mo_give_34 : decode b_Mo_give 34 = .ok (.getfield 25, 3) := by decide +kernel
theorem d_Mo_give_37 : decode b_Mo_give 37 = .ok (.iload_n 1, 1) := by decide +kernel
theorem d_Mo_give_38 : decode b_Mo_give 38 = .ok (.iload 4, 2) := by decide +kernel
theorem d_Mo_give_40 : decode b_Mo_give 40 = .ok (.iastore, 1) := by decide +kernel
theorem d_Mo_give_41 : decode b_Mo_give 41 = .ok (.iconst 1, 1) := by decide +kernel
theorem d_Mo_give_42 : decode b_Mo_give 42 = .ok (.ireturn, 1) := by decide +kernel
theorem d_Mo_give_43 : decode b_Mo_give 43 = .ok (.iconst 0, 1) := by decide +kernel
theorem d_Mo_give_44 : decode b_Mo_give 44 = .ok (.istore 5, 2) := by decide +kernel
theorem d_Mo_give_46 : decode b_Mo_give 46 = .ok (.iconst 1, 1) := by decide +kernel
theorem d_Mo_give_47 : decode b_Mo_give 47 = .ok (.istore 6, 2) := by decide +kernel
theorem d_Mo_give_49 : decode b_Mo_give 49 = .ok (.iload 6, 2) := by decide +kernel
theorem d_Mo_give_51 : decode b_Mo_give 51 = .ok (.iload_n 3, 1) := by decide +kernel
theorem d_Mo_give_52 : decode b_Mo_give 52 = .ok (.if_icmp .ge 31, 3) := by decide +kernel
theorem d_Mo_give_55 : decode b_Mo_give 55 = .ok (.aload_n 0, 1) := by decide +kernel
theorem d_Mo_give_56 : decode b_Mo_give 56 = .ok (.iload_n 1, 1) := by decide +kernel
theorem d_Mo_give_57 : decode b_Mo_give 57 = .ok (.iload 6, 2) := by decide +kernel
theorem d_Mo_give_59 : decode b_Mo_give 59 = .ok (.invokevirtual 97, 3) := by decide +kernel
theorem d_Mo_give_62 : decode b_Mo_give 62 = .ok (.aload_n 0, 1) := by decide +kernel
theorem d_Mo_give_63 : decode b_Mo_give 63 = .ok (.iload_n 1, 1) := by decide +kernel
theorem d_Mo_give_64 : decode b_Mo_give 64 = .ok (.iload 5, 2) := by decide +kernel
theorem d_Mo_give_66 : decode b_Mo_give 66 = .ok (.invokevirtual 97, 3) := by decide +kernel
theorem d_Mo_give_69 : decode b_Mo_give 69 = .ok (.dcmp .g, 1) := by decide +kernel
theorem d_Mo_give_70 : decode b_Mo_give 70 = .ok (.ifCond .ge 7, 3) := by decide +kernel
theorem d_Mo_give_73 : decode b_Mo_give 73 = .ok (.iload 6, 2) := by decide +kernel
theorem d_Mo_give_75 : decode b_Mo_give 75 = .ok (.istore 5, 2) := by decide +kernel
theorem d_Mo_give_77 : decode b_Mo_give 77 = .ok (.iinc 6 1, 3) := by decide +kernel
theorem d_Mo_give_80 : decode b_Mo_give 80 = .ok (.goto (-31), 3) := by decide +kernel
theorem d_Mo_give_83 : decode b_Mo_give 83 = .ok (.aload_n 0, 1) := by decide +kernel
theorem d_Mo_give_84 : decode b_Mo_give 84 = .ok (.iload_n 1, 1) := by decide +kernel
theorem d_Mo_give_85 : decode b_Mo_give 85 = .ok (.iload 5, 2) := by decide +kernel
theorem d_Mo_give_87 : decode b_Mo_give 87 = .ok (.invokevirtual 97, 3) := by decide +kernel
theorem d_Mo_give_90 : decode b_Mo_give 90 = .ok (.aload_n 0, 1) := by decide +kernel
theorem d_Mo_give_91 : decode b_Mo_give 91 = .ok (.iload_n 1, 1) := by decide +kernel
theorem d_Mo_give_92 : decode b_Mo_give 92 = .ok (.invokevirtual 83, 3) := by decide +kernel
theorem d_Mo_give_95 : decode b_Mo_give 95 = .ok (.dcmp .g, 1) := by decide +kernel
theorem d_Mo_give_96 : decode b_Mo_give 96 = .ok (.ifCond .ge 74, 3) := by decide +kernel
theorem d_Mo_give_99 : decode b_Mo_give 99 = .ok (.iconst 0, 1) := by decide +kernel
theorem d_Mo_give_100 : decode b_Mo_give 100 = .ok (.istore 6, 2) := by decide +kernel
theorem d_Mo_give_102 : decode b_Mo_give 102 = .ok (.iload 6, 2) := by decide +kernel
theorem d_Mo_give_104 : decode b_Mo_give 104 = .ok (.aload_n 0, 1) := by decide +kernel
theorem d_Mo_give_105 : decode b_Mo_give 105 = .ok (.getfield 44, 3) := by decide +kernel
theorem d_Mo_give_108 : decode b_Mo_give 108 = .ok (.if_icmp .ge 52, 3) := by decide +kernel
theorem d_Mo_give_111 : decode b_Mo_give 111 = .ok (.aload_n 0, 1) := by decide +kernel
theorem d_Mo_give_112 : decode b_Mo_give 112 = .ok (.getfield 25, 3) := by decide +kernel
theorem d_Mo_give_115 : decode b_Mo_give 115 = .ok (.iload 6, 2) := by decide +kernel
theorem d_Mo_give_117 : decode b_Mo_give 117 = .ok (.iaload, 1) := by decide +kernel
theorem d_Mo_give_118 : decode b_Mo_give 118 = .ok (.iload 5, 2) := by decide +kernel
theorem d_Mo_give_120 : decode b_Mo_give 120 = .ok (.if_icmp .ne 34, 3) := by decide +kernel
theorem d_Mo_give_123 : decode b_Mo_give 123 = .ok (.aload_n 0, 1) := by decide +kernel
theorem d_Mo_give_124 : decode b_Mo_give 124 = .ok (.iload_n 1, 1) := by decide +kernel
theorem d_Mo_give_125 : decode b_Mo_give 125 = .ok (.iload 6, 2) := by decide +kernel
theorem d_Mo_give_127 : decode b_Mo_give 127 = .ok (.invokevirtual 79, 3) := by decide +kernel
theorem d_Mo_give_130 : decode b_Mo_give 130 = .ok (.ifCond .ne 6, 3) := by decide +kernel
theorem d_Mo_give_133 : decode b_Mo_give 133 = .ok (.goto 21, 3) := by decide +kernel
theorem d_Mo_give_136 : decode b_Mo_give 136 = .ok (.aload_n 0, 1) := by decide +kernel
theorem d_Mo_give_137 : decode b_Mo_give 137 = .ok (.getfield 25, 3) := by decide +kernel
theorem d_Mo_give_140 : decode b_Mo_give 140 = .ok (.iload 6, 2) := by decide +kernel
theorem d_Mo_give_142 : decode b_Mo_give 142 = .ok (.iconst (-1), 1) := by decide +kernel
theorem d_Mo_give_143 : decode b_Mo_give 143 = .ok (.iastore, 1) := by decide +kernel
theorem d_Mo_give_144 : decode b_Mo_give 144 = .ok (.aload_n 0, 1) := by decide +kernel
theorem d_Mo_give_145 : decode b_Mo_give 145 = .ok (.dup, 1) := by decide +kernel
theorem d_Mo_give_146 : decode b_Mo_give 146 = .ok (.getfield 101, 3) := by decide +kernel
theorem d_Mo_give_149 : decode b_Mo_give 149 = .ok (.iconst 1, 1) := by decide +kernel
theorem d_Mo_give_150 : decode b_Mo_give 150 = .ok (.iadd, 1) := by decide +kernel
theorem d_Mo_give_151 : decode b_Mo_give 151 = .ok (.putfield 101, 3) := by decide +kernel
theorem d_Mo_give_154 : decode b_Mo_give 154 = .ok (.iinc 6 1, 3) := by decide +kernel
theorem d_Mo_give_157 : decode b_Mo_give 157 = .ok (.goto (-55), 3) := by decide +kernel
theorem d_Mo_give_160 : decode b_Mo_give 160 = .ok (.aload_n 0, 1) := by decide +kernel
theorem d_Mo_give_161 : decode b_Mo_give 161 = .ok (.getfield 25, 3) := by decide +kernel
theorem d_Mo_give_164 : decode b_Mo_give 164 = .ok (.iload_n 1, 1) := by decide +kernel
theorem d_Mo_give_165 : decode b_Mo_give 165 = .ok (.iload 5, 2) := by decide +kernel
theorem d_Mo_give_167 : decode b_Mo_give 167 = .ok (.iastore, 1) := by decide +kernel
theorem d_Mo_give_168 : decode b_Mo_give 168 = .ok (.iconst 1, 1) := by decide +kernel
theorem d_Mo_give_169 : decode b_Mo_give 169 = .ok (.ireturn, 1) := by decide +kernel
theorem d_Mo_give_170 : decode b_Mo_give 170 = .ok (.aload_n 0, 1) := by decide +kernel
theorem d_Mo_give_171 : decode b_Mo_give 171 = .ok (.getfield 25, 3) := by decide +kernel
theorem d_Mo_give_174 : decode b_Mo_give 174 = .ok (.iload_n 1, 1) := by decide +kernel
theorem d_Mo_give_175 : decode b_Mo_give 175 = .ok (.aload_n 0, 1) := by decide +kernel
theorem d_Mo_give_176 : decode b_Mo_give 176 = .ok (.iload_n 1, 1) := by decide +kernel
theorem d_Mo_give_177 : decode b_Mo_give 177 = .ok (.bipush 10, 2) := by decide +kernel
theorem d_Mo_give_179 : decode b_Mo_give 179 = .ok (.bipush 16, 2) := by decide +kernel
theorem d_Mo_give_181 : decode b_Mo_give 181 = .ok (.invokevirtual 93, 3) := by decide +kernel
theorem d_Mo_give_184 : decode b_Mo_give 184 = .ok (.iastore, 1) := by decide +kernel
theorem d_Mo_give_185 : decode b_Mo_give 185 = .ok (.aload_n 0, 1) := by decide +kernel
theorem d_Mo_give_186 : decode b_Mo_give 186 = .ok (.getfield 25, 3) := by decide +kernel
theorem d_Mo_give_189 : decode b_Mo_give 189 = .ok (.iload_n 1, 1) := by decide +kernel
theorem d_Mo_give_190 : decode b_Mo_give 190 = .ok (.iaload, 1) := by decide +kernel
theorem d_Mo_give_191 : decode b_Mo_give 191 = .ok (.ifCond .lt 7, 3) := by decide +kernel
theorem d_Mo_give_194 : decode b_Mo_give 194 = .ok (.iconst 1, 1) := by decide +kernel
theorem d_Mo_give_195 : decode b_Mo_give 195 = .ok (.goto 4, 3) := by decide +kernel
theorem d_Mo_give_198 : decode b_Mo_give 198 = .ok (.iconst 0, 1) := by decide +kernel
theorem d_Mo_give_199 : decode b_Mo_give 199 = .ok (.ireturn, 1) := by decide +kernel
theorem d_Mo_isCrossed_0 : decode b_Mo_isCrossed 0 = .ok (.aload_n 0, 1) := by decide +kernel
theorem d_Mo_isCrossed_1 : decode b_Mo_isCrossed 1 = .ok (.iload_n 1, 1) := by decide +kernel
theorem d_Mo_isCrossed_2 : decode b_Mo_isCrossed 2 = .ok (.invokevirtual 70, 3) := by decide +kernel
theorem d_Mo_isCrossed_5 : decode b_Mo_isCrossed 5 = .ok (.istore_n 2, 1) := by decide +kernel
theorem d_Mo_isCrossed_6 : decode b_Mo_isCrossed 6 = .ok (.iload_n 1, 1) := by decide +kernel
theorem d_Mo_isCrossed_7 : decode b_Mo_isCrossed 7 = .ok (.iconst 1, 1) := by decide +kernel
theorem d_Mo_isCrossed_8 : decode b_Mo_isCrossed 8 = .ok (.iadd, 1) := by decide +kernel
theorem d_Mo_isCrossed_9 : decode b_Mo_isCrossed 9 = .ok (.istore_n 3, 1) := by decide +kernel
theorem d_Mo_isCrossed_10 : decode b_Mo_isCrossed 10 = .ok (.iload_n 3, 1) := by decide +kernel
theorem d_Mo_isCrossed_11 : decode b_Mo_isCrossed 11 = .ok (.iload_n 2, 1) := by decide +kernel
theorem d_Mo_isCrossed_12 : decode b_Mo_isCrossed 12 = .ok (.if_icmp .ge 30, 3) := by decide +kernel
theorem d_Mo_isCrossed_15 : decode b_Mo_isCrossed 15 = .ok (.iload_n 3, 1) := by decide +kernel
theorem d_Mo_isCrossed_16 : decode b_Mo_isCrossed 16 = .ok (.aload_n 0, 1) := by decide +kernel
theorem d_Mo_isCrossed_17 : decode b_Mo_isCrossed 17 = .ok (.getfield 44, 3) := by decide +kernel
theorem d_Mo_isCrossed_20 : decode b_Mo_isCrossed 20 = .ok (.if_icmp .ge 22, 3) := by decide +kernel
theorem d_Mo_isCrossed_23 : decode b_Mo_isCrossed 23 = .ok (.aload_n 0, 1) := by decide +kernel
theorem d_Mo_isCrossed_24 : decode b_Mo_isCrossed 24 = .ok (.getfield 7, 3) := by decide +kernel
theorem d_Mo_isCrossed_27 : decode b_Mo_isCrossed 27 = .ok (.iload_n 3, 1) := by decide +kernel
theorem d_Mo_isCrossed_28 : decode b_Mo_isCrossed 28 = .ok (.iaload, 1) := by decide +kernel
theorem d_Mo_isCrossed_29 : decode b_Mo_isCrossed 29 = .ok (.bipush 7, 2) := by decide +kernel
theorem d_Mo_isCrossed_31 : decode b_Mo_isCrossed 31 = .ok (.if_icmp .ne 5, 3) := by decide +kernel
theorem d_Mo_isCrossed_34 : decode b_Mo_isCrossed 34 = .ok (.iconst 1, 1) := by decide +kernel
theorem d_Mo_isCrossed_35 : decode b_Mo_isCrossed 35 = .ok (.ireturn, 1) := by decide +kernel
theorem d_Mo_isCrossed_36 : decode b_Mo_isCrossed 36 = .ok (.iinc 3 1, 3) := by decide +kernel
theorem d_Mo_isCrossed_39 : decode b_Mo_isCrossed 39 = .ok (.goto (-29), 3) := by decide +kernel
theorem d_Mo_isCrossed_42 : decode b_Mo_isCrossed 42 = .ok (.iconst 0, 1) := by decide +kernel
theorem d_Mo_isCrossed_43 : decode b_Mo_isCrossed 43 = .ok (.ireturn, 1) := by decide +kernel
theorem d_Mo_free_0 : decode b_Mo_free 0 = .ok (.iload_n 2, 1) := by decide +kernel
theorem d_Mo_free_1 : decode b_Mo_free 1 = .ok (.istore 4, 2) := by decide +kernel
theorem d_Mo_free_3 : decode b_Mo_free 3 = .ok (.iload 4, 2) := by decide +kernel
theorem d_Mo_free_5 : decode b_Mo_free 5 = .ok (.iload_n 3, 1) := by decide +kernel
theorem d_Mo_free_6 : decode b_Mo_free 6 = .ok (.if_icmp .ge 26, 3) := by decide +kernel
theorem d_Mo_free_9 : decode b_Mo_free 9 = .ok (.aload_n 0, 1) := by decide +kernel
theorem d_Mo_free_10 : decode b_Mo_free 10 = .ok (.iload_n 1, 1) := by decide +kernel
theorem d_Mo_free_11 : decode b_Mo_free 11 = .ok (.iload 4, 2) := by decide +kernel
theorem d_Mo_free_13 : decode b_Mo_free 13 = .ok (.invokevirtual 87, 3) := by decide +kernel
theorem d_Mo_free_16 : decode b_Mo_free 16 = .ok (.istore 5, 2) := by decide +kernel
theorem d_Mo_free_18 : decode b_Mo_free 18 = .ok (.iload 5, 2) := by decide +kernel
theorem d_Mo_free_20 : decode b_Mo_free 20 = .ok (.ifCond .eq 6, 3) := by decide +kernel
theorem d_Mo_free_23 : decode b_Mo_free 23 = .ok (.iload 4, 2) := by decide +kernel
theorem d_Mo_free_25 : decode b_Mo_free 25 = .ok (.ireturn, 1) := by decide +kernel
theorem d_Mo_free_26 : decode b_Mo_free 26 = .ok (.iinc 4 1, 3) := by decide +kernel
theorem d_Mo_free_29 : decode b_Mo_free 29 = .ok (.goto (-26), 3) := by decide +kernel
theorem d_Mo_free_32 : decode b_Mo_free 32 = .ok (.iconst (-1), 1) := by decide +kernel
theorem d_Mo_free_33 : decode b_Mo_free 33 = .ok (.ireturn, 1) := by decide +kernel
theorem d_Mo_isFree_0 : decode b_Mo_isFree 0 = .ok (.iconst 0, 1) := by decide +kernel
theorem d_Mo_isFree_1 : decode b_Mo_isFree 1 = .ok (.istore_n 3, 1) := by decide +kernel
theorem d_Mo_isFree_2 : decode b_Mo_isFree 2 = .ok (.iload_n 3, 1) := by decide +kernel
theorem d_Mo_isFree_3 : decode b_Mo_isFree 3 = .ok (.aload_n 0, 1) := by decide +kernel
theorem d_Mo_isFree_4 : decode b_Mo_isFree 4 = .ok (.getfield 44, 3) := by decide +kernel
theorem d_Mo_isFree_7 : decode b_Mo_isFree 7 = .ok (.if_icmp .ge 46, 3) := by decide +kernel
theorem d_Mo_isFree_10 : decode b_Mo_isFree 10 = .ok (.aload_n 0, 1) := by decide +kernel
theorem d_Mo_isFree_11 : decode b_Mo_isFree 11 = .ok (.getfield 25, 3) := by decide +kernel
theorem d_Mo_isFree_14 : decode b_Mo_isFree 14 = .ok (.iload_n 3, 1) := by decide +kernel
theorem d_Mo_isFree_15 : decode b_Mo_isFree 15 = .ok (.iaload, 1) := by decide +kernel
theorem d_Mo_isFree_16 : decode b_Mo_isFree 16 = .ok (.iload_n 2, 1) := by decide +kernel
theorem d_Mo_isFree_17 : decode b_Mo_isFree 17 = .ok (.if_icmp .ne 30, 3) := by decide +kernel
theorem d_Mo_isFree_20 : decode b_Mo_isFree 20 = .ok (.iload_n 3, 1) := by decide +kernel
theorem d_Mo_isFree_21 : decode b_Mo_isFree 21 = .ok (.iload_n 1, 1) := by decide +kernel
theorem d_Mo_isFree_22 : decode b_Mo_isFree 22 = .ok (.if_icmp .eq 25, 3) := by decide +kernel
theorem d_Mo_isFree_25 : decode b_Mo_isFree 25 = .ok (.aload_n 0, 1) := by decide +kernel
theorem d_Mo_isFree_26 : decode b_Mo_isFree 26 = .ok (.getfield 7, 3) := by decide +kernel
theorem d_Mo_isFree_29 : decode b_Mo_isFree 29 = .ok (.iload_n 3, 1) := by decide +kernel
theorem d_Mo_isFree_30 : decode b_Mo_isFree 30 = .ok (.iaload, 1) := by decide +kernel
theorem d_Mo_isFree_31 : decode b_Mo_isFree 31 = .ok (.bipush 6, 2) := by decide +kernel
theorem d_Mo_isFree_33 : decode b_Mo_isFree 33 = .ok (.if_icmp .eq 14, 3) := by decide +kernel
theorem d_Mo_isFree_36 : decode b_Mo_isFree 36 = .ok (.aload_n 0, 1) := by decide +kernel
theorem d_Mo_isFree_37 : decode b_Mo_isFree 37 = .ok (.iload_n 1, 1) := by decide +kernel
theorem d_Mo_isFree_38 : decode b_Mo_isFree 38 = .ok (.iload_n 3, 1) := by decide +kernel
theorem d_Mo_isFree_39 : decode b_Mo_isFree 39 = .ok (.invokevirtual 79, 3) := by decide +kernel
theorem d_Mo_isFree_42 : decode b_Mo_isFree 42 = .ok (.ifCond .eq 5, 3) := by decide +kernel
theorem d_Mo_isFree_45 : decode b_Mo_isFree 45 = .ok (.iconst 0, 1) := by decide +kernel
theorem d_Mo_isFree_46 : decode b_Mo_isFree 46 = .ok (.ireturn, 1) := by decide +kernel
theorem d_Mo_isFree_47 : decode b_Mo_isFree 47 = .ok (.iinc 3 1, 3) := by decide +kernel
theorem d_Mo_isFree_50 : decode b_Mo_isFree 50 = .ok (.goto (-48), 3) := by decide +kernel
theorem d_Mo_isFree_53 : decode b_Mo_isFree 53 = .ok (.iconst 1, 1) := by decide +kernel
theorem d_Mo_isFree_54 : decode b_Mo_isFree 54 = .ok (.ireturn, 1) := by decide +kernel
theorem d_Mo_meet_0 : decode b_Mo_meet 0 = .ok (.iload_n 1, 1) := by decide +kernel
theorem d_Mo_meet_1 : decode b_Mo_meet 1 = .ok (.aload_n 0, 1) := by decide +kernel
theorem d_Mo_meet_2 : decode b_Mo_meet 2 = .ok (.iload_n 2, 1) := by decide +kernel
theorem d_Mo_meet_3 : decode b_Mo_meet 3 = .ok (.invokevirtual 70, 3) := by decide +kernel
theorem d_Mo_meet_6 : decode b_Mo_meet 6 = .ok (.if_icmp .ge 16, 3) := by decide +kernel
theorem d_Mo_meet_9 : decode b_Mo_meet 9 = .ok (.iload_n 2, 1) := by decide +kernel
theorem d_Mo_meet_10 : decode b_Mo_meet 10 = .ok (.aload_n 0, 1) := by decide +kernel
theorem d_Mo_meet_11 : decode b_Mo_meet 11 = .ok (.iload_n 1, 1) := by decide +kernel
theorem d_Mo_meet_12 : decode b_Mo_meet 12 = .ok (.invokevirtual 70, 3) := by decide +kernel
theorem d_Mo_meet_15 : decode b_Mo_meet 15 = .ok (.if_icmp .ge 7, 3) := by decide +kernel
theorem d_Mo_meet_18 : decode b_Mo_meet 18 = .ok (.iconst 1, 1) := by decide +kernel
theorem d_Mo_meet_19 : decode b_Mo_meet 19 = .ok (.goto 4, 3) := by decide +kernel
theorem d_Mo_meet_22 : decode b_Mo_meet 22 = .ok (.iconst 0, 1) := by decide +kernel
theorem d_Mo_meet_23 : decode b_Mo_meet 23 = .ok (.ireturn, 1) := by decide +kernel
theorem d_Mo_heaviest_0 : decode b_Mo_heaviest 0 = .ok (.dconst 0, 1) := by decide +kernel
theorem d_Mo_heaviest_1 : decode b_Mo_heaviest 1 = .ok (.dstore_n 3, 1) := by decide +kernel
theorem d_Mo_heaviest_2 : decode b_Mo_heaviest 2 = .ok (.iconst 0, 1) := by decide +kernel
theorem d_Mo_heaviest_3 : decode b_Mo_heaviest 3 = .ok (.istore 5, 2) := by decide +kernel
theorem d_Mo_heaviest_5 : decode b_Mo_heaviest 5 = .ok (.iload 5, 2) := by decide +kernel
theorem d_Mo_heaviest_7 : decode b_Mo_heaviest 7 = .ok (.aload_n 0, 1) := by decide +kernel
theorem d_Mo_heaviest_8 : decode b_Mo_heaviest 8 = .ok (.getfield 44, 3) := by decide +kernel
theorem d_Mo_heaviest_11 : decode b_Mo_heaviest 11 = .ok (.if_icmp .ge 69, 3) := by decide +kernel
theorem d_Mo_heaviest_14 : decode b_Mo_heaviest 14 = .ok (.aload_n 0, 1) := by decide +kernel
theorem d_Mo_heaviest_15 : decode b_Mo_heaviest 15 = .ok (.getfield 25, 3) := by decide +kernel
theorem d_Mo_heaviest_18 : decode b_Mo_heaviest 18 = .ok (.iload 5, 2) := by decide +kernel
theorem d_Mo_heaviest_20 : decode b_Mo_heaviest 20 = .ok (.iaload, 1) := by decide +kernel
theorem d_Mo_heaviest_21 : decode b_Mo_heaviest 21 = .ok (.iload_n 2, 1) := by decide +kernel
theorem d_Mo_heaviest_22 : decode b_Mo_heaviest 22 = .ok (.if_icmp .ne 52, 3) := by decide +kernel
theorem d_Mo_heaviest_25 : decode b_Mo_heaviest 25 = .ok (.iload 5, 2) := by decide +kernel
theorem d_Mo_heaviest_27 : decode b_Mo_heaviest 27 = .ok (.iload_n 1, 1) := by decide +kernel
theorem d_Mo_heaviest_28 : decode b_Mo_heaviest 28 = .ok (.if_icmp .eq 46, 3) := by decide +kernel
theorem d_Mo_heaviest_31 : decode b_Mo_heaviest 31 = .ok (.aload_n 0, 1) := by decide +kernel
theorem d_Mo_heaviest_32 : decode b_Mo_heaviest 32 = .ok (.getfield 7, 3) := by decide +kernel
theorem d_Mo_heaviest_35 : decode b_Mo_heaviest 35 = .ok (.iload 5, 2) := by decide +kernel
theorem d_Mo_heaviest_37 : decode b_Mo_heaviest 37 = .ok (.iaload, 1) := by decide +kernel
theorem d_Mo_heaviest_38 : decode b_Mo_heaviest 38 = .ok (.bipush 6, 2) := by decide +kernel
theorem d_Mo_heaviest_40 : decode b_Mo_heaviest 40 = .ok (.if_icmp .eq 34, 3) := by decide +kernel
theorem d_Mo_heaviest_43 : decode b_Mo_heaviest 43 = .ok (.aload_n 0, 1) := by decide +kernel
theorem d_Mo_heaviest_44 : decode b_Mo_heaviest 44 = .ok (.iload_n 1, 1) := by decide +kernel
theorem d_Mo_heaviest_45 : decode b_Mo_heaviest 45 = .ok (.iload 5, 2) := by decide +kernel
theorem d_Mo_heaviest_47 : decode b_Mo_heaviest 47 = .ok (.invokevirtual 79, 3) := by decide +kernel
theorem d_Mo_heaviest_50 : decode b_Mo_heaviest 50 = .ok (.ifCond .ne 6, 3) := by decide +kernel
theorem d_Mo_heaviest_53 : decode b_Mo_heaviest 53 = .ok (.goto 21, 3) := by decide +kernel
theorem d_Mo_heaviest_56 : decode b_Mo_heaviest 56 = .ok (.aload_n 0, 1) := by decide +kernel
theorem d_Mo_heaviest_57 : decode b_Mo_heaviest 57 = .ok (.iload 5, 2) := by decide +kernel
theorem d_Mo_heaviest_59 : decode b_Mo_heaviest 59 = .ok (.invokevirtual 83, 3) := by decide +kernel
theorem d_Mo_heaviest_62 : decode b_Mo_heaviest 62 = .ok (.dstore 6, 2) := by decide +kernel
theorem d_Mo_heaviest_64 : decode b_Mo_heaviest 64 = .ok (.dload 6, 2) := by decide +kernel
theorem d_Mo_heaviest_66 : decode b_Mo_heaviest 66 = .ok (.dload_n 3, 1) := by decide +kernel
theorem d_Mo_heaviest_67 : decode b_Mo_heaviest 67 = .ok (.dcmp .l, 1) := by decide +kernel
theorem d_Mo_heaviest_68 : decode b_Mo_heaviest 68 = .ok (.ifCond .le 6, 3) := by decide +kernel
theorem d_Mo_heaviest_71 : decode b_Mo_heaviest 71 = .ok (.dload 6, 2) := by decide +kernel
theorem d_Mo_heaviest_73 : decode b_Mo_heaviest 73 = .ok (.dstore_n 3, 1) := by decide +kernel
theorem d_Mo_heaviest_74 : decode b_Mo_heaviest 74 = .ok (.iinc 5 1, 3) := by decide +kernel
theorem d_Mo_heaviest_77 : decode b_Mo_heaviest 77 = .ok (.goto (-72), 3) := by decide +kernel
theorem d_Mo_heaviest_80 : decode b_Mo_heaviest 80 = .ok (.dload_n 3, 1) := by decide +kernel
theorem d_Mo_heaviest_81 : decode b_Mo_heaviest 81 = .ok (.dreturn, 1) := by decide +kernel
theorem d_Mo_heavy_0 : decode b_Mo_heavy 0 = .ok (.aload_n 0, 1) := by decide +kernel
theorem d_Mo_heavy_1 : decode b_Mo_heavy 1 = .ok (.iload_n 1, 1) := by decide +kernel
theorem d_Mo_heavy_2 : decode b_Mo_heavy 2 = .ok (.invokevirtual 76, 3) := by decide +kernel
theorem d_Mo_heavy_5 : decode b_Mo_heavy 5 = .ok (.i2d, 1) := by decide +kernel
theorem d_Mo_heavy_6 : decode b_Mo_heavy 6 = .ok (.aload_n 0, 1) := by decide +kernel
theorem d_Mo_heavy_7 : decode b_Mo_heavy 7 = .ok (.iload_n 1, 1) := by decide +kernel
theorem d_Mo_heavy_8 : decode b_Mo_heavy 8 = .ok (.invokevirtual 70, 3) := by decide +kernel
theorem d_Mo_heavy_11 : decode b_Mo_heavy 11 = .ok (.iload_n 1, 1) := by decide +kernel
theorem d_Mo_heavy_12 : decode b_Mo_heavy 12 = .ok (.isub, 1) := by decide +kernel
theorem d_Mo_heavy_13 : decode b_Mo_heavy 13 = .ok (.i2d, 1) := by decide +kernel
theorem d_Mo_heavy_14 : decode b_Mo_heavy 14 = .ok (.ddiv, 1) := by decide +kernel
theorem d_Mo_heavy_15 : decode b_Mo_heavy 15 = .ok (.dreturn, 1) := by decide +kernel
theorem d_Mo_sum_0 : decode b_Mo_sum 0 = .ok (.aload_n 0, 1) := by decide +kernel
theorem d_Mo_sum_1 : decode b_Mo_sum 1 = .ok (.getfield 19, 3) := by decide +kernel
theorem d_Mo_sum_4 : decode b_Mo_sum 4 = .ok (.iload_n 1, 1) := by decide +kernel
theorem d_Mo_sum_5 : decode b_Mo_sum 5 = .ok (.iaload, 1) := by decide +kernel
theorem d_Mo_sum_6 : decode b_Mo_sum 6 = .ok (.invokestatic 73, 3) := by decide +kernel
theorem d_Mo_sum_9 : decode b_Mo_sum 9 = .ok (.istore_n 2, 1) := by decide +kernel
theorem d_Mo_sum_10 : decode b_Mo_sum 10 = .ok (.iload_n 1, 1) := by decide +kernel
theorem d_Mo_sum_11 : decode b_Mo_sum 11 = .ok (.iconst 1, 1) := by decide +kernel
theorem d_Mo_sum_12 : decode b_Mo_sum 12 = .ok (.iadd, 1) := by decide +kernel
theorem d_Mo_sum_13 : decode b_Mo_sum 13 = .ok (.istore_n 3, 1) := by decide +kernel
theorem d_Mo_sum_14 : decode b_Mo_sum 14 = .ok (.iload_n 3, 1) := by decide +kernel
theorem d_Mo_sum_15 : decode b_Mo_sum 15 = .ok (.aload_n 0, 1) := by decide +kernel
theorem d_Mo_sum_16 : decode b_Mo_sum 16 = .ok (.getfield 44, 3) := by decide +kernel
theorem d_Mo_sum_19 : decode b_Mo_sum 19 = .ok (.if_icmp .ge 28, 3) := by decide +kernel
theorem d_Mo_sum_22 : decode b_Mo_sum 22 = .ok (.iload_n 2, 1) := by decide +kernel
theorem d_Mo_sum_23 : decode b_Mo_sum 23 = .ok (.aload_n 0, 1) := by decide +kernel
theorem d_Mo_sum_24 : decode b_Mo_sum 24 = .ok (.iload_n 3, 1) := by decide +kernel
theorem d_Mo_sum_25 : decode b_Mo_sum 25 = .ok (.iload_n 1, 1) := by decide +kernel
theorem d_Mo_sum_26 : decode b_Mo_sum 26 = .ok (.invokevirtual 66, 3) := by decide +kernel
theorem d_Mo_sum_29 : decode b_Mo_sum 29 = .ok (.aload_n 0, 1) := by decide +kernel
theorem d_Mo_sum_30 : decode b_Mo_sum 30 = .ok (.getfield 19, 3) := by decide +kernel
theorem d_Mo_sum_33 : decode b_Mo_sum 33 = .ok (.iload_n 3, 1) := by decide +kernel
theorem d_Mo_sum_34 : decode b_Mo_sum 34 = .ok (.iaload, 1) := by decide +kernel
theorem d_Mo_sum_35 : decode b_Mo_sum 35 = .ok (.invokestatic 73, 3) := by decide +kernel
theorem d_Mo_sum_38 : decode b_Mo_sum 38 = .ok (.imul, 1) := by decide +kernel
theorem d_Mo_sum_39 : decode b_Mo_sum 39 = .ok (.iadd, 1) := by decide +kernel
theorem d_Mo_sum_40 : decode b_Mo_sum 40 = .ok (.istore_n 2, 1) := by decide +kernel
theorem d_Mo_sum_41 : decode b_Mo_sum 41 = .ok (.iinc 3 1, 3) := by decide +kernel
theorem d_Mo_sum_44 : decode b_Mo_sum 44 = .ok (.goto (-30), 3) := by decide +kernel
theorem d_Mo_sum_47 : decode b_Mo_sum 47 = .ok (.iload_n 2, 1) := by decide +kernel
theorem d_Mo_sum_48 : decode b_Mo_sum 48 = .ok (.ireturn, 1) := by decide +kernel
theorem d_Mo_price_0 : decode b_Mo_price 0 = .ok (.iload_n 0, 1) := by decide +kernel
theorem d_Mo_price_1 : decode b_Mo_price 1 = .ok (.ifCond .ne 7, 3) := by decide +kernel
theorem d_Mo_price_4 : decode b_Mo_price 4 = .ok (.iconst 1, 1) := by decide +kernel
theorem d_Mo_price_5 : decode b_Mo_price 5 = .ok (.goto 26, 3) := by decide +kernel
theorem d_Mo_price_8 : decode b_Mo_price 8 = .ok (.iload_n 0, 1) := by decide +kernel
theorem d_Mo_price_9 : decode b_Mo_price 9 = .ok (.iconst 1, 1) := by decide +kernel
theorem d_Mo_price_10 : decode b_Mo_price 10 = .ok (.if_icmp .ne 8, 3) := by decide +kernel
theorem d_Mo_price_13 : decode b_Mo_price 13 = .ok (.bipush 10, 2) := by decide +kernel
theorem d_Mo_price_15 : decode b_Mo_price 15 = .ok (.goto 16, 3) := by decide +kernel
theorem d_Mo_price_18 : decode b_Mo_price 18 = .ok (.iload_n 0, 1) := by decide +kernel
theorem d_Mo_price_19 : decode b_Mo_price 19 = .ok (.iconst 2, 1) := by decide +kernel
theorem d_Mo_price_20 : decode b_Mo_price 20 = .ok (.if_icmp .ne 8, 3) := by decide +kernel
theorem d_Mo_price_23 : decode b_Mo_price 23 = .ok (.bipush 100, 2) := by decide +kernel
theorem d_Mo_price_25 : decode b_Mo_price 25 = .ok (.goto 6, 3) := by decide +kernel
theorem d_Mo_price_28 : decode b_Mo_price 28 = .ok (.sipush 1000, 3) := by decide +kernel
theorem d_Mo_price_31 : decode b_Mo_price 31 = .ok (.ireturn, 1) := by decide +kernel
theorem d_Mo_place_0 : decode b_Mo_place 0 = .ok (.aload_n 0, 1) := by decide +kernel
theorem d_Mo_place_1 : decode b_Mo_place 1 = .ok (.iload_n 1, 1) := by decide +kernel
theorem d_Mo_place_2 : decode b_Mo_place 2 = .ok (.invokevirtual 51, 3) := by decide +kernel
theorem d_Mo_place_5 : decode b_Mo_place 5 = .ok (.istore_n 2, 1) := by decide +kernel
theorem d_Mo_place_6 : decode b_Mo_place 6 = .ok (.aload_n 0, 1) := by decide +kernel
theorem d_Mo_place_7 : decode b_Mo_place 7 = .ok (.iload_n 2, 1) := by decide +kernel
theorem d_Mo_place_8 : decode b_Mo_place 8 = .ok (.ifCond .ne 7, 3) := by decide +kernel
theorem d_Mo_place_11 : decode b_Mo_place 11 = .ok (.iconst 1, 1) := by decide +kernel
theorem d_Mo_place_12 : decode b_Mo_place 12 = .ok (.goto 15, 3) := by decide +kernel
theorem d_Mo_place_15 : decode b_Mo_place 15 = .ok (.aload_n 0, 1) := by decide +kernel
theorem d_Mo_place_16 : decode b_Mo_place 16 = .ok (.getfield 62, 3) := by decide +kernel
theorem d_Mo_place_19 : decode b_Mo_place 19 = .ok (.ifCond .ne 7, 3) := by decide +kernel
theorem d_Mo_place_22 : decode b_Mo_place 22 = .ok (.iconst 2, 1) := by decide +kernel
theorem d_Mo_place_23 : decode b_Mo_place 23 = .ok (.goto 4, 3) := by decide +kernel
theorem d_Mo_place_26 : decode b_Mo_place 26 = .ok (.iconst 0, 1) := by decide +kernel
theorem d_Mo_place_27 : decode b_Mo_place 27 = .ok (.putfield 40, 3) := by decide +kernel
theorem d_Mo_place_30 : decode b_Mo_place 30 = .ok (.aload_n 0, 1) := by decide +kernel
theorem d_Mo_place_31 : decode b_Mo_place 31 = .ok (.getfield 40, 3) := by decide +kernel
theorem d_Mo_place_34 : decode b_Mo_place 34 = .ok (.ifCond .le 7, 3) := by decide +kernel
theorem d_Mo_place_37 : decode b_Mo_place 37 = .ok (.iconst 0, 1) := by decide +kernel
theorem d_Mo_place_38 : decode b_Mo_place 38 = .ok (.goto 9, 3) := by decide +kernel
theorem d_Mo_place_41 : decode b_Mo_place 41 = .ok (.aload_n 0, 1) := by decide +kernel
theorem d_Mo_place_42 : decode b_Mo_place 42 = .ok (.getfield 22, 3) := by decide +kernel
theorem d_Mo_place_45 : decode b_Mo_place 45 = .ok (.iload_n 1, 1) := by decide +kernel
theorem d_Mo_place_46 : decode b_Mo_place 46 = .ok (.iaload, 1) := by decide +kernel
theorem d_Mo_place_47 : decode b_Mo_place 47 = .ok (.ireturn, 1) := by decide +kernel
theorem d_Mo_weight_0 : decode b_Mo_weight 0 = .ok (.aload_n 0, 1) := by decide +kernel
theorem d_Mo_weight_1 : decode b_Mo_weight 1 = .ok (.iload_n 1, 1) := by decide +kernel
theorem d_Mo_weight_2 : decode b_Mo_weight 2 = .ok (.invokevirtual 51, 3) := by decide +kernel
theorem d_Mo_weight_5 : decode b_Mo_weight 5 = .ok (.istore_n 2, 1) := by decide +kernel
theorem d_Mo_weight_6 : decode b_Mo_weight 6 = .ok (.aload_n 0, 1) := by decide +kernel
theorem d_Mo_weight_7 : decode b_Mo_weight 7 = .ok (.iload_n 2, 1) := by decide +kernel
theorem d_Mo_weight_8 : decode b_Mo_weight 8 = .ok (.ifCond .eq 7, 3) := by decide +kernel
theorem d_Mo_weight_11 : decode b_Mo_weight 11 = .ok (.iconst 0, 1) := by decide +kernel
theorem d_Mo_weight_12 : decode b_Mo_weight 12 = .ok (.goto 4, 3) := by decide +kernel
theorem d_Mo_weight_15 : decode b_Mo_weight 15 = .ok (.iconst 1, 1) := by decide +kernel
theorem d_Mo_weight_16 : decode b_Mo_weight 16 = .ok (.putfield 40, 3) := by decide +kernel
theorem d_Mo_weight_19 : decode b_Mo_weight 19 = .ok (.aload_n 0, 1) := by decide +kernel
theorem d_Mo_weight_20 : decode b_Mo_weight 20 = .ok (.getfield 40, 3) := by decide +kernel
theorem d_Mo_weight_23 : decode b_Mo_weight 23 = .ok (.ifCond .le 7, 3) := by decide +kernel
theorem d_Mo_weight_26 : decode b_Mo_weight 26 = .ok (.dconst 0, 1) := by decide +kernel
theorem d_Mo_weight_27 : decode b_Mo_weight 27 = .ok (.goto 8, 3) := by decide +kernel
theorem d_Mo_weight_30 : decode b_Mo_weight 30 = .ok (.aload_n 0, 1) := by decide +kernel
theorem d_Mo_weight_31 : decode b_Mo_weight 31 = .ok (.iload_n 1, 1) := by decide +kernel
theorem d_Mo_weight_32 : decode b_Mo_weight 32 = .ok (.invokevirtual 83, 3) := by decide +kernel
theorem d_Mo_weight_35 : decode b_Mo_weight 35 = .ok (.dreturn, 1) := by decide +kernel
theorem d_Mo_told_0 : decode b_Mo_told 0 = .ok (.aload_n 0, 1) := by decide +kernel
theorem d_Mo_told_1 : decode b_Mo_told 1 = .ok (.iload_n 1, 1) := by decide +kernel
theorem d_Mo_told_2 : decode b_Mo_told 2 = .ok (.invokevirtual 51, 3) := by decide +kernel
theorem d_Mo_told_5 : decode b_Mo_told 5 = .ok (.istore_n 3, 1) := by decide +kernel
theorem d_Mo_told_6 : decode b_Mo_told 6 = .ok (.aload_n 0, 1) := by decide +kernel
theorem d_Mo_told_7 : decode b_Mo_told 7 = .ok (.iload_n 2, 1) := by decide +kernel
theorem d_Mo_told_8 : decode b_Mo_told 8 = .ok (.iconst 0, 1) := by decide +kernel
theorem d_Mo_told_9 : decode b_Mo_told 9 = .ok (.iconst 3, 1) := by decide +kernel
theorem d_Mo_told_10 : decode b_Mo_told 10 = .ok (.invokestatic 47, 3) := by decide +kernel
theorem d_Mo_told_13 : decode b_Mo_told 13 = .ok (.ifCond .ne 7, 3) := by decide +kernel
theorem d_Mo_told_16 : decode b_Mo_told 16 = .ok (.iconst 1, 1) := by decide +kernel
theorem d_Mo_told_17 : decode b_Mo_told 17 = .ok (.goto 12, 3) := by decide +kernel
theorem d_Mo_told_20 : decode b_Mo_told 20 = .ok (.iload_n 3, 1) := by decide +kernel
theorem d_Mo_told_21 : decode b_Mo_told 21 = .ok (.ifCond .ne 7, 3) := by decide +kernel
theorem d_Mo_told_24 : decode b_Mo_told 24 = .ok (.iconst 2, 1) := by decide +kernel
theorem d_Mo_told_25 : decode b_Mo_told 25 = .ok (.goto 4, 3) := by decide +kernel
theorem d_Mo_told_28 : decode b_Mo_told 28 = .ok (.iconst 0, 1) := by decide +kernel
theorem d_Mo_told_29 : decode b_Mo_told 29 = .ok (.putfield 40, 3) := by decide +kernel
theorem d_Mo_told_32 : decode b_Mo_told 32 = .ok (.aload_n 0, 1) := by decide +kernel
theorem d_Mo_told_33 : decode b_Mo_told 33 = .ok (.getfield 40, 3) := by decide +kernel
theorem d_Mo_told_36 : decode b_Mo_told 36 = .ok (.ifCond .le 5, 3) := by decide +kernel
theorem d_Mo_told_39 : decode b_Mo_told 39 = .ok (.iconst 0, 1) := by decide +kernel
theorem d_Mo_told_40 : decode b_Mo_told 40 = .ok (.ireturn, 1) := by decide +kernel
theorem d_Mo_told_41 : decode b_Mo_told 41 = .ok (.iconst 0, 1) := by decide +kernel
theorem d_Mo_told_42 : decode b_Mo_told 42 = .ok (.istore 4, 2) := by decide +kernel
theorem d_Mo_told_44 : decode b_Mo_told 44 = .ok (.iconst 0, 1) := by decide +kernel
theorem d_Mo_told_45 : decode b_Mo_told 45 = .ok (.istore 5, 2) := by decide +kernel
theorem d_Mo_told_47 : decode b_Mo_told 47 = .ok (.iconst 0, 1) := by decide +kernel
theorem d_Mo_told_48 : decode b_Mo_told 48 = .ok (.istore 6, 2) := by decide +kernel
theorem d_Mo_told_50 : decode b_Mo_told 50 = .ok (.iload 6, 2) := by decide +kernel
theorem d_Mo_told_52 : decode b_Mo_told 52 = .ok (.aload_n 0, 1) := by decide +kernel
theorem d_Mo_told_53 : decode b_Mo_told 53 = .ok (.getfield 44, 3) := by decide +kernel
theorem d_Mo_told_56 : decode b_Mo_told 56 = .ok (.if_icmp .ge 21, 3) := by decide +kernel
theorem d_Mo_told_59 : decode b_Mo_told 59 = .ok (.iload 4, 2) := by decide +kernel
theorem d_Mo_told_61 : decode b_Mo_told 61 = .ok (.aload_n 0, 1) := by decide +kernel
theorem d_Mo_told_62 : decode b_Mo_told 62 = .ok (.iload 6, 2) := by decide +kernel
theorem d_Mo_told_64 : decode b_Mo_told 64 = .ok (.iload_n 1, 1) := by decide +kernel
theorem d_Mo_told_65 : decode b_Mo_told 65 = .ok (.invokevirtual 66, 3) := by decide +kernel
theorem d_Mo_told_68 : decode b_Mo_told 68 = .ok (.iadd, 1) := by decide +kernel
theorem d_Mo_told_69 : decode b_Mo_told 69 = .ok (.istore 4, 2) := by decide +kernel
theorem d_Mo_told_71 : decode b_Mo_told 71 = .ok (.iinc 6 1, 3) := by decide +kernel
theorem d_Mo_told_74 : decode b_Mo_told 74 = .ok (.goto (-24), 3) := by decide +kernel
theorem d_Mo_told_77 : decode b_Mo_told 77 = .ok (.iconst 0, 1) := by decide +kernel
theorem d_Mo_told_78 : decode b_Mo_told 78 = .ok (.istore 6, 2) := by decide +kernel
theorem d_Mo_told_80 : decode b_Mo_told 80 = .ok (.iload 6, 2) := by decide +kernel
theorem d_Mo_told_82 : decode b_Mo_told 82 = .ok (.aload_n 0, 1) := by decide +kernel
theorem d_Mo_told_83 : decode b_Mo_told 83 = .ok (.getfield 44, 3) := by decide +kernel
theorem d_Mo_told_86 : decode b_Mo_told 86 = .ok (.if_icmp .ge 40, 3) := by decide +kernel
theorem d_Mo_told_89 : decode b_Mo_told 89 = .ok (.iload 6, 2) := by decide +kernel
theorem d_Mo_told_91 : decode b_Mo_told 91 = .ok (.iload_n 1, 1) := by decide +kernel
theorem d_Mo_told_92 : decode b_Mo_told 92 = .ok (.if_icmp .eq 28, 3) := by decide +kernel
theorem d_Mo_told_95 : decode b_Mo_told 95 = .ok (.aload_n 0, 1) := by decide +kernel
theorem d_Mo_told_96 : decode b_Mo_told 96 = .ok (.getfield 7, 3) := by decide +kernel
theorem d_Mo_told_99 : decode b_Mo_told 99 = .ok (.iload 6, 2) := by decide +kernel
theorem d_Mo_told_101 : decode b_Mo_told 101 = .ok (.iaload, 1) := by decide +kernel
theorem d_Mo_told_102 : decode b_Mo_told 102 = .ok (.bipush 6, 2) := by decide +kernel
theorem d_Mo_told_104 : decode b_Mo_told 104 = .ok (.if_icmp .eq 16, 3) := by decide +kernel
theorem d_Mo_told_107 : decode b_Mo_told 107 = .ok (.aload_n 0, 1) := by decide +kernel
theorem d_Mo_told_108 : decode b_Mo_told 108 = .ok (.iload_n 1, 1) := by decide +kernel
theorem d_Mo_told_109 : decode b_Mo_told 109 = .ok (.iload 6, 2) := by decide +kernel
theorem d_Mo_told_111 : decode b_Mo_told 111 = .ok (.invokevirtual 79, 3) := by decide +kernel
theorem d_Mo_told_114 : decode b_Mo_told 114 = .ok (.ifCond .eq 6, 3) := by decide +kernel
theorem d_Mo_told_117 : decode b_Mo_told 117 = .ok (.iinc 5 1, 3) := by decide +kernel
theorem d_Mo_told_120 : decode b_Mo_told 120 = .ok (.iinc 6 1, 3) := by decide +kernel
theorem d_Mo_told_123 : decode b_Mo_told 123 = .ok (.goto (-43), 3) := by decide +kernel
theorem d_Mo_told_126 : decode b_Mo_told 126 = .ok (.iload_n 2, 1) := by decide +kernel
theorem d_Mo_told_127 : decode b_Mo_told 127 = .ok (.ifCond .ne 11, 3) := by decide +kernel
theorem d_Mo_told_130 : decode b_Mo_told 130 = .ok (.aload_n 0, 1) := by decide +kernel
theorem d_Mo_told_131 : decode b_Mo_told 131 = .ok (.iload_n 1, 1) := by decide +kernel
theorem d_Mo_told_132 : decode b_Mo_told 132 = .ok (.invokevirtual 70, 3) := by decide +kernel
theorem d_Mo_told_135 : decode b_Mo_told 135 = .ok (.goto 36, 3) := by decide +kernel
theorem d_Mo_told_138 : decode b_Mo_told 138 = .ok (.iload_n 2, 1) := by decide +kernel
theorem d_Mo_told_139 : decode b_Mo_told 139 = .ok (.iconst 1, 1) := by decide +kernel
theorem d_Mo_told_140 : decode b_Mo_told 140 = .ok (.if_icmp .ne 8, 3) := by decide +kernel
theorem d_Mo_told_143 : decode b_Mo_told 143 = .ok (.iload 4, 2) := by decide +kernel
theorem d_Mo_told_145 : decode b_Mo_told 145 = .ok (.goto 26, 3) := by decide +kernel
theorem d_Mo_told_148 : decode b_Mo_told 148 = .ok (.iload_n 2, 1) := by decide +kernel
theorem d_Mo_told_149 : decode b_Mo_told 149 = .ok (.iconst 2, 1) := by decide +kernel
theorem d_Mo_told_150 : decode b_Mo_told 150 = .ok (.if_icmp .ne 19, 3) := by decide +kernel
theorem d_Mo_told_153 : decode b_Mo_told 153 = .ok (.aload_n 0, 1) := by decide +kernel
theorem d_Mo_told_154 : decode b_Mo_told 154 = .ok (.iload_n 1, 1) := by decide +kernel
theorem d_Mo_told_155 : decode b_Mo_told 155 = .ok (.invokevirtual 90, 3) := by decide +kernel
theorem d_Mo_told_158 : decode b_Mo_told 158 = .ok (.ifCond .eq 7, 3) := by decide +kernel
theorem d_Mo_told_161 : decode b_Mo_told 161 = .ok (.iconst 1, 1) := by decide +kernel
theorem d_Mo_told_162 : decode b_Mo_told 162 = .ok (.goto 9, 3) := by decide +kernel
theorem d_Mo_told_165 : decode b_Mo_told 165 = .ok (.iconst 0, 1) := by decide +kernel
theorem d_Mo_told_166 : decode b_Mo_told 166 = .ok (.goto 5, 3) := by decide +kernel
theorem d_Mo_told_169 : decode b_Mo_told 169 = .ok (.iload 5, 2) := by decide +kernel
theorem d_Mo_told_171 : decode b_Mo_told 171 = .ok (.ireturn, 1) := by decide +kernel
theorem d_Mo_cost_0 : decode b_Mo_cost 0 = .ok (.aload_n 0, 1) := by decide +kernel
theorem d_Mo_cost_1 : decode b_Mo_cost 1 = .ok (.aload_n 0, 1) := by decide +kernel
theorem d_Mo_cost_2 : decode b_Mo_cost 2 = .ok (.getfield 62, 3) := by decide +kernel
theorem d_Mo_cost_5 : decode b_Mo_cost 5 = .ok (.ifCond .eq 7, 3) := by decide +kernel
theorem d_Mo_cost_8 : decode b_Mo_cost 8 = .ok (.iconst 0, 1) := by decide +kernel
theorem d_Mo_cost_9 : decode b_Mo_cost 9 = .ok (.goto 4, 3) := by decide +kernel
theorem d_Mo_cost_12 : decode b_Mo_cost 12 = .ok (.iconst 1, 1) := by decide +kernel
theorem d_Mo_cost_13 : decode b_Mo_cost 13 = .ok (.putfield 40, 3) := by decide +kernel
theorem d_Mo_cost_16 : decode b_Mo_cost 16 = .ok (.aload_n 0, 1) := by decide +kernel
theorem d_Mo_cost_17 : decode b_Mo_cost 17 = .ok (.getfield 40, 3) := by decide +kernel
theorem d_Mo_cost_20 : decode b_Mo_cost 20 = .ok (.ifCond .le 5, 3) := by decide +kernel
theorem d_Mo_cost_23 : decode b_Mo_cost 23 = .ok (.dconst 0, 1) := by decide +kernel
theorem d_Mo_cost_24 : decode b_Mo_cost 24 = .ok (.dreturn, 1) := by decide +kernel
theorem d_Mo_cost_25 : decode b_Mo_cost 25 = .ok (.dconst 0, 1) := by decide +kernel
theorem d_Mo_cost_26 : decode b_Mo_cost 26 = .ok (.dstore_n 1, 1) := by decide +kernel
theorem d_Mo_cost_27 : decode b_Mo_cost 27 = .ok (.iconst 0, 1) := by decide +kernel
theorem d_Mo_cost_28 : decode b_Mo_cost 28 = .ok (.istore_n 3, 1) := by decide +kernel
theorem d_Mo_cost_29 : decode b_Mo_cost 29 = .ok (.iload_n 3, 1) := by decide +kernel
theorem d_Mo_cost_30 : decode b_Mo_cost 30 = .ok (.aload_n 0, 1) := by decide +kernel
theorem d_Mo_cost_31 : decode b_Mo_cost 31 = .ok (.getfield 44, 3) := by decide +kernel
theorem d_Mo_cost_34 : decode b_Mo_cost 34 = .ok (.if_icmp .ge 40, 3) := by decide +kernel
theorem d_Mo_cost_37 : decode b_Mo_cost 37 = .ok (.aload_n 0, 1) := by decide +kernel
theorem d_Mo_cost_38 : decode b_Mo_cost 38 = .ok (.getfield 7, 3) := by decide +kernel
theorem d_Mo_cost_41 : decode b_Mo_cost 41 = .ok (.iload_n 3, 1) := by decide +kernel
theorem d_Mo_cost_42 : decode b_Mo_cost 42 = .ok (.iaload, 1) := by decide +kernel
theorem d_Mo_cost_43 : decode b_Mo_cost 43 = .ok (.bipush 6, 2) := by decide +kernel
theorem d_Mo_cost_45 : decode b_Mo_cost 45 = .ok (.if_icmp .eq 23, 3) := by decide +kernel
theorem d_Mo_cost_48 : decode b_Mo_cost 48 = .ok (.aload_n 0, 1) := by decide +kernel
theorem d_Mo_cost_49 : decode b_Mo_cost 49 = .ok (.getfield 22, 3) := by decide +kernel
theorem d_Mo_cost_52 : decode b_Mo_cost 52 = .ok (.iload_n 3, 1) := by decide +kernel
theorem d_Mo_cost_53 : decode b_Mo_cost 53 = .ok (.iaload, 1) := by decide +kernel
theorem d_Mo_cost_54 : decode b_Mo_cost 54 = .ok (.bipush 9, 2) := by decide +kernel
theorem d_Mo_cost_56 : decode b_Mo_cost 56 = .ok (.if_icmp .le 12, 3) := by decide +kernel
theorem d_Mo_cost_59 : decode b_Mo_cost 59 = .ok (.dload_n 1, 1) := by decide +kernel
theorem d_Mo_cost_60 : decode b_Mo_cost 60 = .ok (.aload_n 0, 1) := by decide +kernel
theorem d_Mo_cost_61 : decode b_Mo_cost 61 = .ok (.iload_n 3, 1) := by decide +kernel
theorem d_Mo_cost_62 : decode b_Mo_cost 62 = .ok (.invokevirtual 76, 3) := by decide +kernel
theorem d_Mo_cost_65 : decode b_Mo_cost 65 = .ok (.i2d, 1) := by decide +kernel
theorem d_Mo_cost_66 : decode b_Mo_cost 66 = .ok (.dadd, 1) := by decide +kernel
theorem d_Mo_cost_67 : decode b_Mo_cost 67 = .ok (.dstore_n 1, 1) := by decide +kernel
theorem d_Mo_cost_68 : decode b_Mo_cost 68 = .ok (.iinc 3 1, 3) := by decide +kernel
theorem d_Mo_cost_71 : decode b_Mo_cost 71 = .ok (.goto (-42), 3) := by decide +kernel
theorem d_Mo_cost_74 : decode b_Mo_cost 74 = .ok (.dload_n 1, 1) := by decide +kernel
theorem d_Mo_cost_75 : decode b_Mo_cost 75 = .ok (.dreturn, 1) := by decide +kernel
theorem d_Mo_run_0 : decode b_Mo_run 0 = .ok (.aload_n 0, 1) := by decide +kernel
theorem d_Mo_run_1 : decode b_Mo_run 1 = .ok (.iload_n 1, 1) := by decide +kernel
theorem d_Mo_run_2 : decode b_Mo_run 2 = .ok (.iload_n 2, 1) := by decide +kernel
theorem d_Mo_run_3 : decode b_Mo_run 3 = .ok (.iload_n 3, 1) := by decide +kernel
theorem d_Mo_run_4 : decode b_Mo_run 4 = .ok (.iload 4, 2) := by decide +kernel
theorem d_Mo_run_6 : decode b_Mo_run 6 = .ok (.iconst 0, 1) := by decide +kernel
theorem d_Mo_run_7 : decode b_Mo_run 7 = .ok (.invokevirtual 127, 3) := by decide +kernel
theorem d_Mo_run_10 : decode b_Mo_run 10 = .ok (.istore 5, 2) := by decide +kernel
theorem d_Mo_run_12 : decode b_Mo_run 12 = .ok (.iload 5, 2) := by decide +kernel
theorem d_Mo_run_14 : decode b_Mo_run 14 = .ok (.ifCond .ne 9, 3) := by decide +kernel
theorem d_Mo_run_17 : decode b_Mo_run 17 = .ok (.aload_n 0, 1) := by decide +kernel
theorem d_Mo_run_18 : decode b_Mo_run 18 = .ok (.iconst 1, 1) := by decide +kernel
theorem d_Mo_run_19 : decode b_Mo_run 19 = .ok (.invokevirtual 58, 3) := by decide +kernel
theorem d_Mo_run_22 : decode b_Mo_run 22 = .ok (.ireturn, 1) := by decide +kernel
theorem d_Mo_run_23 : decode b_Mo_run 23 = .ok (.aload_n 0, 1) := by decide +kernel
theorem d_Mo_run_24 : decode b_Mo_run 24 = .ok (.iconst 0, 1) := by decide +kernel
theorem d_Mo_run_25 : decode b_Mo_run 25 = .ok (.putfield 40, 3) := by decide +kernel
theorem d_Mo_run_28 : decode b_Mo_run 28 = .ok (.aload_n 0, 1) := by decide +kernel
theorem d_Mo_run_29 : decode b_Mo_run 29 = .ok (.getfield 120, 3) := by decide +kernel
theorem d_Mo_run_32 : decode b_Mo_run 32 = .ok (.ireturn, 1) := by decide +kernel
theorem d_Mo_perform_0 : decode b_Mo_perform 0 = .ok (.aload_n 0, 1) := by decide +kernel
theorem d_Mo_perform_1 : decode b_Mo_perform 1 = .ok (.iconst 0, 1) := by decide +kernel
theorem d_Mo_perform_2 : decode b_Mo_perform 2 = .ok (.putfield 117, 3) := by decide +kernel
theorem d_Mo_perform_5 : decode b_Mo_perform 5 = .ok (.aload_n 0, 1) := by decide +kernel
theorem d_Mo_perform_6 : decode b_Mo_perform 6 = .ok (.iconst 0, 1) := by decide +kernel
theorem d_Mo_perform_7 : decode b_Mo_perform 7 = .ok (.putfield 120, 3) := by decide +kernel
theorem d_Mo_perform_10 : decode b_Mo_perform 10 = .ok (.iconst 0, 1) := by decide +kernel
theorem d_Mo_perform_11 : decode b_Mo_perform 11 = .ok (.istore 6, 2) := by decide +kernel
theorem d_Mo_perform_13 : decode b_Mo_perform 13 = .ok (.iload 6, 2) := by decide +kernel
theorem d_Mo_perform_15 : decode b_Mo_perform 15 = .ok (.bipush 16, 2) := by decide +kernel
theorem d_Mo_perform_17 : decode b_Mo_perform 17 = .ok (.if_icmp .ge 17, 3) := by decide +kernel
theorem d_Mo_perform_20 : decode b_Mo_perform 20 = .ok (.aload_n 0, 1) := by decide +kernel
theorem d_Mo_perform_21 : decode b_Mo_perform 21 = .ok (.getfield 31, 3) := by decide +kernel
theorem d_Mo_perform_24 : decode b_Mo_perform 24 = .ok (.iload 6, 2) := by decide +kernel
theorem d_Mo_perform_26 : decode b_Mo_perform 26 = .ok (.iconst 0, 1) := by decide +kernel
theorem d_Mo_perform_27 : decode b_Mo_perform 27 = .ok (.iastore, 1) := by decide +kernel
theorem d_Mo_perform_28 : decode b_Mo_perform 28 = .ok (.iinc 6 1, 3) := by decide +kernel
theorem d_Mo_perform_31 : decode b_Mo_perform 31 = .ok (.goto (-18), 3) := by decide +kernel
theorem d_Mo_perform_34 : decode b_Mo_perform 34 = .ok (.iconst 0, 1) := by decide +kernel
theorem d_Mo_perform_35 : decode b_Mo_perform 35 = .ok (.istore 6, 2) := by decide +kernel
theorem d_Mo_perform_37 : decode b_Mo_perform 37 = .ok (.iload 6, 2) := by decide +kernel
theorem d_Mo_perform_39 : decode b_Mo_perform 39 = .ok (.aload_n 0, 1) := by decide +kernel
theorem d_Mo_perform_40 : decode b_Mo_perform 40 = .ok (.getfield 44, 3) := by decide +kernel
theorem d_Mo_perform_43 : decode b_Mo_perform 43 = .ok (.if_icmp .ge 310, 3) := by decide +kernel
theorem d_Mo_perform_46 : decode b_Mo_perform 46 = .ok (.aload_n 0, 1) := by decide +kernel
theorem d_Mo_perform_47 : decode b_Mo_perform 47 = .ok (.getfield 7, 3) := by decide +kernel
theorem d_Mo_perform_50 : decode b_Mo_perform 50 = .ok (.iload 6, 2) := by decide +kernel
theorem d_Mo_perform_52 : decode b_Mo_perform 52 = .ok (.iaload, 1) := by decide +kernel
theorem d_Mo_perform_53 : decode b_Mo_perform 53 = .ok (.istore 7, 2) := by decide +kernel
theorem d_Mo_perform_55 : decode b_Mo_perform 55 = .ok (.iload 7, 2) := by decide +kernel
theorem d_Mo_perform_57 : decode b_Mo_perform 57 = .ok (.iconst 1, 1) := by decide +kernel
theorem d_Mo_perform_58 : decode b_Mo_perform 58 = .ok (.if_icmp .le 19, 3) := by decide +kernel
theorem d_Mo_perform_61 : decode b_Mo_perform 61 = .ok (.aload_n 0, 1) := by decide +kernel
theorem d_Mo_perform_62 : decode b_Mo_perform 62 = .ok (.aload_n 0, 1) := by decide +kernel
theorem d_Mo_perform_63 : decode b_Mo_perform 63 = .ok (.getfield 13, 3) := by decide +kernel
theorem d_Mo_perform_66 : decode b_Mo_perform 66 = .ok (.iload 6, 2) := by decide +kernel
theorem d_Mo_perform_68 : decode b_Mo_perform 68 = .ok (.iaload, 1) := by decide +kernel
theorem d_Mo_perform_69 : decode b_Mo_perform 69 = .ok (.iload 5, 2) := by decide +kernel
theorem d_Mo_perform_71 : decode b_Mo_perform 71 = .ok (.invokevirtual 123, 3) := by decide +kernel
theorem d_Mo_perform_74 : decode b_Mo_perform 74 = .ok (.goto 10, 3) := by decide +kernel
theorem d_Mo_perform_77 : decode b_Mo_perform 77 = .ok (.aload_n 0, 1) := by decide +kernel
theorem d_Mo_perform_78 : decode b_Mo_perform 78 = .ok (.getfield 13, 3) := by decide +kernel
theorem d_Mo_perform_81 : decode b_Mo_perform 81 = .ok (.iload 6, 2) := by decide +kernel
theorem d_Mo_perform_83 : decode b_Mo_perform 83 = .ok (.iaload, 1) := by decide +kernel
theorem d_Mo_perform_84 : decode b_Mo_perform 84 = .ok (.istore 8, 2) := by decide +kernel
theorem d_Mo_perform_86 : decode b_Mo_perform 86 = .ok (.iload 7, 2) := by decide +kernel
theorem d_Mo_perform_88 : decode b_Mo_perform 88 = .ok (.invokestatic 55, 3) := by decide +kernel
theorem d_Mo_perform_91 : decode b_Mo_perform 91 = .ok (.ifCond .eq 19, 3) := by decide +kernel
theorem d_Mo_perform_94 : decode b_Mo_perform 94 = .ok (.aload_n 0, 1) := by decide +kernel
theorem d_Mo_perform_95 : decode b_Mo_perform 95 = .ok (.aload_n 0, 1) := by decide +kernel
theorem d_Mo_perform_96 : decode b_Mo_perform 96 = .ok (.getfield 16, 3) := by decide +kernel
theorem d_Mo_perform_99 : decode b_Mo_perform 99 = .ok (.iload 6, 2) := by decide +kernel
theorem d_Mo_perform_101 : decode b_Mo_perform 101 = .ok (.iaload, 1) := by decide +kernel
theorem d_Mo_perform_102 : decode b_Mo_perform 102 = .ok (.iload 5, 2) := by decide +kernel
theorem d_Mo_perform_104 : decode b_Mo_perform 104 = .ok (.invokevirtual 123, 3) := by decide +kernel
theorem d_Mo_perform_107 : decode b_Mo_perform 107 = .ok (.goto 4, 3) := by decide +kernel
theorem d_Mo_perform_110 : decode b_Mo_perform 110 = .ok (.iconst 0, 1) := by decide +kernel
theorem d_Mo_perform_111 : decode b_Mo_perform 111 = .ok (.istore 9, 2) := by decide +kernel
theorem d_Mo_perform_113 : decode b_Mo_perform 113 = .ok (.iconst 0, 1) := by decide +kernel
theorem d_Mo_perform_114 : decode b_Mo_perform 114 = .ok (.istore 10, 2) := by decide +kernel
theorem d_Mo_perform_116 : decode b_Mo_perform 116 = .ok (.iload 7, 2) := by decide +kernel
theorem d_Mo_perform_118 : decode b_Mo_perform 118 = .ok (.iconst 5, 1) := by decide +kernel
theorem d_Mo_perform_119 : decode b_Mo_perform 119 = .ok (.if_icmp .ne 10, 3) := by decide +kernel
theorem d_Mo_perform_122 : decode b_Mo_perform 122 = .ok (.iload 9, 2) := by decide +kernel
theorem d_Mo_perform_124 : decode b_Mo_perform 124 = .ok (.ifCond .ne 5, 3) := by decide +kernel
theorem d_Mo_perform_127 : decode b_Mo_perform 127 = .ok (.iconst 0, 1) := by decide +kernel
theorem d_Mo_perform_128 : decode b_Mo_perform 128 = .ok (.ireturn, 1) := by decide +kernel
theorem d_Mo_perform_129 : decode b_Mo_perform 129 = .ok (.iload 7, 2) := by decide +kernel
theorem d_Mo_perform_131 : decode b_Mo_perform 131 = .ok (.bipush 6, 2) := by decide +kernel
theorem d_Mo_perform_133 : decode b_Mo_perform 133 = .ok (.if_icmp .ne 32, 3) := by decide +kernel
theorem d_Mo_perform_136 : decode b_Mo_perform 136 = .ok (.aload_n 0, 1) := by decide +kernel
theorem d_Mo_perform_137 : decode b_Mo_perform 137 = .ok (.getfield 34, 3) := by decide +kernel
theorem d_Mo_perform_140 : decode b_Mo_perform 140 = .ok (.aload_n 0, 1) := by decide +kernel
theorem d_Mo_perform_141 : decode b_Mo_perform 141 = .ok (.getfield 117, 3) := by decide +kernel
theorem d_Mo_perform_144 : decode b_Mo_perform 144 = .ok (.iload 8, 2) := by decide +kernel
theorem d_Mo_perform_146 : decode b_Mo_perform 146 = .ok (.iastore, 1) := by decide +kernel
theorem d_Mo_perform_147 : decode b_Mo_perform 147 = .ok (.aload_n 0, 1) := by decide +kernel
theorem d_Mo_perform_148 : decode b_Mo_perform 148 = .ok (.dup, 1) := by decide +kernel
theorem d_Mo_perform_149 : decode b_Mo_perform 149 = .ok (.getfield 117, 3) := by decide +kernel
theorem d_Mo_perform_152 : decode b_Mo_perform 152 = .ok (.iconst 1, 1) := by decide +kernel
theorem d_Mo_perform_153 : decode b_Mo_perform 153 = .ok (.iadd, 1) := by decide +kernel
theorem d_Mo_perform_154 : decode b_Mo_perform 154 = .ok (.putfield 117, 3) := by decide +kernel
theorem d_Mo_perform_157 : decode b_Mo_perform 157 = .ok (.aload_n 0, 1) := by decide +kernel
theorem d_Mo_perform_158 : decode b_Mo_perform 158 = .ok (.iconst 0, 1) := by decide +kernel
theorem d_Mo_perform_159 : decode b_Mo_perform 159 = .ok (.putfield 120, 3) := by decide +kernel
theorem d_Mo_perform_162 : decode b_Mo_perform 162 = .ok (.goto 185, 3) := by decide +kernel
theorem d_Mo_perform_165 : decode b_Mo_perform 165 = .ok (.iload 7, 2) := by decide +kernel
theorem d_Mo_perform_167 : decode b_Mo_perform 167 = .ok (.ifCond .ne 8, 3) := by decide +kernel
theorem d_Mo_perform_170 : decode b_Mo_perform 170 = .ok (.iload 8, 2) := by decide +kernel
theorem d_Mo_perform_172 : decode b_Mo_perform 172 = .ok (.goto 105, 3) := by decide +kernel
theorem d_Mo_perform_175 : decode b_Mo_perform 175 = .ok (.iload 7, 2) := by decide +kernel
theorem d_Mo_perform_177 : decode b_Mo_perform 177 = .ok (.iconst 1, 1) := by decide +kernel
theorem d_Mo_perform_178 : decode b_Mo_perform 178 = .ok (.if_icmp .ne 37, 3) := by decide +kernel
theorem d_Mo_perform_181 : decode b_Mo_perform 181 = .ok (.iload 8, 2) := by decide +kernel
theorem d_Mo_perform_183 : decode b_Mo_perform 183 = .ok (.ifCond .ne 7, 3) := by decide +kernel
theorem d_Mo_perform_186 : decode b_Mo_perform 186 = .ok (.iload_n 1, 1) := by decide +kernel
theorem d_Mo_perform_187 : decode b_Mo_perform 187 = .ok (.goto 90, 3) := by decide +kernel
theorem d_Mo_perform_190 : decode b_Mo_perform 190 = .ok (.iload 8, 2) := by decide +kernel
theorem d_Mo_perform_192 : decode b_Mo_perform 192 = .ok (.iconst 1, 1) := by decide +kernel
theorem d_Mo_perform_193 : decode b_Mo_perform 193 = .ok (.if_icmp .ne 7, 3) := by decide +kernel
theorem d_Mo_perform_196 : decode b_Mo_perform 196 = .ok (.iload_n 2, 1) := by decide +kernel
theorem d_Mo_perform_197 : decode b_Mo_perform 197 = .ok (.goto 80, 3) := by decide +kernel
theorem d_Mo_perform_200 : decode b_Mo_perform 200 = .ok (.iload 8, 2) := by decide +kernel
theorem d_Mo_perform_202 : decode b_Mo_perform 202 = .ok (.iconst 2, 1) := by decide +kernel
theorem d_Mo_perform_203 : decode b_Mo_perform 203 = .ok (.if_icmp .ne 7, 3) := by decide +kernel
theorem d_Mo_perform_206 : decode b_Mo_perform 206 = .ok (.iload_n 3, 1) := by decide +kernel
theorem d_Mo_perform_207 : decode b_Mo_perform 207 = .ok (.goto 70, 3) := by decide +kernel
theorem d_Mo_perform_210 : decode b_Mo_perform 210 = .ok (.iload 4, 2) := by decide +kernel
theorem d_Mo_perform_212 : decode b_Mo_perform 212 = .ok (.goto 65, 3) := by decide +kernel
theorem d_Mo_perform_215 : decode b_Mo_perform 215 = .ok (.iload 7, 2) := by decide +kernel
theorem d_Mo_perform_217 : decode b_Mo_perform 217 = .ok (.iconst 2, 1) := by decide +kernel
theorem d_Mo_perform_218 : decode b_Mo_perform 218 = .ok (.if_icmp .ne 11, 3) := by decide +kernel
theorem d_Mo_perform_221 : decode b_Mo_perform 221 = .ok (.iload 8, 2) := by decide +kernel
theorem d_Mo_perform_223 : decode b_Mo_perform 223 = .ok (.iload 9, 2) := by decide +kernel
theorem d_Mo_perform_225 : decode b_Mo_perform 225 = .ok (.iadd, 1) := by decide +kernel
theorem d_Mo_perform_226 : decode b_Mo_perform 226 = .ok (.goto 51, 3) := by decide +kernel
theorem d_Mo_perform_229 : decode b_Mo_perform 229 = .ok (.iload 7, 2) := by decide +kernel
theorem d_Mo_perform_231 : decode b_Mo_perform 231 = .ok (.iconst 3, 1) := by decide +kernel
theorem d_Mo_perform_232 : decode b_Mo_perform 232 = .ok (.if_icmp .ne 11, 3) := by decide +kernel
theorem d_Mo_perform_235 : decode b_Mo_perform 235 = .ok (.iload 8, 2) := by decide +kernel
theorem d_Mo_perform_237 : decode b_Mo_perform 237 = .ok (.iload 9, 2) := by decide +kernel
theorem d_Mo_perform_239 : decode b_Mo_perform 239 = .ok (.isub, 1) := by decide +kernel
theorem d_Mo_perform_240 : decode b_Mo_perform 240 = .ok (.goto 37, 3) := by decide +kernel
theorem d_Mo_perform_243 : decode b_Mo_perform 243 = .ok (.iload 7, 2) := by decide +kernel
theorem d_Mo_perform_245 : decode b_Mo_perform 245 = .ok (.iconst 4, 1) := by decide +kernel
theorem d_Mo_perform_246 : decode b_Mo_perform 246 = .ok (.if_icmp .ne 11, 3) := by decide +kernel
theorem d_Mo_perform_249 : decode b_Mo_perform 249 = .ok (.iload 8, 2) := by decide +kernel
theorem d_Mo_perform_251 : decode b_Mo_perform 251 = .ok (.iload 9, 2) := by decide +kernel
theorem d_Mo_perform_253 : decode b_Mo_perform 253 = .ok (.imul, 1) := by decide +kernel
theorem d_Mo_perform_254 : decode b_Mo_perform 254 = .ok (.goto 23, 3) := by decide +kernel
theorem d_Mo_perform_257 : decode b_Mo_perform 257 = .ok (.iload 7, 2) := by decide +kernel
theorem d_Mo_perform_259 : decode b_Mo_perform 259 = .ok (.iconst 5, 1) := by decide +kernel
theorem d_Mo_perform_260 : decode b_Mo_perform 260 = .ok (.if_icmp .ne 11, 3) := by decide +kernel
theorem d_Mo_perform_263 : decode b_Mo_perform 263 = .ok (.iload 8, 2) := by decide +kernel
theorem d_Mo_perform_265 : decode b_Mo_perform 265 = .ok (.iload 9, 2) := by decide +kernel
theorem d_Mo_perform_267 : decode b_Mo_perform 267 = .ok (.idiv, 1) := by decide +kernel
theorem d_Mo_perform_268 : decode b_Mo_perform 268 = .ok (.goto 9, 3) := by decide +kernel
theorem d_Mo_perform_271 : decode b_Mo_perform 271 = .ok (.iload 8, 2) := by decide +kernel
theorem d_Mo_perform_273 : decode b_Mo_perform 273 = .ok (.iconst 3, 1) := by decide +kernel
theorem d_Mo_perform_274 : decode b_Mo_perform 274 = .ok (.imul, 1) := by decide +kernel
theorem d_Mo_perform_275 : decode b_Mo_perform 275 = .ok (.iconst 1, 1) := by decide +kernel
theorem d_Mo_perform_276 : decode b_Mo_perform 276 = .ok (.iadd, 1) := by decide +kernel
theorem d_Mo_perform_277 : decode b_Mo_perform 277 = .ok (.istore 10, 2) := by decide +kernel
theorem d_Mo_perform_279 : decode b_Mo_perform 279 = .ok (.iconst 2, 1) := by decide +kernel
theorem d_Mo_perform_280 : decode b_Mo_perform 280 = .ok (.istore 11, 2) := by decide +kernel
theorem d_Mo_perform_282 : decode b_Mo_perform 282 = .ok (.iload 11, 2) := by decide +kernel
theorem d_Mo_perform_284 : decode b_Mo_perform 284 = .ok (.bipush 10, 2) := by decide +kernel
theorem d_Mo_perform_286 : decode b_Mo_perform 286 = .ok (.if_icmp .ge 24, 3) := by decide +kernel
theorem d_Mo_perform_289 : decode b_Mo_perform 289 = .ok (.iload 7, 2) := by decide +kernel
theorem d_Mo_perform_291 : decode b_Mo_perform 291 = .ok (.bipush 7, 2) := by decide +kernel
theorem d_Mo_perform_293 : decode b_Mo_perform 293 = .ok (.if_icmp .ne 17, 3) := by decide +kernel
theorem d_Mo_perform_296 : decode b_Mo_perform 296 = .ok (.aload_n 0, 1) := by decide +kernel
theorem d_Mo_perform_297 : decode b_Mo_perform 297 = .ok (.getfield 31, 3) := by decide +kernel
theorem d_Mo_perform_300 : decode b_Mo_perform 300 = .ok (.iload 11, 2) := by decide +kernel
theorem d_Mo_perform_302 : decode b_Mo_perform 302 = .ok (.iconst (-1), 1) := by decide +kernel
theorem d_Mo_perform_303 : decode b_Mo_perform 303 = .ok (.iastore, 1) := by decide +kernel
theorem d_Mo_perform_304 : decode b_Mo_perform 304 = .ok (.iinc 11 1, 3) := by decide +kernel
theorem d_Mo_perform_307 : decode b_Mo_perform 307 = .ok (.goto (-25), 3) := by decide +kernel
theorem d_Mo_perform_310 : decode b_Mo_perform 310 = .ok (.iload 5, 2) := by decide +kernel
theorem d_Mo_perform_312 : decode b_Mo_perform 312 = .ok (.ifCond .eq 20, 3) := by decide +kernel
theorem d_Mo_perform_315 : decode b_Mo_perform 315 = .ok (.aload_n 0, 1) := by decide +kernel
theorem d_Mo_perform_316 : decode b_Mo_perform 316 = .ok (.getfield 31, 3) := by decide +kernel
theorem d_Mo_perform_319 : decode b_Mo_perform 319 = .ok (.aload_n 0, 1) := by decide +kernel
theorem d_Mo_perform_320 : decode b_Mo_perform 320 = .ok (.getfield 22, 3) := by decide +kernel
theorem d_Mo_perform_323 : decode b_Mo_perform 323 = .ok (.iload 6, 2) := by decide +kernel
theorem d_Mo_perform_325 : decode b_Mo_perform 325 = .ok (.iaload, 1) := by decide +kernel
theorem d_Mo_perform_326 : decode b_Mo_perform 326 = .ok (.iload 10, 2) := by decide +kernel
theorem d_Mo_perform_328 : decode b_Mo_perform 328 = .ok (.iastore, 1) := by decide +kernel
theorem d_Mo_perform_329 : decode b_Mo_perform 329 = .ok (.goto 12, 3) := by decide +kernel
theorem d_Mo_perform_332 : decode b_Mo_perform 332 = .ok (.aload_n 0, 1) := by decide +kernel
theorem d_Mo_perform_333 : decode b_Mo_perform 333 = .ok (.getfield 28, 3) := by decide +kernel
theorem d_Mo_perform_336 : decode b_Mo_perform 336 = .ok (.iload 6, 2) := by decide +kernel
theorem d_Mo_perform_338 : decode b_Mo_perform 338 = .ok (.iload 10, 2) := by decide +kernel
theorem d_Mo_perform_340 : decode b_Mo_perform 340 = .ok (.iastore, 1) := by decide +kernel
theorem d_Mo_perform_341 : decode b_Mo_perform 341 = .ok (.aload_n 0, 1) := by decide +kernel
theorem d_Mo_perform_342 : decode b_Mo_perform 342 = .ok (.iload 10, 2) := by decide +kernel
theorem d_Mo_perform_344 : decode b_Mo_perform 344 = .ok (.putfield 120, 3) := by decide +kernel
theorem d_Mo_perform_347 : decode b_Mo_perform 347 = .ok (.iinc 6 1, 3) := by decide +kernel
theorem d_Mo_perform_350 : decode b_Mo_perform 350 = .ok (.goto (-313), 3) := by decide +kernel
theorem d_Mo_perform_353 : decode b_Mo_perform 353 = .ok (.iconst 1, 1) := by decide +kernel
theorem d_Mo_perform_354 : decode b_Mo_perform 354 = .ok (.ireturn, 1) := by decide +kernel
theorem d_Mo_taken_0 : decode b_Mo_taken 0 = .ok (.iload_n 2, 1) := by decide +kernel
theorem d_Mo_taken_1 : decode b_Mo_taken 1 = .ok (.ifCond .eq 17, 3) := by decide +kernel
theorem d_Mo_taken_4 : decode b_Mo_taken 4 = .ok (.aload_n 0, 1) := by decide +kernel
theorem d_Mo_taken_5 : decode b_Mo_taken 5 = .ok (.getfield 31, 3) := by decide +kernel
theorem d_Mo_taken_8 : decode b_Mo_taken 8 = .ok (.aload_n 0, 1) := by decide +kernel
theorem d_Mo_taken_9 : decode b_Mo_taken 9 = .ok (.getfield 22, 3) := by decide +kernel
theorem d_Mo_taken_12 : decode b_Mo_taken 12 = .ok (.iload_n 1, 1) := by decide +kernel
theorem d_Mo_taken_13 : decode b_Mo_taken 13 = .ok (.iaload, 1) := by decide +kernel
theorem d_Mo_taken_14 : decode b_Mo_taken 14 = .ok (.iaload, 1) := by decide +kernel
theorem d_Mo_taken_15 : decode b_Mo_taken 15 = .ok (.goto 9, 3) := by decide +kernel
theorem d_Mo_taken_18 : decode b_Mo_taken 18 = .ok (.aload_n 0, 1) := by decide +kernel
theorem d_Mo_taken_19 : decode b_Mo_taken 19 = .ok (.getfield 28, 3) := by decide +kernel
theorem d_Mo_taken_22 : decode b_Mo_taken 22 = .ok (.iload_n 1, 1) := by decide +kernel
theorem d_Mo_taken_23 : decode b_Mo_taken 23 = .ok (.iaload, 1) := by decide +kernel
theorem d_Mo_taken_24 : decode b_Mo_taken 24 = .ok (.ireturn, 1) := by decide +kernel
theorem d_Mo_go_0 : decode b_Mo_go 0 = .ok (.aload_n 0, 1) := by decide +kernel
theorem d_Mo_go_1 : decode b_Mo_go 1 = .ok (.getfield 62, 3) := by decide +kernel
theorem d_Mo_go_4 : decode b_Mo_go 4 = .ok (.ifCond .ne 9, 3) := by decide +kernel
theorem d_Mo_go_7 : decode b_Mo_go 7 = .ok (.aload_n 0, 1) := by decide +kernel
theorem d_Mo_go_8 : decode b_Mo_go 8 = .ok (.iconst 1, 1) := by decide +kernel
theorem d_Mo_go_9 : decode b_Mo_go 9 = .ok (.invokevirtual 58, 3) := by decide +kernel
theorem d_Mo_go_12 : decode b_Mo_go 12 = .ok (.ireturn, 1) := by decide +kernel
theorem d_Mo_go_13 : decode b_Mo_go 13 = .ok (.aload_n 0, 1) := by decide +kernel
theorem d_Mo_go_14 : decode b_Mo_go 14 = .ok (.iload_n 1, 1) := by decide +kernel
theorem d_Mo_go_15 : decode b_Mo_go 15 = .ok (.iload_n 2, 1) := by decide +kernel
theorem d_Mo_go_16 : decode b_Mo_go 16 = .ok (.iload_n 3, 1) := by decide +kernel
theorem d_Mo_go_17 : decode b_Mo_go 17 = .ok (.iload 4, 2) := by decide +kernel
theorem d_Mo_go_19 : decode b_Mo_go 19 = .ok (.iconst 1, 1) := by decide +kernel
theorem d_Mo_go_20 : decode b_Mo_go 20 = .ok (.invokevirtual 127, 3) := by decide +kernel
theorem d_Mo_go_23 : decode b_Mo_go 23 = .ok (.istore 5, 2) := by decide +kernel
theorem d_Mo_go_25 : decode b_Mo_go 25 = .ok (.iload 5, 2) := by decide +kernel
theorem d_Mo_go_27 : decode b_Mo_go 27 = .ok (.ifCond .ne 9, 3) := by decide +kernel
theorem d_Mo_go_30 : decode b_Mo_go 30 = .ok (.aload_n 0, 1) := by decide +kernel
theorem d_Mo_go_31 : decode b_Mo_go 31 = .ok (.iconst 2, 1) := by decide +kernel
theorem d_Mo_go_32 : decode b_Mo_go 32 = .ok (.invokevirtual 58, 3) := by decide +kernel
theorem d_Mo_go_35 : decode b_Mo_go 35 = .ok (.ireturn, 1) := by decide +kernel
theorem d_Mo_go_36 : decode b_Mo_go 36 = .ok (.aload_n 0, 1) := by decide +kernel
theorem d_Mo_go_37 : decode b_Mo_go 37 = .ok (.iconst 0, 1) := by decide +kernel
theorem d_Mo_go_38 : decode b_Mo_go 38 = .ok (.putfield 40, 3) := by decide +kernel
theorem d_Mo_go_41 : decode b_Mo_go 41 = .ok (.aload_n 0, 1) := by decide +kernel
theorem d_Mo_go_42 : decode b_Mo_go 42 = .ok (.getfield 120, 3) := by decide +kernel
theorem d_Mo_go_45 : decode b_Mo_go 45 = .ok (.ireturn, 1) := by decide +kernel
theorem d_Mo_same_0 : decode b_Mo_same 0 = .ok (.aload_n 0, 1) := by decide +kernel
theorem d_Mo_same_1 : decode b_Mo_same 1 = .ok (.aload_n 0, 1) := by decide +kernel
theorem d_Mo_same_2 : decode b_Mo_same 2 = .ok (.getfield 62, 3) := by decide +kernel
theorem d_Mo_same_5 : decode b_Mo_same 5 = .ok (.ifCond .eq 7, 3) := by decide +kernel
theorem d_Mo_same_8 : decode b_Mo_same 8 = .ok (.iconst 0, 1) := by decide +kernel
theorem d_Mo_same_9 : decode b_Mo_same 9 = .ok (.goto 4, 3) := by decide +kernel
theorem d_Mo_same_12 : decode b_Mo_same 12 = .ok (.iconst 1, 1) := by decide +kernel
theorem d_Mo_same_13 : decode b_Mo_same 13 = .ok (.putfield 40, 3) := by decide +kernel
theorem d_Mo_same_16 : decode b_Mo_same 16 = .ok (.aload_n 0, 1) := by decide +kernel
theorem d_Mo_same_17 : decode b_Mo_same 17 = .ok (.getfield 40, 3) := by decide +kernel
theorem d_Mo_same_20 : decode b_Mo_same 20 = .ok (.ifCond .le 5, 3) := by decide +kernel
theorem d_Mo_same_23 : decode b_Mo_same 23 = .ok (.iconst 0, 1) := by decide +kernel
theorem d_Mo_same_24 : decode b_Mo_same 24 = .ok (.ireturn, 1) := by decide +kernel
theorem d_Mo_same_25 : decode b_Mo_same 25 = .ok (.aload_n 0, 1) := by decide +kernel
theorem d_Mo_same_26 : decode b_Mo_same 26 = .ok (.iload_n 1, 1) := by decide +kernel
theorem d_Mo_same_27 : decode b_Mo_same 27 = .ok (.iload_n 2, 1) := by decide +kernel
theorem d_Mo_same_28 : decode b_Mo_same 28 = .ok (.iload_n 3, 1) := by decide +kernel
theorem d_Mo_same_29 : decode b_Mo_same 29 = .ok (.iload 4, 2) := by decide +kernel
theorem d_Mo_same_31 : decode b_Mo_same 31 = .ok (.iconst 0, 1) := by decide +kernel
theorem d_Mo_same_32 : decode b_Mo_same 32 = .ok (.invokevirtual 127, 3) := by decide +kernel
theorem d_Mo_same_35 : decode b_Mo_same 35 = .ok (.istore 5, 2) := by decide +kernel
theorem d_Mo_same_37 : decode b_Mo_same 37 = .ok (.aload_n 0, 1) := by decide +kernel
theorem d_Mo_same_38 : decode b_Mo_same 38 = .ok (.getfield 117, 3) := by decide +kernel
theorem d_Mo_same_41 : decode b_Mo_same 41 = .ok (.istore 6, 2) := by decide +kernel
theorem d_Mo_same_43 : decode b_Mo_same 43 = .ok (.aload_n 0, 1) := by decide +kernel
theorem d_Mo_same_44 : decode b_Mo_same 44 = .ok (.getfield 120, 3) := by decide +kernel
theorem d_Mo_same_47 : decode b_Mo_same 47 = .ok (.istore 7, 2) := by decide +kernel
theorem d_Mo_same_49 : decode b_Mo_same 49 = .ok (.iconst 0, 1) := by decide +kernel
theorem d_Mo_same_50 : decode b_Mo_same 50 = .ok (.istore 8, 2) := by decide +kernel
theorem d_Mo_same_52 : decode b_Mo_same 52 = .ok (.iload 8, 2) := by decide +kernel
theorem d_Mo_same_54 : decode b_Mo_same 54 = .ok (.iload 6, 2) := by decide +kernel
theorem d_Mo_same_56 : decode b_Mo_same 56 = .ok (.if_icmp .ge 23, 3) := by decide +kernel
theorem d_Mo_same_59 : decode b_Mo_same 59 = .ok (.aload_n 0, 1) := by decide +kernel
theorem d_Mo_same_60 : decode b_Mo_same 60 = .ok (.getfield 37, 3) := by decide +kernel
theorem d_Mo_same_63 : decode b_Mo_same 63 = .ok (.iload 8, 2) := by decide +kernel
theorem d_Mo_same_65 : decode b_Mo_same 65 = .ok (.aload_n 0, 1) := by decide +kernel
theorem d_Mo_same_66 : decode b_Mo_same 66 = .ok (.getfield 34, 3) := by decide +kernel
theorem d_Mo_same_69 : decode b_Mo_same 69 = .ok (.iload 8, 2) := by decide +kernel
theorem d_Mo_same_71 : decode b_Mo_same 71 = .ok (.iaload, 1) := by decide +kernel
theorem d_Mo_same_72 : decode b_Mo_same 72 = .ok (.iastore, 1) := by decide +kernel
theorem d_Mo_same_73 : decode b_Mo_same 73 = .ok (.iinc 8 1, 3) := by decide +kernel
theorem d_Mo_same_76 : decode b_Mo_same 76 = .ok (.goto (-24), 3) := by decide +kernel
theorem d_Mo_same_79 : decode b_Mo_same 79 = .ok (.aload_n 0, 1) := by decide +kernel
theorem d_Mo_same_80 : decode b_Mo_same 80 = .ok (.iload_n 1, 1) := by decide +kernel
theorem d_Mo_same_81 : decode b_Mo_same 81 = .ok (.iload_n 2, 1) := by decide +kernel
theorem d_Mo_same_82 : decode b_Mo_same 82 = .ok (.iload_n 3, 1) := by decide +kernel
theorem d_Mo_same_83 : decode b_Mo_same 83 = .ok (.iload 4, 2) := by decide +kernel
theorem d_Mo_same_85 : decode b_Mo_same 85 = .ok (.iconst 1, 1) := by decide +kernel
theorem d_Mo_same_86 : decode b_Mo_same 86 = .ok (.invokevirtual 127, 3) := by decide +kernel
theorem d_Mo_same_89 : decode b_Mo_same 89 = .ok (.istore 8, 2) := by decide +kernel
theorem d_Mo_same_91 : decode b_Mo_same 91 = .ok (.iload 5, 2) := by decide +kernel
theorem d_Mo_same_93 : decode b_Mo_same 93 = .ok (.iload 8, 2) := by decide +kernel
theorem d_Mo_same_95 : decode b_Mo_same 95 = .ok (.if_icmp .ne 26, 3) := by decide +kernel
theorem d_Mo_same_98 : decode b_Mo_same 98 = .ok (.iload 6, 2) := by decide +kernel
theorem d_Mo_same_100 : decode b_Mo_same 100 = .ok (.aload_n 0, 1) := by decide +kernel
theorem d_Mo_same_101 : decode b_Mo_same 101 = .ok (.getfield 117, 3) := by decide +kernel
theorem d_Mo_same_104 : decode b_Mo_same 104 = .ok (.if_icmp .ne 17, 3) := by decide +kernel
theorem d_Mo_same_107 : decode b_Mo_same 107 = .ok (.iload 5, 2) := by decide +kernel
theorem d_Mo_same_109 : decode b_Mo_same 109 = .ok (.ifCond .eq 14, 3) := by decide +kernel
theorem d_Mo_same_112 : decode b_Mo_same 112 = .ok (.iload 7, 2) := by decide +kernel
theorem d_Mo_same_114 : decode b_Mo_same 114 = .ok (.aload_n 0, 1) := by decide +kernel
theorem d_Mo_same_115 : decode b_Mo_same 115 = .ok (.getfield 120, 3) := by decide +kernel
theorem d_Mo_same_118 : decode b_Mo_same 118 = .ok (.if_icmp .eq 5, 3) := by decide +kernel
theorem d_Mo_same_121 : decode b_Mo_same 121 = .ok (.iconst 0, 1) := by decide +kernel
theorem d_Mo_same_122 : decode b_Mo_same 122 = .ok (.ireturn, 1) := by decide +kernel
theorem d_Mo_same_123 : decode b_Mo_same 123 = .ok (.iconst 0, 1) := by decide +kernel
theorem d_Mo_same_124 : decode b_Mo_same 124 = .ok (.istore 9, 2) := by decide +kernel
theorem d_Mo_same_126 : decode b_Mo_same 126 = .ok (.iload 9, 2) := by decide +kernel
theorem d_Mo_same_128 : decode b_Mo_same 128 = .ok (.iload 6, 2) := by decide +kernel
theorem d_Mo_same_130 : decode b_Mo_same 130 = .ok (.if_icmp .ge 28, 3) := by decide +kernel
theorem d_Mo_same_133 : decode b_Mo_same 133 = .ok (.aload_n 0, 1) := by decide +kernel
theorem d_Mo_same_134 : decode b_Mo_same 134 = .ok (.getfield 37, 3) := by decide +kernel
theorem d_Mo_same_137 : decode b_Mo_same 137 = .ok (.iload 9, 2) := by decide +kernel
theorem d_Mo_same_139 : decode b_Mo_same 139 = .ok (.iaload, 1) := by decide +kernel
theorem d_Mo_same_140 : decode b_Mo_same 140 = .ok (.aload_n 0, 1) := by decide +kernel
theorem d_Mo_same_141 : decode b_Mo_same 141 = .ok (.getfield 34, 3) := by decide +kernel
theorem d_Mo_same_144 : decode b_Mo_same 144 = .ok (.iload 9, 2) := by decide +kernel
theorem d_Mo_same_146 : decode b_Mo_same 146 = .ok (.iaload, 1) := by decide +kernel
theorem d_Mo_same_147 : decode b_Mo_same 147 = .ok (.if_icmp .eq 5, 3) := by decide +kernel
theorem d_Mo_same_150 : decode b_Mo_same 150 = .ok (.iconst 0, 1) := by decide +kernel
theorem d_Mo_same_151 : decode b_Mo_same 151 = .ok (.ireturn, 1) := by decide +kernel
theorem d_Mo_same_152 : decode b_Mo_same 152 = .ok (.iinc 9 1, 3) := by decide +kernel
theorem d_Mo_same_155 : decode b_Mo_same 155 = .ok (.goto (-29), 3) := by decide +kernel
theorem d_Mo_same_158 : decode b_Mo_same 158 = .ok (.iconst 1, 1) := by decide +kernel
theorem d_Mo_same_159 : decode b_Mo_same 159 = .ok (.ireturn, 1) := by decide +kernel
theorem d_Mo_said_0 : decode b_Mo_said 0 = .ok (.aload_n 0, 1) := by decide +kernel
theorem d_Mo_said_1 : decode b_Mo_said 1 = .ok (.iload_n 1, 1) := by decide +kernel
theorem d_Mo_said_2 : decode b_Mo_said 2 = .ok (.iconst 0, 1) := by decide +kernel
theorem d_Mo_said_3 : decode b_Mo_said 3 = .ok (.aload_n 0, 1) := by decide +kernel
theorem d_Mo_said_4 : decode b_Mo_said 4 = .ok (.getfield 117, 3) := by decide +kernel
theorem d_Mo_said_7 : decode b_Mo_said 7 = .ok (.iconst 1, 1) := by decide +kernel
theorem d_Mo_said_8 : decode b_Mo_said 8 = .ok (.isub, 1) := by decide +kernel
theorem d_Mo_said_9 : decode b_Mo_said 9 = .ok (.invokestatic 47, 3) := by decide +kernel
theorem d_Mo_said_12 : decode b_Mo_said 12 = .ok (.ifCond .eq 7, 3) := by decide +kernel
theorem d_Mo_said_15 : decode b_Mo_said 15 = .ok (.iconst 0, 1) := by decide +kernel
theorem d_Mo_said_16 : decode b_Mo_said 16 = .ok (.goto 4, 3) := by decide +kernel
theorem d_Mo_said_19 : decode b_Mo_said 19 = .ok (.iconst 1, 1) := by decide +kernel
theorem d_Mo_said_20 : decode b_Mo_said 20 = .ok (.putfield 40, 3) := by decide +kernel
theorem d_Mo_said_23 : decode b_Mo_said 23 = .ok (.aload_n 0, 1) := by decide +kernel
theorem d_Mo_said_24 : decode b_Mo_said 24 = .ok (.getfield 40, 3) := by decide +kernel
theorem d_Mo_said_27 : decode b_Mo_said 27 = .ok (.ifCond .le 7, 3) := by decide +kernel
theorem d_Mo_said_30 : decode b_Mo_said 30 = .ok (.iconst 0, 1) := by decide +kernel
theorem d_Mo_said_31 : decode b_Mo_said 31 = .ok (.goto 9, 3) := by decide +kernel
theorem d_Mo_said_34 : decode b_Mo_said 34 = .ok (.aload_n 0, 1) := by decide +kernel
theorem d_Mo_said_35 : decode b_Mo_said 35 = .ok (.getfield 34, 3) := by decide +kernel
theorem d_Mo_said_38 : decode b_Mo_said 38 = .ok (.iload_n 1, 1) := by decide +kernel
theorem d_Mo_said_39 : decode b_Mo_said 39 = .ok (.iaload, 1) := by decide +kernel
theorem d_Mo_said_40 : decode b_Mo_said 40 = .ok (.ireturn, 1) := by decide +kernel
theorem d_Mo_count_0 : decode b_Mo_count 0 = .ok (.iload_n 1, 1) := by decide +kernel
theorem d_Mo_count_1 : decode b_Mo_count 1 = .ok (.iconst 0, 1) := by decide +kernel
theorem d_Mo_count_2 : decode b_Mo_count 2 = .ok (.bipush 7, 2) := by decide +kernel
theorem d_Mo_count_4 : decode b_Mo_count 4 = .ok (.invokestatic 47, 3) := by decide +kernel
theorem d_Mo_count_7 : decode b_Mo_count 7 = .ok (.ifCond .ne 9, 3) := by decide +kernel
theorem d_Mo_count_10 : decode b_Mo_count 10 = .ok (.aload_n 0, 1) := by decide +kernel
theorem d_Mo_count_11 : decode b_Mo_count 11 = .ok (.iconst 1, 1) := by decide +kernel
theorem d_Mo_count_12 : decode b_Mo_count 12 = .ok (.invokevirtual 58, 3) := by decide +kernel
theorem d_Mo_count_15 : decode b_Mo_count 15 = .ok (.ireturn, 1) := by decide +kernel
theorem d_Mo_count_16 : decode b_Mo_count 16 = .ok (.aload_n 0, 1) := by decide +kernel
theorem d_Mo_count_17 : decode b_Mo_count 17 = .ok (.iconst 0, 1) := by decide +kernel
theorem d_Mo_count_18 : decode b_Mo_count 18 = .ok (.putfield 40, 3) := by decide +kernel
theorem d_Mo_count_21 : decode b_Mo_count 21 = .ok (.iconst 0, 1) := by decide +kernel
theorem d_Mo_count_22 : decode b_Mo_count 22 = .ok (.istore_n 2, 1) := by decide +kernel
theorem d_Mo_count_23 : decode b_Mo_count 23 = .ok (.iconst 0, 1) := by decide +kernel
theorem d_Mo_count_24 : decode b_Mo_count 24 = .ok (.istore_n 3, 1) := by decide +kernel
theorem d_Mo_count_25 : decode b_Mo_count 25 = .ok (.iconst 0, 1) := by decide +kernel
theorem d_Mo_count_26 : decode b_Mo_count 26 = .ok (.istore 4, 2) := by decide +kernel
theorem d_Mo_count_28 : decode b_Mo_count 28 = .ok (.iload 4, 2) := by decide +kernel
theorem d_Mo_count_30 : decode b_Mo_count 30 = .ok (.aload_n 0, 1) := by decide +kernel
theorem d_Mo_count_31 : decode b_Mo_count 31 = .ok (.getfield 44, 3) := by decide +kernel
theorem d_Mo_count_34 : decode b_Mo_count 34 = .ok (.if_icmp .ge 49, 3) := by decide +kernel
theorem d_Mo_count_37 : decode b_Mo_count 37 = .ok (.aload_n 0, 1) := by decide +kernel
theorem d_Mo_count_38 : decode b_Mo_count 38 = .ok (.getfield 7, 3) := by decide +kernel
theorem d_Mo_count_41 : decode b_Mo_count 41 = .ok (.iload 4, 2) := by decide +kernel
theorem d_Mo_count_43 : decode b_Mo_count 43 = .ok (.iaload, 1) := by decide +kernel
theorem d_Mo_count_44 : decode b_Mo_count 44 = .ok (.bipush 6, 2) := by decide +kernel
theorem d_Mo_count_46 : decode b_Mo_count 46 = .ok (.if_icmp .ne 6, 3) := by decide +kernel
theorem d_Mo_count_49 : decode b_Mo_count 49 = .ok (.goto 28, 3) := by decide +kernel
theorem d_Mo_count_52 : decode b_Mo_count 52 = .ok (.iinc 2 1, 3) := by decide +kernel
theorem d_Mo_count_55 : decode b_Mo_count 55 = .ok (.aload_n 0, 1) := by decide +kernel
theorem d_Mo_count_56 : decode b_Mo_count 56 = .ok (.getfield 62, 3) := by decide +kernel
theorem d_Mo_count_59 : decode b_Mo_count 59 = .ok (.ifCond .eq 18, 3) := by decide +kernel
theorem d_Mo_count_62 : decode b_Mo_count 62 = .ok (.aload_n 0, 1) := by decide +kernel
theorem d_Mo_count_63 : decode b_Mo_count 63 = .ok (.getfield 22, 3) := by decide +kernel
theorem d_Mo_count_66 : decode b_Mo_count 66 = .ok (.iload 4, 2) := by decide +kernel
theorem d_Mo_count_68 : decode b_Mo_count 68 = .ok (.iaload, 1) := by decide +kernel
theorem d_Mo_count_69 : decode b_Mo_count 69 = .ok (.bipush 9, 2) := by decide +kernel
theorem d_Mo_count_71 : decode b_Mo_count 71 = .ok (.if_icmp .le 6, 3) := by decide +kernel
theorem d_Mo_count_74 : decode b_Mo_count 74 = .ok (.iinc 3 1, 3) := by decide +kernel
theorem d_Mo_count_77 : decode b_Mo_count 77 = .ok (.iinc 4 1, 3) := by decide +kernel
theorem d_Mo_count_80 : decode b_Mo_count 80 = .ok (.goto (-52), 3) := by decide +kernel
theorem d_Mo_count_83 : decode b_Mo_count 83 = .ok (.iload_n 1, 1) := by decide +kernel
theorem d_Mo_count_84 : decode b_Mo_count 84 = .ok (.iconst 3, 1) := by decide +kernel
theorem d_Mo_count_85 : decode b_Mo_count 85 = .ok (.if_icmp .ge 28, 3) := by decide +kernel
theorem d_Mo_count_88 : decode b_Mo_count 88 = .ok (.iload_n 1, 1) := by decide +kernel
theorem d_Mo_count_89 : decode b_Mo_count 89 = .ok (.ifCond .ne 10, 3) := by decide +kernel
theorem d_Mo_count_92 : decode b_Mo_count 92 = .ok (.aload_n 0, 1) := by decide +kernel
theorem d_Mo_count_93 : decode b_Mo_count 93 = .ok (.getfield 44, 3) := by decide +kernel
theorem d_Mo_count_96 : decode b_Mo_count 96 = .ok (.goto 16, 3) := by decide +kernel
theorem d_Mo_count_99 : decode b_Mo_count 99 = .ok (.iload_n 1, 1) := by decide +kernel
theorem d_Mo_count_100 : decode b_Mo_count 100 = .ok (.iconst 1, 1) := by decide +kernel
theorem d_Mo_count_101 : decode b_Mo_count 101 = .ok (.if_icmp .ne 7, 3) := by decide +kernel
theorem d_Mo_count_104 : decode b_Mo_count 104 = .ok (.iload_n 2, 1) := by decide +kernel
theorem d_Mo_count_105 : decode b_Mo_count 105 = .ok (.goto 7, 3) := by decide +kernel
theorem d_Mo_count_108 : decode b_Mo_count 108 = .ok (.aload_n 0, 1) := by decide +kernel
theorem d_Mo_count_109 : decode b_Mo_count 109 = .ok (.getfield 117, 3) := by decide +kernel
theorem d_Mo_count_112 : decode b_Mo_count 112 = .ok (.ireturn, 1) := by decide +kernel
theorem d_Mo_count_113 : decode b_Mo_count 113 = .ok (.aload_n 0, 1) := by decide +kernel
theorem d_Mo_count_114 : decode b_Mo_count 114 = .ok (.getfield 62, 3) := by decide +kernel
theorem d_Mo_count_117 : decode b_Mo_count 117 = .ok (.ifCond .ne 5, 3) := by decide +kernel
theorem d_Mo_count_120 : decode b_Mo_count 120 = .ok (.iconst 0, 1) := by decide +kernel
theorem d_Mo_count_121 : decode b_Mo_count 121 = .ok (.ireturn, 1) := by decide +kernel
theorem d_Mo_count_122 : decode b_Mo_count 122 = .ok (.iload_n 1, 1) := by decide +kernel
theorem d_Mo_count_123 : decode b_Mo_count 123 = .ok (.iconst 3, 1) := by decide +kernel
theorem d_Mo_count_124 : decode b_Mo_count 124 = .ok (.if_icmp .ne 10, 3) := by decide +kernel
theorem d_Mo_count_127 : decode b_Mo_count 127 = .ok (.aload_n 0, 1) := by decide +kernel
theorem d_Mo_count_128 : decode b_Mo_count 128 = .ok (.getfield 111, 3) := by decide +kernel
theorem d_Mo_count_131 : decode b_Mo_count 131 = .ok (.goto 47, 3) := by decide +kernel
theorem d_Mo_count_134 : decode b_Mo_count 134 = .ok (.iload_n 1, 1) := by decide +kernel
theorem d_Mo_count_135 : decode b_Mo_count 135 = .ok (.iconst 4, 1) := by decide +kernel
theorem d_Mo_count_136 : decode b_Mo_count 136 = .ok (.if_icmp .ne 7, 3) := by decide +kernel
theorem d_Mo_count_139 : decode b_Mo_count 139 = .ok (.iload_n 3, 1) := by decide +kernel
theorem d_Mo_count_140 : decode b_Mo_count 140 = .ok (.goto 38, 3) := by decide +kernel
theorem d_Mo_count_143 : decode b_Mo_count 143 = .ok (.iload_n 1, 1) := by decide +kernel
theorem d_Mo_count_144 : decode b_Mo_count 144 = .ok (.iconst 5, 1) := by decide +kernel
theorem d_Mo_count_145 : decode b_Mo_count 145 = .ok (.if_icmp .ne 14, 3) := by decide +kernel
theorem d_Mo_count_148 : decode b_Mo_count 148 = .ok (.aload_n 0, 1) := by decide +kernel
theorem d_Mo_count_149 : decode b_Mo_count 149 = .ok (.bipush 10, 2) := by decide +kernel
theorem d_Mo_count_151 : decode b_Mo_count 151 = .ok (.bipush 16, 2) := by decide +kernel
theorem d_Mo_count_153 : decode b_Mo_count 153 = .ok (.invokevirtual 131, 3) := by decide +kernel
theorem d_Mo_count_156 : decode b_Mo_count 156 = .ok (.goto 22, 3) := by decide +kernel
theorem d_Mo_count_159 : decode b_Mo_count 159 = .ok (.iload_n 1, 1) := by decide +kernel
theorem d_Mo_count_160 : decode b_Mo_count 160 = .ok (.bipush 6, 2) := by decide +kernel
theorem d_Mo_count_162 : decode b_Mo_count 162 = .ok (.if_icmp .ne 12, 3) := by decide +kernel
theorem d_Mo_count_165 : decode b_Mo_count 165 = .ok (.aload_n 0, 1) := by decide +kernel
theorem d_Mo_count_166 : decode b_Mo_count 166 = .ok (.iconst 0, 1) := by decide +kernel
theorem d_Mo_count_167 : decode b_Mo_count 167 = .ok (.iconst 5, 1) := by decide +kernel
theorem d_Mo_count_168 : decode b_Mo_count 168 = .ok (.invokevirtual 131, 3) := by decide +kernel
theorem d_Mo_count_171 : decode b_Mo_count 171 = .ok (.goto 7, 3) := by decide +kernel
theorem d_Mo_count_174 : decode b_Mo_count 174 = .ok (.aload_n 0, 1) := by decide +kernel
theorem d_Mo_count_175 : decode b_Mo_count 175 = .ok (.getfield 114, 3) := by decide +kernel
theorem d_Mo_count_178 : decode b_Mo_count 178 = .ok (.ireturn, 1) := by decide +kernel
theorem d_Mo_used_0 : decode b_Mo_used 0 = .ok (.iconst 0, 1) := by decide +kernel
theorem d_Mo_used_1 : decode b_Mo_used 1 = .ok (.istore_n 3, 1) := by decide +kernel
theorem d_Mo_used_2 : decode b_Mo_used 2 = .ok (.iload_n 1, 1) := by decide +kernel
theorem d_Mo_used_3 : decode b_Mo_used 3 = .ok (.istore 4, 2) := by decide +kernel
theorem d_Mo_used_5 : decode b_Mo_used 5 = .ok (.iload 4, 2) := by decide +kernel
theorem d_Mo_used_7 : decode b_Mo_used 7 = .ok (.iload_n 2, 1) := by decide +kernel
theorem d_Mo_used_8 : decode b_Mo_used 8 = .ok (.if_icmp .ge 65, 3) := by decide +kernel
theorem d_Mo_used_11 : decode b_Mo_used 11 = .ok (.iconst 0, 1) := by decide +kernel
theorem d_Mo_used_12 : decode b_Mo_used 12 = .ok (.istore 5, 2) := by decide +kernel
theorem d_Mo_used_14 : decode b_Mo_used 14 = .ok (.iconst 0, 1) := by decide +kernel
theorem d_Mo_used_15 : decode b_Mo_used 15 = .ok (.istore 6, 2) := by decide +kernel
theorem d_Mo_used_17 : decode b_Mo_used 17 = .ok (.iload 6, 2) := by decide +kernel
theorem d_Mo_used_19 : decode b_Mo_used 19 = .ok (.aload_n 0, 1) := by decide +kernel
theorem d_Mo_used_20 : decode b_Mo_used 20 = .ok (.getfield 44, 3) := by decide +kernel
theorem d_Mo_used_23 : decode b_Mo_used 23 = .ok (.if_icmp .ge 36, 3) := by decide +kernel
theorem d_Mo_used_26 : decode b_Mo_used 26 = .ok (.aload_n 0, 1) := by decide +kernel
theorem d_Mo_used_27 : decode b_Mo_used 27 = .ok (.getfield 7, 3) := by decide +kernel
theorem d_Mo_used_30 : decode b_Mo_used 30 = .ok (.iload 6, 2) := by decide +kernel
theorem d_Mo_used_32 : decode b_Mo_used 32 = .ok (.iaload, 1) := by decide +kernel
theorem d_Mo_used_33 : decode b_Mo_used 33 = .ok (.bipush 6, 2) := by decide +kernel
theorem d_Mo_used_35 : decode b_Mo_used 35 = .ok (.if_icmp .eq 18, 3) := by decide +kernel
theorem d_Mo_used_38 : decode b_Mo_used 38 = .ok (.aload_n 0, 1) := by decide +kernel
theorem d_Mo_used_39 : decode b_Mo_used 39 = .ok (.getfield 22, 3) := by decide +kernel
theorem d_Mo_used_42 : decode b_Mo_used 42 = .ok (.iload 6, 2) := by decide +kernel
theorem d_Mo_used_44 : decode b_Mo_used 44 = .ok (.iaload, 1) := by decide +kernel
theorem d_Mo_used_45 : decode b_Mo_used 45 = .ok (.iload 4, 2) := by decide +kernel
theorem d_Mo_used_47 : decode b_Mo_used 47 = .ok (.if_icmp .ne 6, 3) := by decide +kernel
theorem d_Mo_used_50 : decode b_Mo_used 50 = .ok (.iconst 1, 1) := by decide +kernel
theorem d_Mo_used_51 : decode b_Mo_used 51 = .ok (.istore 5, 2) := by decide +kernel
theorem d_Mo_used_53 : decode b_Mo_used 53 = .ok (.iinc 6 1, 3) := by decide +kernel
theorem d_Mo_used_56 : decode b_Mo_used 56 = .ok (.goto (-39), 3) := by decide +kernel
theorem d_Mo_used_59 : decode b_Mo_used 59 = .ok (.iload 5, 2) := by decide +kernel
theorem d_Mo_used_61 : decode b_Mo_used 61 = .ok (.ifCond .eq 6, 3) := by decide +kernel
theorem d_Mo_used_64 : decode b_Mo_used 64 = .ok (.iinc 3 1, 3) := by decide +kernel
theorem d_Mo_used_67 : decode b_Mo_used 67 = .ok (.iinc 4 1, 3) := by decide +kernel
theorem d_Mo_used_70 : decode b_Mo_used 70 = .ok (.goto (-65), 3) := by decide +kernel
theorem d_Mo_used_73 : decode b_Mo_used 73 = .ok (.iload_n 3, 1) := by decide +kernel
theorem d_Mo_used_74 : decode b_Mo_used 74 = .ok (.ireturn, 1) := by decide +kernel
end
section
/-! decode rows -/
theorem d_La_add_0 : decode b_La_add 0 = .ok (.aload 5, 2) := by decide +kernel
theorem d_La_add_2 : decode b_La_add 2 = .ok (.iconst 0, 1) := by decide +kernel
theorem d_La_add_3 : decode b_La_add 3 = .ok (.aload_n 0, 1) := by decide +kernel
theorem d_La_add_4 : decode b_La_add 4 = .ok (.iload_n 1, 1) := by decide +kernel
theorem d_La_add_5 : decode b_La_add 5 = .ok (.iload_n 2, 1) := by decide +kernel
theorem d_La_add_6 : decode b_La_add 6 = .ok (.iload_n 3, 1) := by decide +kernel
theorem d_La_add_7 : decode b_La_add 7 = .ok (.iload 4, 2) := by decide +kernel
theorem d_La_add_9 : decode b_La_add 9 = .ok (.invokevirtual 7, 3) := by decide +kernel
theorem d_La_add_12 : decode b_La_add 12 = .ok (.i2l, 1) := by decide +kernel
theorem d_La_add_13 : decode b_La_add 13 = .ok (.lastore, 1) := by decide +kernel
theorem d_La_add_14 : decode b_La_add 14 = .ok (.goto 11, 3) := by decide +kernel
theorem d_La_add_17 : decode b_La_add 17 = .ok (.astore 6, 2) := by decide +kernel
theorem d_La_add_19 : decode b_La_add 19 = .ok (.iconst 1, 1) := by decide +kernel
theorem d_La_add_20 : decode b_La_add 20 = .ok (.ireturn, 1) := by decide +kernel
theorem d_La_add_21 : decode b_La_add 21 = .ok (.astore 6, 2) := by decide +kernel
theorem d_La_add_23 : decode b_La_add 23 = .ok (.iconst 2, 1) := by decide +kernel
theorem d_La_add_24 : decode b_La_add 24 = .ok (.ireturn, 1) := by decide +kernel
theorem d_La_add_25 : decode b_La_add 25 = .ok (.iconst 0, 1) := by decide +kernel
theorem d_La_add_26 : decode b_La_add 26 = .ok (.ireturn, 1) := by decide +kernel
theorem d_La_allocate_0 : decode b_La_allocate 0 = .ok (.aload_n 2, 1) := by decide +kernel
theorem d_La_allocate_1 : decode b_La_allocate 1 = .ok (.iconst 0, 1) := by decide +kernel
theorem d_La_allocate_2 : decode b_La_allocate 2 = .ok (.aload_n 0, 1) := by decide +kernel
theorem d_La_allocate_3 : decode b_La_allocate 3 = .ok (.iload_n 1, 1) := by decide +kernel
theorem d_La_allocate_4 : decode b_La_allocate 4 = .ok (.invokevirtual 17, 3) := by decide +kernel
theorem d_La_allocate_7 : decode b_La_allocate 7 = .ok (.i2l, 1) := by decide +kernel
theorem d_La_allocate_8 : decode b_La_allocate 8 = .ok (.lastore, 1) := by decide +kernel
theorem d_La_allocate_9 : decode b_La_allocate 9 = .ok (.goto 9, 3) := by decide +kernel
theorem d_La_allocate_12 : decode b_La_allocate 12 = .ok (.astore_n 3, 1) := by decide +kernel
theorem d_La_allocate_13 : decode b_La_allocate 13 = .ok (.iconst 1, 1) := by decide +kernel
theorem d_La_allocate_14 : decode b_La_allocate 14 = .ok (.ireturn, 1) := by decide +kernel
theorem d_La_allocate_15 : decode b_La_allocate 15 = .ok (.astore_n 3, 1) := by decide +kernel
theorem d_La_allocate_16 : decode b_La_allocate 16 = .ok (.iconst 2, 1) := by decide +kernel
theorem d_La_allocate_17 : decode b_La_allocate 17 = .ok (.ireturn, 1) := by decide +kernel
theorem d_La_allocate_18 : decode b_La_allocate 18 = .ok (.iconst 0, 1) := by decide +kernel
theorem d_La_allocate_19 : decode b_La_allocate 19 = .ok (.ireturn, 1) := by decide +kernel
theorem d_La_place_0 : decode b_La_place 0 = .ok (.aload_n 2, 1) := by decide +kernel
theorem d_La_place_1 : decode b_La_place 1 = .ok (.iconst 0, 1) := by decide +kernel
theorem d_La_place_2 : decode b_La_place 2 = .ok (.aload_n 0, 1) := by decide +kernel
theorem d_La_place_3 : decode b_La_place 3 = .ok (.iload_n 1, 1) := by decide +kernel
theorem d_La_place_4 : decode b_La_place 4 = .ok (.invokevirtual 21, 3) := by decide +kernel
theorem d_La_place_7 : decode b_La_place 7 = .ok (.i2l, 1) := by decide +kernel
theorem d_La_place_8 : decode b_La_place 8 = .ok (.lastore, 1) := by decide +kernel
theorem d_La_place_9 : decode b_La_place 9 = .ok (.goto 9, 3) := by decide +kernel
theorem d_La_place_12 : decode b_La_place 12 = .ok (.astore_n 3, 1) := by decide +kernel
theorem d_La_place_13 : decode b_La_place 13 = .ok (.iconst 1, 1) := by decide +kernel
theorem d_La_place_14 : decode b_La_place 14 = .ok (.ireturn, 1) := by decide +kernel
theorem d_La_place_15 : decode b_La_place 15 = .ok (.astore_n 3, 1) := by decide +kernel
theorem d_La_place_16 : decode b_La_place 16 = .ok (.iconst 2, 1) := by decide +kernel
theorem d_La_place_17 : decode b_La_place 17 = .ok (.ireturn, 1) := by decide +kernel
theorem d_La_place_18 : decode b_La_place 18 = .ok (.iconst 0, 1) := by decide +kernel
theorem d_La_place_19 : decode b_La_place 19 = .ok (.ireturn, 1) := by decide +kernel
theorem d_La_weight_0 : decode b_La_weight 0 = .ok (.aload_n 2, 1) := by decide +kernel
theorem d_La_weight_1 : decode b_La_weight 1 = .ok (.iconst 0, 1) := by decide +kernel
theorem d_La_weight_2 : decode b_La_weight 2 = .ok (.aload_n 0, 1) := by decide +kernel
theorem d_La_weight_3 : decode b_La_weight 3 = .ok (.iload_n 1, 1) := by decide +kernel
theorem d_La_weight_4 : decode b_La_weight 4 = .ok (.invokevirtual 26, 3) := by decide +kernel
theorem d_La_weight_7 : decode b_La_weight 7 = .ok (.dastore, 1) := by decide +kernel
theorem d_La_weight_8 : decode b_La_weight 8 = .ok (.goto 6, 3) := by decide +kernel
theorem d_La_weight_11 : decode b_La_weight 11 = .ok (.astore_n 3, 1) := by decide +kernel
theorem d_La_weight_12 : decode b_La_weight 12 = .ok (.iconst 1, 1) := by decide +kernel
theorem d_La_weight_13 : decode b_La_weight 13 = .ok (.ireturn, 1) := by decide +kernel
theorem d_La_weight_14 : decode b_La_weight 14 = .ok (.iconst 0, 1) := by decide +kernel
theorem d_La_weight_15 : decode b_La_weight 15 = .ok (.ireturn, 1) := by decide +kernel
theorem d_La_told_0 : decode b_La_told 0 = .ok (.aload_n 3, 1) := by decide +kernel
theorem d_La_told_1 : decode b_La_told 1 = .ok (.iconst 0, 1) := by decide +kernel
theorem d_La_told_2 : decode b_La_told 2 = .ok (.aload_n 0, 1) := by decide +kernel
theorem d_La_told_3 : decode b_La_told 3 = .ok (.iload_n 1, 1) := by decide +kernel
theorem d_La_told_4 : decode b_La_told 4 = .ok (.iload_n 2, 1) := by decide +kernel
theorem d_La_told_5 : decode b_La_told 5 = .ok (.invokevirtual 30, 3) := by decide +kernel
theorem d_La_told_8 : decode b_La_told 8 = .ok (.i2l, 1) := by decide +kernel
theorem d_La_told_9 : decode b_La_told 9 = .ok (.lastore, 1) := by decide +kernel
theorem d_La_told_10 : decode b_La_told 10 = .ok (.goto 11, 3) := by decide +kernel
theorem d_La_told_13 : decode b_La_told 13 = .ok (.astore 4, 2) := by decide +kernel
theorem d_La_told_15 : decode b_La_told 15 = .ok (.iconst 1, 1) := by decide +kernel
theorem d_La_told_16 : decode b_La_told 16 = .ok (.ireturn, 1) := by decide +kernel
theorem d_La_told_17 : decode b_La_told 17 = .ok (.astore 4, 2) := by decide +kernel
theorem d_La_told_19 : decode b_La_told 19 = .ok (.iconst 2, 1) := by decide +kernel
theorem d_La_told_20 : decode b_La_told 20 = .ok (.ireturn, 1) := by decide +kernel
theorem d_La_told_21 : decode b_La_told 21 = .ok (.iconst 0, 1) := by decide +kernel
theorem d_La_told_22 : decode b_La_told 22 = .ok (.ireturn, 1) := by decide +kernel
theorem d_La_cost_0 : decode b_La_cost 0 = .ok (.aload_n 1, 1) := by decide +kernel
theorem d_La_cost_1 : decode b_La_cost 1 = .ok (.iconst 0, 1) := by decide +kernel
theorem d_La_cost_2 : decode b_La_cost 2 = .ok (.aload_n 0, 1) := by decide +kernel
theorem d_La_cost_3 : decode b_La_cost 3 = .ok (.invokevirtual 34, 3) := by decide +kernel
theorem d_La_cost_6 : decode b_La_cost 6 = .ok (.dastore, 1) := by decide +kernel
theorem d_La_cost_7 : decode b_La_cost 7 = .ok (.goto 6, 3) := by decide +kernel
theorem d_La_cost_10 : decode b_La_cost 10 = .ok (.astore_n 2, 1) := by decide +kernel
theorem d_La_cost_11 : decode b_La_cost 11 = .ok (.iconst 1, 1) := by decide +kernel
theorem d_La_cost_12 : decode b_La_cost 12 = .ok (.ireturn, 1) := by decide +kernel
theorem d_La_cost_13 : decode b_La_cost 13 = .ok (.iconst 0, 1) := by decide +kernel
theorem d_La_cost_14 : decode b_La_cost 14 = .ok (.ireturn, 1) := by decide +kernel
theorem d_La_run_0 : decode b_La_run 0 = .ok (.aload 5, 2) := by decide +kernel
theorem d_La_run_2 : decode b_La_run 2 = .ok (.iconst 0, 1) := by decide +kernel
theorem d_La_run_3 : decode b_La_run 3 = .ok (.aload_n 0, 1) := by decide +kernel
theorem d_La_run_4 : decode b_La_run 4 = .ok (.iload_n 1, 1) := by decide +kernel
theorem d_La_run_5 : decode b_La_run 5 = .ok (.iload_n 2, 1) := by decide +kernel
theorem d_La_run_6 : decode b_La_run 6 = .ok (.iload_n 3, 1) := by decide +kernel
theorem d_La_run_7 : decode b_La_run 7 = .ok (.iload 4, 2) := by decide +kernel
theorem d_La_run_9 : decode b_La_run 9 = .ok (.invokevirtual 38, 3) := by decide +kernel
theorem d_La_run_12 : decode b_La_run 12 = .ok (.i2l, 1) := by decide +kernel
theorem d_La_run_13 : decode b_La_run 13 = .ok (.lastore, 1) := by decide +kernel
theorem d_La_run_14 : decode b_La_run 14 = .ok (.goto 7, 3) := by decide +kernel
theorem d_La_run_17 : decode b_La_run 17 = .ok (.astore 6, 2) := by decide +kernel
theorem d_La_run_19 : decode b_La_run 19 = .ok (.iconst 1, 1) := by decide +kernel
theorem d_La_run_20 : decode b_La_run 20 = .ok (.ireturn, 1) := by decide +kernel
theorem d_La_run_21 : decode b_La_run 21 = .ok (.iconst 0, 1) := by decide +kernel
theorem d_La_run_22 : decode b_La_run 22 = .ok (.ireturn, 1) := by decide +kernel
theorem d_La_go_0 : decode b_La_go 0 = .ok (.aload 5, 2) := by decide +kernel
theorem d_La_go_2 : decode b_La_go 2 = .ok (.iconst 0, 1) := by decide +kernel
theorem d_La_go_3 : decode b_La_go 3 = .ok (.aload_n 0, 1) := by decide +kernel
theorem d_La_go_4 : decode b_La_go 4 = .ok (.iload_n 1, 1) := by decide +kernel
theorem d_La_go_5 : decode b_La_go 5 = .ok (.iload_n 2, 1) := by decide +kernel
theorem d_La_go_6 : decode b_La_go 6 = .ok (.iload_n 3, 1) := by decide +kernel
theorem d_La_go_7 : decode b_La_go 7 = .ok (.iload 4, 2) := by decide +kernel
theorem d_La_go_9 : decode b_La_go 9 = .ok (.invokevirtual 43, 3) := by decide +kernel
theorem d_La_go_12 : decode b_La_go 12 = .ok (.i2l, 1) := by decide +kernel
theorem d_La_go_13 : decode b_La_go 13 = .ok (.lastore, 1) := by decide +kernel
theorem d_La_go_14 : decode b_La_go 14 = .ok (.goto 11, 3) := by decide +kernel
theorem d_La_go_17 : decode b_La_go 17 = .ok (.astore 6, 2) := by decide +kernel
theorem d_La_go_19 : decode b_La_go 19 = .ok (.iconst 1, 1) := by decide +kernel
theorem d_La_go_20 : decode b_La_go 20 = .ok (.ireturn, 1) := by decide +kernel
theorem d_La_go_21 : decode b_La_go 21 = .ok (.astore 6, 2) := by decide +kernel
theorem d_La_go_23 : decode b_La_go 23 = .ok (.iconst 2, 1) := by decide +kernel
theorem d_La_go_24 : decode b_La_go 24 = .ok (.ireturn, 1) := by decide +kernel
theorem d_La_go_25 : decode b_La_go 25 = .ok (.iconst 0, 1) := by decide +kernel
theorem d_La_go_26 : decode b_La_go 26 = .ok (.ireturn, 1) := by decide +kernel
theorem d_La_same_0 : decode b_La_same 0 = .ok (.aload 5, 2) := by decide +kernel
theorem d_La_same_2 : decode b_La_same 2 = .ok (.iconst 0, 1) := by decide +kernel
theorem d_La_same_3 : decode b_La_same 3 = .ok (.aload_n 0, 1) := by decide +kernel
theorem d_La_same_4 : decode b_La_same 4 = .ok (.iload_n 1, 1) := by decide +kernel
theorem d_La_same_5 : decode b_La_same 5 = .ok (.iload_n 2, 1) := by decide +kernel
theorem d_La_same_6 : decode b_La_same 6 = .ok (.iload_n 3, 1) := by decide +kernel
theorem d_La_same_7 : decode b_La_same 7 = .ok (.iload 4, 2) := by decide +kernel
theorem d_La_same_9 : decode b_La_same 9 = .ok (.invokevirtual 46, 3) := by decide +kernel
theorem d_La_same_12 : decode b_La_same 12 = .ok (.ifCond .eq 7, 3) := by decide +kernel
theorem d_La_same_15 : decode b_La_same 15 = .ok (.lconst 1, 1) := by decide +kernel
theorem d_La_same_16 : decode b_La_same 16 = .ok (.goto 4, 3) := by decide +kernel
theorem d_La_same_19 : decode b_La_same 19 = .ok (.lconst 0, 1) := by decide +kernel
theorem d_La_same_20 : decode b_La_same 20 = .ok (.lastore, 1) := by decide +kernel
theorem d_La_same_21 : decode b_La_same 21 = .ok (.goto 7, 3) := by decide +kernel
theorem d_La_same_24 : decode b_La_same 24 = .ok (.astore 6, 2) := by decide +kernel
theorem d_La_same_26 : decode b_La_same 26 = .ok (.iconst 1, 1) := by decide +kernel
theorem d_La_same_27 : decode b_La_same 27 = .ok (.ireturn, 1) := by decide +kernel
theorem d_La_same_28 : decode b_La_same 28 = .ok (.iconst 0, 1) := by decide +kernel
theorem d_La_same_29 : decode b_La_same 29 = .ok (.ireturn, 1) := by decide +kernel
theorem d_La_said_0 : decode b_La_said 0 = .ok (.aload_n 2, 1) := by decide +kernel
theorem d_La_said_1 : decode b_La_said 1 = .ok (.iconst 0, 1) := by decide +kernel
theorem d_La_said_2 : decode b_La_said 2 = .ok (.aload_n 0, 1) := by decide +kernel
theorem d_La_said_3 : decode b_La_said 3 = .ok (.iload_n 1, 1) := by decide +kernel
theorem d_La_said_4 : decode b_La_said 4 = .ok (.invokevirtual 50, 3) := by decide +kernel
theorem d_La_said_7 : decode b_La_said 7 = .ok (.i2l, 1) := by decide +kernel
theorem d_La_said_8 : decode b_La_said 8 = .ok (.lastore, 1) := by decide +kernel
theorem d_La_said_9 : decode b_La_said 9 = .ok (.goto 6, 3) := by decide +kernel
theorem d_La_said_12 : decode b_La_said 12 = .ok (.astore_n 3, 1) := by decide +kernel
theorem d_La_said_13 : decode b_La_said 13 = .ok (.iconst 1, 1) := by decide +kernel
theorem d_La_said_14 : decode b_La_said 14 = .ok (.ireturn, 1) := by decide +kernel
theorem d_La_said_15 : decode b_La_said 15 = .ok (.iconst 0, 1) := by decide +kernel
theorem d_La_said_16 : decode b_La_said 16 = .ok (.ireturn, 1) := by decide +kernel
theorem d_La_count_0 : decode b_La_count 0 = .ok (.aload_n 2, 1) := by decide +kernel
theorem d_La_count_1 : decode b_La_count 1 = .ok (.iconst 0, 1) := by decide +kernel
theorem d_La_count_2 : decode b_La_count 2 = .ok (.aload_n 0, 1) := by decide +kernel
theorem d_La_count_3 : decode b_La_count 3 = .ok (.iload_n 1, 1) := by decide +kernel
theorem d_La_count_4 : decode b_La_count 4 = .ok (.invokevirtual 53, 3) := by decide +kernel
theorem d_La_count_7 : decode b_La_count 7 = .ok (.i2l, 1) := by decide +kernel
theorem d_La_count_8 : decode b_La_count 8 = .ok (.lastore, 1) := by decide +kernel
theorem d_La_count_9 : decode b_La_count 9 = .ok (.goto 6, 3) := by decide +kernel
theorem d_La_count_12 : decode b_La_count 12 = .ok (.astore_n 3, 1) := by decide +kernel
theorem d_La_count_13 : decode b_La_count 13 = .ok (.iconst 1, 1) := by decide +kernel
theorem d_La_count_14 : decode b_La_count 14 = .ok (.ireturn, 1) := by decide +kernel
theorem d_La_count_15 : decode b_La_count 15 = .ok (.iconst 0, 1) := by decide +kernel
theorem d_La_count_16 : decode b_La_count 16 = .ok (.ireturn, 1) := by decide +kernel
theorem d_La_law_0 : decode b_La_law 0 = .ok (.new 8, 3) := by decide +kernel
theorem d_La_law_3 : decode b_La_law 3 = .ok (.dup, 1) := by decide +kernel
theorem d_La_law_4 : decode b_La_law 4 = .ok (.invokespecial 56, 3) := by decide +kernel
theorem d_La_law_7 : decode b_La_law 7 = .ok (.astore_n 1, 1) := by decide +kernel
theorem d_La_law_8 : decode b_La_law 8 = .ok (.new 57, 3) := by decide +kernel
theorem d_La_law_11 : decode b_La_law 11 = .ok (.dup, 1) := by decide +kernel
theorem d_La_law_12 : decode b_La_law 12 = .ok (.invokespecial 59, 3) := by decide +kernel
theorem d_La_law_15 : decode b_La_law 15 = .ok (.astore_n 2, 1) := by decide +kernel
theorem d_La_law_16 : decode b_La_law 16 = .ok (.iconst 1, 1) := by decide +kernel
theorem d_La_law_17 : decode b_La_law 17 = .ok (.newarray .long, 2) := by decide +kernel
theorem d_La_law_19 : decode b_La_law 19 = .ok (.astore_n 3, 1) := by decide +kernel
theorem d_La_law_20 : decode b_La_law 20 = .ok (.iconst 1, 1) := by decide +kernel
theorem d_La_law_21 : decode b_La_law 21 = .ok (.newarray .double, 2) := by decide +kernel
theorem d_La_law_23 : decode b_La_law 23 = .ok (.astore 4, 2) := by decide +kernel
theorem d_La_law_25 : decode b_La_law 25 = .ok (.iconst 0, 1) := by decide +kernel
theorem d_La_law_26 : decode b_La_law 26 = .ok (.istore 5, 2) := by decide +kernel
theorem d_La_law_28 : decode b_La_law 28 = .ok (.iload 5, 2) := by decide +kernel
theorem d_La_law_30 : decode b_La_law 30 = .ok (.aload_n 0, 1) := by decide +kernel
theorem d_La_law_31 : decode b_La_law 31 = .ok (.arraylength, 1) := by decide +kernel
theorem d_La_law_32 : decode b_La_law 32 = .ok (.iconst 5, 1) := by decide +kernel
theorem d_La_law_33 : decode b_La_law 33 = .ok (.isub, 1) := by decide +kernel
theorem d_La_law_34 : decode b_La_law 34 = .ok (.if_icmp .gt 902, 3) := by decide +kernel
theorem d_La_law_37 : decode b_La_law 37 = .ok (.aload_n 0, 1) := by decide +kernel
theorem d_La_law_38 : decode b_La_law 38 = .ok (.iload 5, 2) := by decide +kernel
theorem d_La_law_40 : decode b_La_law 40 = .ok (.iaload, 1) := by decide +kernel
theorem d_La_law_41 : decode b_La_law 41 = .ok (.bipush 15, 2) := by decide +kernel
theorem d_La_law_43 : decode b_La_law 43 = .ok (.iand, 1) := by decide +kernel
theorem d_La_law_44 : decode b_La_law 44 = .ok (.tableswitch 886 0 11 #[64, 156, 169, 225, 281, 358, 426, 491, 583, 675, 774, 830], 64) := by decide +kernel
theorem d_La_law_108 : decode b_La_law 108 = .ok (.aload_n 1, 1) := by decide +kernel
end
section
/-! decode rows -/
theorem d_La_law_109 : decode b_La_law 109 = .ok (.aload_n 0, 1) := by decide +kernel
theorem d_La_law_110 : decode b_La_law 110 = .ok (.iload 5, 2) := by decide +kernel
theorem d_La_law_112 : decode b_La_law 112 = .ok (.iconst 1, 1) := by decide +kernel
theorem d_La_law_113 : decode b_La_law 113 = .ok (.iadd, 1) := by decide +kernel
theorem d_La_law_114 : decode b_La_law 114 = .ok (.iaload, 1) := by decide +kernel
theorem d_La_law_115 : decode b_La_law 115 = .ok (.aload_n 0, 1) := by decide +kernel
theorem d_La_law_116 : decode b_La_law 116 = .ok (.iload 5, 2) := by decide +kernel
theorem d_La_law_118 : decode b_La_law 118 = .ok (.iconst 2, 1) := by decide +kernel
theorem d_La_law_119 : decode b_La_law 119 = .ok (.iadd, 1) := by decide +kernel
theorem d_La_law_120 : decode b_La_law 120 = .ok (.iaload, 1) := by decide +kernel
theorem d_La_law_121 : decode b_La_law 121 = .ok (.aload_n 0, 1) := by decide +kernel
theorem d_La_law_122 : decode b_La_law 122 = .ok (.iload 5, 2) := by decide +kernel
theorem d_La_law_124 : decode b_La_law 124 = .ok (.iconst 3, 1) := by decide +kernel
theorem d_La_law_125 : decode b_La_law 125 = .ok (.iadd, 1) := by decide +kernel
theorem d_La_law_126 : decode b_La_law 126 = .ok (.iaload, 1) := by decide +kernel
theorem d_La_law_127 : decode b_La_law 127 = .ok (.aload_n 0, 1) := by decide +kernel
theorem d_La_law_128 : decode b_La_law 128 = .ok (.iload 5, 2) := by decide +kernel
theorem d_La_law_130 : decode b_La_law 130 = .ok (.iconst 4, 1) := by decide +kernel
theorem d_La_law_131 : decode b_La_law 131 = .ok (.iadd, 1) := by decide +kernel
theorem d_La_law_132 : decode b_La_law 132 = .ok (.iaload, 1) := by decide +kernel
theorem d_La_law_133 : decode b_La_law 133 = .ok (.aload_n 3, 1) := by decide +kernel
theorem d_La_law_134 : decode b_La_law 134 = .ok (.invokestatic 60, 3) := by decide +kernel
theorem d_La_law_137 : decode b_La_law 137 = .ok (.istore 6, 2) := by decide +kernel
theorem d_La_law_139 : decode b_La_law 139 = .ok (.aload_n 2, 1) := by decide +kernel
theorem d_La_law_140 : decode b_La_law 140 = .ok (.aload_n 0, 1) := by decide +kernel
theorem d_La_law_141 : decode b_La_law 141 = .ok (.iload 5, 2) := by decide +kernel
theorem d_La_law_143 : decode b_La_law 143 = .ok (.iconst 1, 1) := by decide +kernel
theorem d_La_law_144 : decode b_La_law 144 = .ok (.iadd, 1) := by decide +kernel
theorem d_La_law_145 : decode b_La_law 145 = .ok (.iaload, 1) := by decide +kernel
theorem d_La_law_146 : decode b_La_law 146 = .ok (.aload_n 0, 1) := by decide +kernel
theorem d_La_law_147 : decode b_La_law 147 = .ok (.iload 5, 2) := by decide +kernel
theorem d_La_law_149 : decode b_La_law 149 = .ok (.iconst 2, 1) := by decide +kernel
theorem d_La_law_150 : decode b_La_law 150 = .ok (.iadd, 1) := by decide +kernel
theorem d_La_law_151 : decode b_La_law 151 = .ok (.iaload, 1) := by decide +kernel
theorem d_La_law_152 : decode b_La_law 152 = .ok (.aload_n 0, 1) := by decide +kernel
theorem d_La_law_153 : decode b_La_law 153 = .ok (.iload 5, 2) := by decide +kernel
theorem d_La_law_155 : decode b_La_law 155 = .ok (.iconst 3, 1) := by decide +kernel
theorem d_La_law_156 : decode b_La_law 156 = .ok (.iadd, 1) := by decide +kernel
theorem d_La_law_157 : decode b_La_law 157 = .ok (.iaload, 1) := by decide +kernel
theorem d_La_law_158 : decode b_La_law 158 = .ok (.aload_n 0, 1) := by decide +kernel
theorem d_La_law_159 : decode b_La_law 159 = .ok (.iload 5, 2) := by decide +kernel
theorem d_La_law_161 : decode b_La_law 161 = .ok (.iconst 4, 1) := by decide +kernel
theorem d_La_law_162 : decode b_La_law 162 = .ok (.iadd, 1) := by decide +kernel
theorem d_La_law_163 : decode b_La_law 163 = .ok (.iaload, 1) := by decide +kernel
theorem d_La_law_164 : decode b_La_law 164 = .ok (.invokevirtual 65, 3) := by decide +kernel
theorem d_La_law_167 : decode b_La_law 167 = .ok (.istore 7, 2) := by decide +kernel
theorem d_La_law_169 : decode b_La_law 169 = .ok (.aload_n 2, 1) := by decide +kernel
theorem d_La_law_170 : decode b_La_law 170 = .ok (.invokevirtual 66, 3) := by decide +kernel
theorem d_La_law_173 : decode b_La_law 173 = .ok (.iload 6, 2) := by decide +kernel
theorem d_La_law_175 : decode b_La_law 175 = .ok (.if_icmp .eq 5, 3) := by decide +kernel
theorem d_La_law_178 : decode b_La_law 178 = .ok (.iconst 0, 1) := by decide +kernel
theorem d_La_law_179 : decode b_La_law 179 = .ok (.ireturn, 1) := by decide +kernel
theorem d_La_law_180 : decode b_La_law 180 = .ok (.iload 6, 2) := by decide +kernel
theorem d_La_law_182 : decode b_La_law 182 = .ok (.ifCond .ne 15, 3) := by decide +kernel
theorem d_La_law_185 : decode b_La_law 185 = .ok (.aload_n 3, 1) := by decide +kernel
theorem d_La_law_186 : decode b_La_law 186 = .ok (.iconst 0, 1) := by decide +kernel
theorem d_La_law_187 : decode b_La_law 187 = .ok (.laload, 1) := by decide +kernel
theorem d_La_law_188 : decode b_La_law 188 = .ok (.iload 7, 2) := by decide +kernel
theorem d_La_law_190 : decode b_La_law 190 = .ok (.i2l, 1) := by decide +kernel
theorem d_La_law_191 : decode b_La_law 191 = .ok (.lcmp, 1) := by decide +kernel
theorem d_La_law_192 : decode b_La_law 192 = .ok (.ifCond .eq 5, 3) := by decide +kernel
theorem d_La_law_195 : decode b_La_law 195 = .ok (.iconst 0, 1) := by decide +kernel
theorem d_La_law_196 : decode b_La_law 196 = .ok (.ireturn, 1) := by decide +kernel
theorem d_La_law_197 : decode b_La_law 197 = .ok (.goto 733, 3) := by decide +kernel
theorem d_La_law_200 : decode b_La_law 200 = .ok (.aload_n 1, 1) := by decide +kernel
theorem d_La_law_201 : decode b_La_law 201 = .ok (.invokevirtual 70, 3) := by decide +kernel
theorem d_La_law_204 : decode b_La_law 204 = .ok (.aload_n 2, 1) := by decide +kernel
theorem d_La_law_205 : decode b_La_law 205 = .ok (.invokevirtual 73, 3) := by decide +kernel
theorem d_La_law_208 : decode b_La_law 208 = .ok (.if_icmp .eq 722, 3) := by decide +kernel
theorem d_La_law_211 : decode b_La_law 211 = .ok (.iconst 0, 1) := by decide +kernel
theorem d_La_law_212 : decode b_La_law 212 = .ok (.ireturn, 1) := by decide +kernel
theorem d_La_law_213 : decode b_La_law 213 = .ok (.aload_n 1, 1) := by decide +kernel
theorem d_La_law_214 : decode b_La_law 214 = .ok (.aload_n 0, 1) := by decide +kernel
theorem d_La_law_215 : decode b_La_law 215 = .ok (.iload 5, 2) := by decide +kernel
theorem d_La_law_217 : decode b_La_law 217 = .ok (.iconst 1, 1) := by decide +kernel
theorem d_La_law_218 : decode b_La_law 218 = .ok (.iadd, 1) := by decide +kernel
theorem d_La_law_219 : decode b_La_law 219 = .ok (.iaload, 1) := by decide +kernel
theorem d_La_law_220 : decode b_La_law 220 = .ok (.aload_n 3, 1) := by decide +kernel
theorem d_La_law_221 : decode b_La_law 221 = .ok (.invokestatic 74, 3) := by decide +kernel
theorem d_La_law_224 : decode b_La_law 224 = .ok (.istore 6, 2) := by decide +kernel
theorem d_La_law_226 : decode b_La_law 226 = .ok (.aload_n 2, 1) := by decide +kernel
theorem d_La_law_227 : decode b_La_law 227 = .ok (.aload_n 0, 1) := by decide +kernel
theorem d_La_law_228 : decode b_La_law 228 = .ok (.iload 5, 2) := by decide +kernel
theorem d_La_law_230 : decode b_La_law 230 = .ok (.iconst 1, 1) := by decide +kernel
theorem d_La_law_231 : decode b_La_law 231 = .ok (.iadd, 1) := by decide +kernel
theorem d_La_law_232 : decode b_La_law 232 = .ok (.iaload, 1) := by decide +kernel
theorem d_La_law_233 : decode b_La_law 233 = .ok (.invokevirtual 77, 3) := by decide +kernel
theorem d_La_law_236 : decode b_La_law 236 = .ok (.istore 7, 2) := by decide +kernel
theorem d_La_law_238 : decode b_La_law 238 = .ok (.aload_n 2, 1) := by decide +kernel
theorem d_La_law_239 : decode b_La_law 239 = .ok (.invokevirtual 66, 3) := by decide +kernel
theorem d_La_law_242 : decode b_La_law 242 = .ok (.iload 6, 2) := by decide +kernel
theorem d_La_law_244 : decode b_La_law 244 = .ok (.if_icmp .eq 5, 3) := by decide +kernel
theorem d_La_law_247 : decode b_La_law 247 = .ok (.iconst 0, 1) := by decide +kernel
theorem d_La_law_248 : decode b_La_law 248 = .ok (.ireturn, 1) := by decide +kernel
theorem d_La_law_249 : decode b_La_law 249 = .ok (.iload 6, 2) := by decide +kernel
theorem d_La_law_251 : decode b_La_law 251 = .ok (.ifCond .ne 15, 3) := by decide +kernel
theorem d_La_law_254 : decode b_La_law 254 = .ok (.aload_n 3, 1) := by decide +kernel
theorem d_La_law_255 : decode b_La_law 255 = .ok (.iconst 0, 1) := by decide +kernel
theorem d_La_law_256 : decode b_La_law 256 = .ok (.laload, 1) := by decide +kernel
theorem d_La_law_257 : decode b_La_law 257 = .ok (.iload 7, 2) := by decide +kernel
theorem d_La_law_259 : decode b_La_law 259 = .ok (.i2l, 1) := by decide +kernel
theorem d_La_law_260 : decode b_La_law 260 = .ok (.lcmp, 1) := by decide +kernel
theorem d_La_law_261 : decode b_La_law 261 = .ok (.ifCond .eq 5, 3) := by decide +kernel
theorem d_La_law_264 : decode b_La_law 264 = .ok (.iconst 0, 1) := by decide +kernel
theorem d_La_law_265 : decode b_La_law 265 = .ok (.ireturn, 1) := by decide +kernel
theorem d_La_law_266 : decode b_La_law 266 = .ok (.goto 664, 3) := by decide +kernel
theorem d_La_law_269 : decode b_La_law 269 = .ok (.aload_n 1, 1) := by decide +kernel
theorem d_La_law_270 : decode b_La_law 270 = .ok (.aload_n 0, 1) := by decide +kernel
theorem d_La_law_271 : decode b_La_law 271 = .ok (.iload 5, 2) := by decide +kernel
theorem d_La_law_273 : decode b_La_law 273 = .ok (.iconst 1, 1) := by decide +kernel
theorem d_La_law_274 : decode b_La_law 274 = .ok (.iadd, 1) := by decide +kernel
theorem d_La_law_275 : decode b_La_law 275 = .ok (.iaload, 1) := by decide +kernel
theorem d_La_law_276 : decode b_La_law 276 = .ok (.aload_n 3, 1) := by decide +kernel
theorem d_La_law_277 : decode b_La_law 277 = .ok (.invokestatic 78, 3) := by decide +kernel
theorem d_La_law_280 : decode b_La_law 280 = .ok (.istore 6, 2) := by decide +kernel
theorem d_La_law_282 : decode b_La_law 282 = .ok (.aload_n 2, 1) := by decide +kernel
theorem d_La_law_283 : decode b_La_law 283 = .ok (.aload_n 0, 1) := by decide +kernel
theorem d_La_law_284 : decode b_La_law 284 = .ok (.iload 5, 2) := by decide +kernel
theorem d_La_law_286 : decode b_La_law 286 = .ok (.iconst 1, 1) := by decide +kernel
theorem d_La_law_287 : decode b_La_law 287 = .ok (.iadd, 1) := by decide +kernel
theorem d_La_law_288 : decode b_La_law 288 = .ok (.iaload, 1) := by decide +kernel
theorem d_La_law_289 : decode b_La_law 289 = .ok (.invokevirtual 80, 3) := by decide +kernel
theorem d_La_law_292 : decode b_La_law 292 = .ok (.istore 7, 2) := by decide +kernel
theorem d_La_law_294 : decode b_La_law 294 = .ok (.aload_n 2, 1) := by decide +kernel
theorem d_La_law_295 : decode b_La_law 295 = .ok (.invokevirtual 66, 3) := by decide +kernel
theorem d_La_law_298 : decode b_La_law 298 = .ok (.iload 6, 2) := by decide +kernel
theorem d_La_law_300 : decode b_La_law 300 = .ok (.if_icmp .eq 5, 3) := by decide +kernel
theorem d_La_law_303 : decode b_La_law 303 = .ok (.iconst 0, 1) := by decide +kernel
theorem d_La_law_304 : decode b_La_law 304 = .ok (.ireturn, 1) := by decide +kernel
theorem d_La_law_305 : decode b_La_law 305 = .ok (.iload 6, 2) := by decide +kernel
theorem d_La_law_307 : decode b_La_law 307 = .ok (.ifCond .ne 15, 3) := by decide +kernel
theorem d_La_law_310 : decode b_La_law 310 = .ok (.aload_n 3, 1) := by decide +kernel
theorem d_La_law_311 : decode b_La_law 311 = .ok (.iconst 0, 1) := by decide +kernel
theorem d_La_law_312 : decode b_La_law 312 = .ok (.laload, 1) := by decide +kernel
theorem d_La_law_313 : decode b_La_law 313 = .ok (.iload 7, 2) := by decide +kernel
theorem d_La_law_315 : decode b_La_law 315 = .ok (.i2l, 1) := by decide +kernel
theorem d_La_law_316 : decode b_La_law 316 = .ok (.lcmp, 1) := by decide +kernel
theorem d_La_law_317 : decode b_La_law 317 = .ok (.ifCond .eq 5, 3) := by decide +kernel
theorem d_La_law_320 : decode b_La_law 320 = .ok (.iconst 0, 1) := by decide +kernel
theorem d_La_law_321 : decode b_La_law 321 = .ok (.ireturn, 1) := by decide +kernel
theorem d_La_law_322 : decode b_La_law 322 = .ok (.goto 608, 3) := by decide +kernel
theorem d_La_law_325 : decode b_La_law 325 = .ok (.aload_n 1, 1) := by decide +kernel
theorem d_La_law_326 : decode b_La_law 326 = .ok (.aload_n 0, 1) := by decide +kernel
theorem d_La_law_327 : decode b_La_law 327 = .ok (.iload 5, 2) := by decide +kernel
theorem d_La_law_329 : decode b_La_law 329 = .ok (.iconst 1, 1) := by decide +kernel
theorem d_La_law_330 : decode b_La_law 330 = .ok (.iadd, 1) := by decide +kernel
theorem d_La_law_331 : decode b_La_law 331 = .ok (.iaload, 1) := by decide +kernel
theorem d_La_law_332 : decode b_La_law 332 = .ok (.aload 4, 2) := by decide +kernel
theorem d_La_law_334 : decode b_La_law 334 = .ok (.invokestatic 81, 3) := by decide +kernel
theorem d_La_law_337 : decode b_La_law 337 = .ok (.istore 6, 2) := by decide +kernel
theorem d_La_law_339 : decode b_La_law 339 = .ok (.aload_n 2, 1) := by decide +kernel
theorem d_La_law_340 : decode b_La_law 340 = .ok (.aload_n 0, 1) := by decide +kernel
theorem d_La_law_341 : decode b_La_law 341 = .ok (.iload 5, 2) := by decide +kernel
theorem d_La_law_343 : decode b_La_law 343 = .ok (.iconst 1, 1) := by decide +kernel
theorem d_La_law_344 : decode b_La_law 344 = .ok (.iadd, 1) := by decide +kernel
theorem d_La_law_345 : decode b_La_law 345 = .ok (.iaload, 1) := by decide +kernel
theorem d_La_law_346 : decode b_La_law 346 = .ok (.invokevirtual 84, 3) := by decide +kernel
theorem d_La_law_349 : decode b_La_law 349 = .ok (.dstore 7, 2) := by decide +kernel
theorem d_La_law_351 : decode b_La_law 351 = .ok (.aload_n 2, 1) := by decide +kernel
theorem d_La_law_352 : decode b_La_law 352 = .ok (.invokevirtual 66, 3) := by decide +kernel
theorem d_La_law_355 : decode b_La_law 355 = .ok (.iload 6, 2) := by decide +kernel
theorem d_La_law_357 : decode b_La_law 357 = .ok (.if_icmp .eq 5, 3) := by decide +kernel
theorem d_La_law_360 : decode b_La_law 360 = .ok (.iconst 0, 1) := by decide +kernel
theorem d_La_law_361 : decode b_La_law 361 = .ok (.ireturn, 1) := by decide +kernel
theorem d_La_law_362 : decode b_La_law 362 = .ok (.iload 6, 2) := by decide +kernel
theorem d_La_law_364 : decode b_La_law 364 = .ok (.ifCond .ne 35, 3) := by decide +kernel
theorem d_La_law_367 : decode b_La_law 367 = .ok (.aload 4, 2) := by decide +kernel
theorem d_La_law_369 : decode b_La_law 369 = .ok (.iconst 0, 1) := by decide +kernel
theorem d_La_law_370 : decode b_La_law 370 = .ok (.daload, 1) := by decide +kernel
theorem d_La_law_371 : decode b_La_law 371 = .ok (.dload 7, 2) := by decide +kernel
theorem d_La_law_373 : decode b_La_law 373 = .ok (.dcmp .l, 1) := by decide +kernel
theorem d_La_law_374 : decode b_La_law 374 = .ok (.ifCond .eq 25, 3) := by decide +kernel
theorem d_La_law_377 : decode b_La_law 377 = .ok (.aload 4, 2) := by decide +kernel
theorem d_La_law_379 : decode b_La_law 379 = .ok (.iconst 0, 1) := by decide +kernel
theorem d_La_law_380 : decode b_La_law 380 = .ok (.daload, 1) := by decide +kernel
theorem d_La_law_381 : decode b_La_law 381 = .ok (.aload 4, 2) := by decide +kernel
theorem d_La_law_383 : decode b_La_law 383 = .ok (.iconst 0, 1) := by decide +kernel
theorem d_La_law_384 : decode b_La_law 384 = .ok (.daload, 1) := by decide +kernel
theorem d_La_law_385 : decode b_La_law 385 = .ok (.dcmp .l, 1) := by decide +kernel
theorem d_La_law_386 : decode b_La_law 386 = .ok (.ifCond .eq 11, 3) := by decide +kernel
theorem d_La_law_389 : decode b_La_law 389 = .ok (.dload 7, 2) := by decide +kernel
theorem d_La_law_391 : decode b_La_law 391 = .ok (.dload 7, 2) := by decide +kernel
theorem d_La_law_393 : decode b_La_law 393 = .ok (.dcmp .l, 1) := by decide +kernel
theorem d_La_law_394 : decode b_La_law 394 = .ok (.ifCond .ne 5, 3) := by decide +kernel
theorem d_La_law_397 : decode b_La_law 397 = .ok (.iconst 0, 1) := by decide +kernel
theorem d_La_law_398 : decode b_La_law 398 = .ok (.ireturn, 1) := by decide +kernel
theorem d_La_law_399 : decode b_La_law 399 = .ok (.goto 531, 3) := by decide +kernel
theorem d_La_law_402 : decode b_La_law 402 = .ok (.aload_n 1, 1) := by decide +kernel
theorem d_La_law_403 : decode b_La_law 403 = .ok (.aload_n 0, 1) := by decide +kernel
theorem d_La_law_404 : decode b_La_law 404 = .ok (.iload 5, 2) := by decide +kernel
theorem d_La_law_406 : decode b_La_law 406 = .ok (.iconst 1, 1) := by decide +kernel
theorem d_La_law_407 : decode b_La_law 407 = .ok (.iadd, 1) := by decide +kernel
theorem d_La_law_408 : decode b_La_law 408 = .ok (.iaload, 1) := by decide +kernel
theorem d_La_law_409 : decode b_La_law 409 = .ok (.aload_n 0, 1) := by decide +kernel
theorem d_La_law_410 : decode b_La_law 410 = .ok (.iload 5, 2) := by decide +kernel
theorem d_La_law_412 : decode b_La_law 412 = .ok (.iconst 2, 1) := by decide +kernel
theorem d_La_law_413 : decode b_La_law 413 = .ok (.iadd, 1) := by decide +kernel
theorem d_La_law_414 : decode b_La_law 414 = .ok (.iaload, 1) := by decide +kernel
theorem d_La_law_415 : decode b_La_law 415 = .ok (.aload_n 3, 1) := by decide +kernel
theorem d_La_law_416 : decode b_La_law 416 = .ok (.invokestatic 85, 3) := by decide +kernel
end
section
/-! decode rows -/
theorem d_La_law_419 : decode b_La_law 419 = .ok (.istore 6, 2) := by decide +kernel
theorem d_La_law_421 : decode b_La_law 421 = .ok (.aload_n 2, 1) := by decide +kernel
theorem d_La_law_422 : decode b_La_law 422 = .ok (.aload_n 0, 1) := by decide +kernel
theorem d_La_law_423 : decode b_La_law 423 = .ok (.iload 5, 2) := by decide +kernel
theorem d_La_law_425 : decode b_La_law 425 = .ok (.iconst 1, 1) := by decide +kernel
theorem d_La_law_426 : decode b_La_law 426 = .ok (.iadd, 1) := by decide +kernel
theorem d_La_law_427 : decode b_La_law 427 = .ok (.iaload, 1) := by decide +kernel
theorem d_La_law_428 : decode b_La_law 428 = .ok (.aload_n 0, 1) := by decide +kernel
theorem d_La_law_429 : decode b_La_law 429 = .ok (.iload 5, 2) := by decide +kernel
theorem d_La_law_431 : decode b_La_law 431 = .ok (.iconst 2, 1) := by decide +kernel
theorem d_La_law_432 : decode b_La_law 432 = .ok (.iadd, 1) := by decide +kernel
theorem d_La_law_433 : decode b_La_law 433 = .ok (.iaload, 1) := by decide +kernel
theorem d_La_law_434 : decode b_La_law 434 = .ok (.invokevirtual 88, 3) := by decide +kernel
theorem d_La_law_437 : decode b_La_law 437 = .ok (.istore 7, 2) := by decide +kernel
theorem d_La_law_439 : decode b_La_law 439 = .ok (.aload_n 2, 1) := by decide +kernel
theorem d_La_law_440 : decode b_La_law 440 = .ok (.invokevirtual 66, 3) := by decide +kernel
theorem d_La_law_443 : decode b_La_law 443 = .ok (.iload 6, 2) := by decide +kernel
theorem d_La_law_445 : decode b_La_law 445 = .ok (.if_icmp .eq 5, 3) := by decide +kernel
theorem d_La_law_448 : decode b_La_law 448 = .ok (.iconst 0, 1) := by decide +kernel
theorem d_La_law_449 : decode b_La_law 449 = .ok (.ireturn, 1) := by decide +kernel
theorem d_La_law_450 : decode b_La_law 450 = .ok (.iload 6, 2) := by decide +kernel
theorem d_La_law_452 : decode b_La_law 452 = .ok (.ifCond .ne 15, 3) := by decide +kernel
theorem d_La_law_455 : decode b_La_law 455 = .ok (.aload_n 3, 1) := by decide +kernel
theorem d_La_law_456 : decode b_La_law 456 = .ok (.iconst 0, 1) := by decide +kernel
theorem d_La_law_457 : decode b_La_law 457 = .ok (.laload, 1) := by decide +kernel
theorem d_La_law_458 : decode b_La_law 458 = .ok (.iload 7, 2) := by decide +kernel
theorem d_La_law_460 : decode b_La_law 460 = .ok (.i2l, 1) := by decide +kernel
theorem d_La_law_461 : decode b_La_law 461 = .ok (.lcmp, 1) := by decide +kernel
theorem d_La_law_462 : decode b_La_law 462 = .ok (.ifCond .eq 5, 3) := by decide +kernel
theorem d_La_law_465 : decode b_La_law 465 = .ok (.iconst 0, 1) := by decide +kernel
theorem d_La_law_466 : decode b_La_law 466 = .ok (.ireturn, 1) := by decide +kernel
theorem d_La_law_467 : decode b_La_law 467 = .ok (.goto 463, 3) := by decide +kernel
theorem d_La_law_470 : decode b_La_law 470 = .ok (.aload_n 1, 1) := by decide +kernel
theorem d_La_law_471 : decode b_La_law 471 = .ok (.aload 4, 2) := by decide +kernel
theorem d_La_law_473 : decode b_La_law 473 = .ok (.invokestatic 89, 3) := by decide +kernel
theorem d_La_law_476 : decode b_La_law 476 = .ok (.istore 6, 2) := by decide +kernel
theorem d_La_law_478 : decode b_La_law 478 = .ok (.aload_n 2, 1) := by decide +kernel
theorem d_La_law_479 : decode b_La_law 479 = .ok (.invokevirtual 92, 3) := by decide +kernel
theorem d_La_law_482 : decode b_La_law 482 = .ok (.dstore 7, 2) := by decide +kernel
theorem d_La_law_484 : decode b_La_law 484 = .ok (.aload_n 2, 1) := by decide +kernel
theorem d_La_law_485 : decode b_La_law 485 = .ok (.invokevirtual 66, 3) := by decide +kernel
theorem d_La_law_488 : decode b_La_law 488 = .ok (.iload 6, 2) := by decide +kernel
theorem d_La_law_490 : decode b_La_law 490 = .ok (.if_icmp .eq 5, 3) := by decide +kernel
theorem d_La_law_493 : decode b_La_law 493 = .ok (.iconst 0, 1) := by decide +kernel
theorem d_La_law_494 : decode b_La_law 494 = .ok (.ireturn, 1) := by decide +kernel
theorem d_La_law_495 : decode b_La_law 495 = .ok (.iload 6, 2) := by decide +kernel
theorem d_La_law_497 : decode b_La_law 497 = .ok (.ifCond .ne 35, 3) := by decide +kernel
theorem d_La_law_500 : decode b_La_law 500 = .ok (.aload 4, 2) := by decide +kernel
theorem d_La_law_502 : decode b_La_law 502 = .ok (.iconst 0, 1) := by decide +kernel
theorem d_La_law_503 : decode b_La_law 503 = .ok (.daload, 1) := by decide +kernel
theorem d_La_law_504 : decode b_La_law 504 = .ok (.dload 7, 2) := by decide +kernel
theorem d_La_law_506 : decode b_La_law 506 = .ok (.dcmp .l, 1) := by decide +kernel
theorem d_La_law_507 : decode b_La_law 507 = .ok (.ifCond .eq 25, 3) := by decide +kernel
theorem d_La_law_510 : decode b_La_law 510 = .ok (.aload 4, 2) := by decide +kernel
theorem d_La_law_512 : decode b_La_law 512 = .ok (.iconst 0, 1) := by decide +kernel
theorem d_La_law_513 : decode b_La_law 513 = .ok (.daload, 1) := by decide +kernel
theorem d_La_law_514 : decode b_La_law 514 = .ok (.aload 4, 2) := by decide +kernel
theorem d_La_law_516 : decode b_La_law 516 = .ok (.iconst 0, 1) := by decide +kernel
theorem d_La_law_517 : decode b_La_law 517 = .ok (.daload, 1) := by decide +kernel
theorem d_La_law_518 : decode b_La_law 518 = .ok (.dcmp .l, 1) := by decide +kernel
theorem d_La_law_519 : decode b_La_law 519 = .ok (.ifCond .eq 11, 3) := by decide +kernel
theorem d_La_law_522 : decode b_La_law 522 = .ok (.dload 7, 2) := by decide +kernel
theorem d_La_law_524 : decode b_La_law 524 = .ok (.dload 7, 2) := by decide +kernel
theorem d_La_law_526 : decode b_La_law 526 = .ok (.dcmp .l, 1) := by decide +kernel
theorem d_La_law_527 : decode b_La_law 527 = .ok (.ifCond .ne 5, 3) := by decide +kernel
theorem d_La_law_530 : decode b_La_law 530 = .ok (.iconst 0, 1) := by decide +kernel
theorem d_La_law_531 : decode b_La_law 531 = .ok (.ireturn, 1) := by decide +kernel
theorem d_La_law_532 : decode b_La_law 532 = .ok (.goto 398, 3) := by decide +kernel
theorem d_La_law_535 : decode b_La_law 535 = .ok (.aload_n 1, 1) := by decide +kernel
theorem d_La_law_536 : decode b_La_law 536 = .ok (.aload_n 0, 1) := by decide +kernel
theorem d_La_law_537 : decode b_La_law 537 = .ok (.iload 5, 2) := by decide +kernel
theorem d_La_law_539 : decode b_La_law 539 = .ok (.iconst 1, 1) := by decide +kernel
theorem d_La_law_540 : decode b_La_law 540 = .ok (.iadd, 1) := by decide +kernel
theorem d_La_law_541 : decode b_La_law 541 = .ok (.iaload, 1) := by decide +kernel
theorem d_La_law_542 : decode b_La_law 542 = .ok (.aload_n 0, 1) := by decide +kernel
theorem d_La_law_543 : decode b_La_law 543 = .ok (.iload 5, 2) := by decide +kernel
theorem d_La_law_545 : decode b_La_law 545 = .ok (.iconst 2, 1) := by decide +kernel
theorem d_La_law_546 : decode b_La_law 546 = .ok (.iadd, 1) := by decide +kernel
theorem d_La_law_547 : decode b_La_law 547 = .ok (.iaload, 1) := by decide +kernel
theorem d_La_law_548 : decode b_La_law 548 = .ok (.aload_n 0, 1) := by decide +kernel
theorem d_La_law_549 : decode b_La_law 549 = .ok (.iload 5, 2) := by decide +kernel
theorem d_La_law_551 : decode b_La_law 551 = .ok (.iconst 3, 1) := by decide +kernel
theorem d_La_law_552 : decode b_La_law 552 = .ok (.iadd, 1) := by decide +kernel
theorem d_La_law_553 : decode b_La_law 553 = .ok (.iaload, 1) := by decide +kernel
theorem d_La_law_554 : decode b_La_law 554 = .ok (.aload_n 0, 1) := by decide +kernel
theorem d_La_law_555 : decode b_La_law 555 = .ok (.iload 5, 2) := by decide +kernel
theorem d_La_law_557 : decode b_La_law 557 = .ok (.iconst 4, 1) := by decide +kernel
theorem d_La_law_558 : decode b_La_law 558 = .ok (.iadd, 1) := by decide +kernel
theorem d_La_law_559 : decode b_La_law 559 = .ok (.iaload, 1) := by decide +kernel
theorem d_La_law_560 : decode b_La_law 560 = .ok (.aload_n 3, 1) := by decide +kernel
theorem d_La_law_561 : decode b_La_law 561 = .ok (.invokestatic 93, 3) := by decide +kernel
theorem d_La_law_564 : decode b_La_law 564 = .ok (.istore 6, 2) := by decide +kernel
theorem d_La_law_566 : decode b_La_law 566 = .ok (.aload_n 2, 1) := by decide +kernel
theorem d_La_law_567 : decode b_La_law 567 = .ok (.aload_n 0, 1) := by decide +kernel
theorem d_La_law_568 : decode b_La_law 568 = .ok (.iload 5, 2) := by decide +kernel
theorem d_La_law_570 : decode b_La_law 570 = .ok (.iconst 1, 1) := by decide +kernel
theorem d_La_law_571 : decode b_La_law 571 = .ok (.iadd, 1) := by decide +kernel
theorem d_La_law_572 : decode b_La_law 572 = .ok (.iaload, 1) := by decide +kernel
theorem d_La_law_573 : decode b_La_law 573 = .ok (.aload_n 0, 1) := by decide +kernel
theorem d_La_law_574 : decode b_La_law 574 = .ok (.iload 5, 2) := by decide +kernel
theorem d_La_law_576 : decode b_La_law 576 = .ok (.iconst 2, 1) := by decide +kernel
theorem d_La_law_577 : decode b_La_law 577 = .ok (.iadd, 1) := by decide +kernel
theorem d_La_law_578 : decode b_La_law 578 = .ok (.iaload, 1) := by decide +kernel
theorem d_La_law_579 : decode b_La_law 579 = .ok (.aload_n 0, 1) := by decide +kernel
theorem d_La_law_580 : decode b_La_law 580 = .ok (.iload 5, 2) := by decide +kernel
theorem d_La_law_582 : decode b_La_law 582 = .ok (.iconst 3, 1) := by decide +kernel
theorem d_La_law_583 : decode b_La_law 583 = .ok (.iadd, 1) := by decide +kernel
theorem d_La_law_584 : decode b_La_law 584 = .ok (.iaload, 1) := by decide +kernel
theorem d_La_law_585 : decode b_La_law 585 = .ok (.aload_n 0, 1) := by decide +kernel
theorem d_La_law_586 : decode b_La_law 586 = .ok (.iload 5, 2) := by decide +kernel
theorem d_La_law_588 : decode b_La_law 588 = .ok (.iconst 4, 1) := by decide +kernel
theorem d_La_law_589 : decode b_La_law 589 = .ok (.iadd, 1) := by decide +kernel
theorem d_La_law_590 : decode b_La_law 590 = .ok (.iaload, 1) := by decide +kernel
theorem d_La_law_591 : decode b_La_law 591 = .ok (.invokevirtual 95, 3) := by decide +kernel
theorem d_La_law_594 : decode b_La_law 594 = .ok (.istore 7, 2) := by decide +kernel
theorem d_La_law_596 : decode b_La_law 596 = .ok (.aload_n 2, 1) := by decide +kernel
theorem d_La_law_597 : decode b_La_law 597 = .ok (.invokevirtual 66, 3) := by decide +kernel
theorem d_La_law_600 : decode b_La_law 600 = .ok (.iload 6, 2) := by decide +kernel
theorem d_La_law_602 : decode b_La_law 602 = .ok (.if_icmp .eq 5, 3) := by decide +kernel
theorem d_La_law_605 : decode b_La_law 605 = .ok (.iconst 0, 1) := by decide +kernel
theorem d_La_law_606 : decode b_La_law 606 = .ok (.ireturn, 1) := by decide +kernel
theorem d_La_law_607 : decode b_La_law 607 = .ok (.iload 6, 2) := by decide +kernel
theorem d_La_law_609 : decode b_La_law 609 = .ok (.ifCond .ne 15, 3) := by decide +kernel
theorem d_La_law_612 : decode b_La_law 612 = .ok (.aload_n 3, 1) := by decide +kernel
theorem d_La_law_613 : decode b_La_law 613 = .ok (.iconst 0, 1) := by decide +kernel
theorem d_La_law_614 : decode b_La_law 614 = .ok (.laload, 1) := by decide +kernel
theorem d_La_law_615 : decode b_La_law 615 = .ok (.iload 7, 2) := by decide +kernel
theorem d_La_law_617 : decode b_La_law 617 = .ok (.i2l, 1) := by decide +kernel
theorem d_La_law_618 : decode b_La_law 618 = .ok (.lcmp, 1) := by decide +kernel
theorem d_La_law_619 : decode b_La_law 619 = .ok (.ifCond .eq 5, 3) := by decide +kernel
theorem d_La_law_622 : decode b_La_law 622 = .ok (.iconst 0, 1) := by decide +kernel
theorem d_La_law_623 : decode b_La_law 623 = .ok (.ireturn, 1) := by decide +kernel
theorem d_La_law_624 : decode b_La_law 624 = .ok (.goto 306, 3) := by decide +kernel
theorem d_La_law_627 : decode b_La_law 627 = .ok (.aload_n 1, 1) := by decide +kernel
theorem d_La_law_628 : decode b_La_law 628 = .ok (.aload_n 0, 1) := by decide +kernel
theorem d_La_law_629 : decode b_La_law 629 = .ok (.iload 5, 2) := by decide +kernel
theorem d_La_law_631 : decode b_La_law 631 = .ok (.iconst 1, 1) := by decide +kernel
theorem d_La_law_632 : decode b_La_law 632 = .ok (.iadd, 1) := by decide +kernel
theorem d_La_law_633 : decode b_La_law 633 = .ok (.iaload, 1) := by decide +kernel
theorem d_La_law_634 : decode b_La_law 634 = .ok (.aload_n 0, 1) := by decide +kernel
theorem d_La_law_635 : decode b_La_law 635 = .ok (.iload 5, 2) := by decide +kernel
theorem d_La_law_637 : decode b_La_law 637 = .ok (.iconst 2, 1) := by decide +kernel
theorem d_La_law_638 : decode b_La_law 638 = .ok (.iadd, 1) := by decide +kernel
theorem d_La_law_639 : decode b_La_law 639 = .ok (.iaload, 1) := by decide +kernel
theorem d_La_law_640 : decode b_La_law 640 = .ok (.aload_n 0, 1) := by decide +kernel
theorem d_La_law_641 : decode b_La_law 641 = .ok (.iload 5, 2) := by decide +kernel
theorem d_La_law_643 : decode b_La_law 643 = .ok (.iconst 3, 1) := by decide +kernel
theorem d_La_law_644 : decode b_La_law 644 = .ok (.iadd, 1) := by decide +kernel
theorem d_La_law_645 : decode b_La_law 645 = .ok (.iaload, 1) := by decide +kernel
theorem d_La_law_646 : decode b_La_law 646 = .ok (.aload_n 0, 1) := by decide +kernel
theorem d_La_law_647 : decode b_La_law 647 = .ok (.iload 5, 2) := by decide +kernel
theorem d_La_law_649 : decode b_La_law 649 = .ok (.iconst 4, 1) := by decide +kernel
theorem d_La_law_650 : decode b_La_law 650 = .ok (.iadd, 1) := by decide +kernel
theorem d_La_law_651 : decode b_La_law 651 = .ok (.iaload, 1) := by decide +kernel
theorem d_La_law_652 : decode b_La_law 652 = .ok (.aload_n 3, 1) := by decide +kernel
theorem d_La_law_653 : decode b_La_law 653 = .ok (.invokestatic 96, 3) := by decide +kernel
theorem d_La_law_656 : decode b_La_law 656 = .ok (.istore 6, 2) := by decide +kernel
theorem d_La_law_658 : decode b_La_law 658 = .ok (.aload_n 2, 1) := by decide +kernel
theorem d_La_law_659 : decode b_La_law 659 = .ok (.aload_n 0, 1) := by decide +kernel
theorem d_La_law_660 : decode b_La_law 660 = .ok (.iload 5, 2) := by decide +kernel
theorem d_La_law_662 : decode b_La_law 662 = .ok (.iconst 1, 1) := by decide +kernel
theorem d_La_law_663 : decode b_La_law 663 = .ok (.iadd, 1) := by decide +kernel
theorem d_La_law_664 : decode b_La_law 664 = .ok (.iaload, 1) := by decide +kernel
theorem d_La_law_665 : decode b_La_law 665 = .ok (.aload_n 0, 1) := by decide +kernel
theorem d_La_law_666 : decode b_La_law 666 = .ok (.iload 5, 2) := by decide +kernel
theorem d_La_law_668 : decode b_La_law 668 = .ok (.iconst 2, 1) := by decide +kernel
theorem d_La_law_669 : decode b_La_law 669 = .ok (.iadd, 1) := by decide +kernel
theorem d_La_law_670 : decode b_La_law 670 = .ok (.iaload, 1) := by decide +kernel
theorem d_La_law_671 : decode b_La_law 671 = .ok (.aload_n 0, 1) := by decide +kernel
theorem d_La_law_672 : decode b_La_law 672 = .ok (.iload 5, 2) := by decide +kernel
theorem d_La_law_674 : decode b_La_law 674 = .ok (.iconst 3, 1) := by decide +kernel
theorem d_La_law_675 : decode b_La_law 675 = .ok (.iadd, 1) := by decide +kernel
theorem d_La_law_676 : decode b_La_law 676 = .ok (.iaload, 1) := by decide +kernel
theorem d_La_law_677 : decode b_La_law 677 = .ok (.aload_n 0, 1) := by decide +kernel
theorem d_La_law_678 : decode b_La_law 678 = .ok (.iload 5, 2) := by decide +kernel
theorem d_La_law_680 : decode b_La_law 680 = .ok (.iconst 4, 1) := by decide +kernel
theorem d_La_law_681 : decode b_La_law 681 = .ok (.iadd, 1) := by decide +kernel
theorem d_La_law_682 : decode b_La_law 682 = .ok (.iaload, 1) := by decide +kernel
theorem d_La_law_683 : decode b_La_law 683 = .ok (.invokevirtual 98, 3) := by decide +kernel
theorem d_La_law_686 : decode b_La_law 686 = .ok (.istore 7, 2) := by decide +kernel
theorem d_La_law_688 : decode b_La_law 688 = .ok (.aload_n 2, 1) := by decide +kernel
theorem d_La_law_689 : decode b_La_law 689 = .ok (.invokevirtual 66, 3) := by decide +kernel
theorem d_La_law_692 : decode b_La_law 692 = .ok (.iload 6, 2) := by decide +kernel
theorem d_La_law_694 : decode b_La_law 694 = .ok (.if_icmp .eq 5, 3) := by decide +kernel
theorem d_La_law_697 : decode b_La_law 697 = .ok (.iconst 0, 1) := by decide +kernel
theorem d_La_law_698 : decode b_La_law 698 = .ok (.ireturn, 1) := by decide +kernel
theorem d_La_law_699 : decode b_La_law 699 = .ok (.iload 6, 2) := by decide +kernel
theorem d_La_law_701 : decode b_La_law 701 = .ok (.ifCond .ne 15, 3) := by decide +kernel
theorem d_La_law_704 : decode b_La_law 704 = .ok (.aload_n 3, 1) := by decide +kernel
theorem d_La_law_705 : decode b_La_law 705 = .ok (.iconst 0, 1) := by decide +kernel
theorem d_La_law_706 : decode b_La_law 706 = .ok (.laload, 1) := by decide +kernel
theorem d_La_law_707 : decode b_La_law 707 = .ok (.iload 7, 2) := by decide +kernel
theorem d_La_law_709 : decode b_La_law 709 = .ok (.i2l, 1) := by decide +kernel
theorem d_La_law_710 : decode b_La_law 710 = .ok (.lcmp, 1) := by decide +kernel
theorem d_La_law_711 : decode b_La_law 711 = .ok (.ifCond .eq 5, 3) := by decide +kernel
theorem d_La_law_714 : decode b_La_law 714 = .ok (.iconst 0, 1) := by decide +kernel
theorem d_La_law_715 : decode b_La_law 715 = .ok (.ireturn, 1) := by decide +kernel
theorem d_La_law_716 : decode b_La_law 716 = .ok (.goto 214, 3) := by decide +kernel
theorem d_La_law_719 : decode b_La_law 719 = .ok (.aload_n 1, 1) := by decide +kernel
theorem d_La_law_720 : decode b_La_law 720 = .ok (.aload_n 0, 1) := by decide +kernel
end
section
/-! decode rows -/
theorem d_La_law_721 : decode b_La_law 721 = .ok (.iload 5, 2) := by decide +kernel
theorem d_La_law_723 : decode b_La_law 723 = .ok (.iconst 1, 1) := by decide +kernel
theorem d_La_law_724 : decode b_La_law 724 = .ok (.iadd, 1) := by decide +kernel
theorem d_La_law_725 : decode b_La_law 725 = .ok (.iaload, 1) := by decide +kernel
theorem d_La_law_726 : decode b_La_law 726 = .ok (.aload_n 0, 1) := by decide +kernel
theorem d_La_law_727 : decode b_La_law 727 = .ok (.iload 5, 2) := by decide +kernel
theorem d_La_law_729 : decode b_La_law 729 = .ok (.iconst 2, 1) := by decide +kernel
theorem d_La_law_730 : decode b_La_law 730 = .ok (.iadd, 1) := by decide +kernel
theorem d_La_law_731 : decode b_La_law 731 = .ok (.iaload, 1) := by decide +kernel
theorem d_La_law_732 : decode b_La_law 732 = .ok (.aload_n 0, 1) := by decide +kernel
theorem d_La_law_733 : decode b_La_law 733 = .ok (.iload 5, 2) := by decide +kernel
theorem d_La_law_735 : decode b_La_law 735 = .ok (.iconst 3, 1) := by decide +kernel
theorem d_La_law_736 : decode b_La_law 736 = .ok (.iadd, 1) := by decide +kernel
theorem d_La_law_737 : decode b_La_law 737 = .ok (.iaload, 1) := by decide +kernel
theorem d_La_law_738 : decode b_La_law 738 = .ok (.aload_n 0, 1) := by decide +kernel
theorem d_La_law_739 : decode b_La_law 739 = .ok (.iload 5, 2) := by decide +kernel
theorem d_La_law_741 : decode b_La_law 741 = .ok (.iconst 4, 1) := by decide +kernel
theorem d_La_law_742 : decode b_La_law 742 = .ok (.iadd, 1) := by decide +kernel
theorem d_La_law_743 : decode b_La_law 743 = .ok (.iaload, 1) := by decide +kernel
theorem d_La_law_744 : decode b_La_law 744 = .ok (.aload_n 3, 1) := by decide +kernel
theorem d_La_law_745 : decode b_La_law 745 = .ok (.invokestatic 99, 3) := by decide +kernel
theorem d_La_law_748 : decode b_La_law 748 = .ok (.istore 6, 2) := by decide +kernel
theorem d_La_law_750 : decode b_La_law 750 = .ok (.aload_n 2, 1) := by decide +kernel
theorem d_La_law_751 : decode b_La_law 751 = .ok (.aload_n 0, 1) := by decide +kernel
theorem d_La_law_752 : decode b_La_law 752 = .ok (.iload 5, 2) := by decide +kernel
theorem d_La_law_754 : decode b_La_law 754 = .ok (.iconst 1, 1) := by decide +kernel
theorem d_La_law_755 : decode b_La_law 755 = .ok (.iadd, 1) := by decide +kernel
theorem d_La_law_756 : decode b_La_law 756 = .ok (.iaload, 1) := by decide +kernel
theorem d_La_law_757 : decode b_La_law 757 = .ok (.aload_n 0, 1) := by decide +kernel
theorem d_La_law_758 : decode b_La_law 758 = .ok (.iload 5, 2) := by decide +kernel
theorem d_La_law_760 : decode b_La_law 760 = .ok (.iconst 2, 1) := by decide +kernel
theorem d_La_law_761 : decode b_La_law 761 = .ok (.iadd, 1) := by decide +kernel
theorem d_La_law_762 : decode b_La_law 762 = .ok (.iaload, 1) := by decide +kernel
theorem d_La_law_763 : decode b_La_law 763 = .ok (.aload_n 0, 1) := by decide +kernel
theorem d_La_law_764 : decode b_La_law 764 = .ok (.iload 5, 2) := by decide +kernel
theorem d_La_law_766 : decode b_La_law 766 = .ok (.iconst 3, 1) := by decide +kernel
theorem d_La_law_767 : decode b_La_law 767 = .ok (.iadd, 1) := by decide +kernel
theorem d_La_law_768 : decode b_La_law 768 = .ok (.iaload, 1) := by decide +kernel
theorem d_La_law_769 : decode b_La_law 769 = .ok (.aload_n 0, 1) := by decide +kernel
theorem d_La_law_770 : decode b_La_law 770 = .ok (.iload 5, 2) := by decide +kernel
theorem d_La_law_772 : decode b_La_law 772 = .ok (.iconst 4, 1) := by decide +kernel
theorem d_La_law_773 : decode b_La_law 773 = .ok (.iadd, 1) := by decide +kernel
theorem d_La_law_774 : decode b_La_law 774 = .ok (.iaload, 1) := by decide +kernel
theorem d_La_law_775 : decode b_La_law 775 = .ok (.invokevirtual 101, 3) := by decide +kernel
theorem d_La_law_778 : decode b_La_law 778 = .ok (.istore 7, 2) := by decide +kernel
theorem d_La_law_780 : decode b_La_law 780 = .ok (.aload_n 2, 1) := by decide +kernel
theorem d_La_law_781 : decode b_La_law 781 = .ok (.invokevirtual 66, 3) := by decide +kernel
theorem d_La_law_784 : decode b_La_law 784 = .ok (.iload 6, 2) := by decide +kernel
theorem d_La_law_786 : decode b_La_law 786 = .ok (.if_icmp .eq 5, 3) := by decide +kernel
theorem d_La_law_789 : decode b_La_law 789 = .ok (.iconst 0, 1) := by decide +kernel
theorem d_La_law_790 : decode b_La_law 790 = .ok (.ireturn, 1) := by decide +kernel
theorem d_La_law_791 : decode b_La_law 791 = .ok (.iload 6, 2) := by decide +kernel
theorem d_La_law_793 : decode b_La_law 793 = .ok (.ifCond .ne 22, 3) := by decide +kernel
theorem d_La_law_796 : decode b_La_law 796 = .ok (.aload_n 3, 1) := by decide +kernel
theorem d_La_law_797 : decode b_La_law 797 = .ok (.iconst 0, 1) := by decide +kernel
theorem d_La_law_798 : decode b_La_law 798 = .ok (.laload, 1) := by decide +kernel
theorem d_La_law_799 : decode b_La_law 799 = .ok (.iload 7, 2) := by decide +kernel
theorem d_La_law_801 : decode b_La_law 801 = .ok (.ifCond .eq 7, 3) := by decide +kernel
theorem d_La_law_804 : decode b_La_law 804 = .ok (.lconst 1, 1) := by decide +kernel
theorem d_La_law_805 : decode b_La_law 805 = .ok (.goto 4, 3) := by decide +kernel
theorem d_La_law_808 : decode b_La_law 808 = .ok (.lconst 0, 1) := by decide +kernel
theorem d_La_law_809 : decode b_La_law 809 = .ok (.lcmp, 1) := by decide +kernel
theorem d_La_law_810 : decode b_La_law 810 = .ok (.ifCond .eq 5, 3) := by decide +kernel
theorem d_La_law_813 : decode b_La_law 813 = .ok (.iconst 0, 1) := by decide +kernel
theorem d_La_law_814 : decode b_La_law 814 = .ok (.ireturn, 1) := by decide +kernel
theorem d_La_law_815 : decode b_La_law 815 = .ok (.goto 115, 3) := by decide +kernel
theorem d_La_law_818 : decode b_La_law 818 = .ok (.aload_n 1, 1) := by decide +kernel
theorem d_La_law_819 : decode b_La_law 819 = .ok (.aload_n 0, 1) := by decide +kernel
theorem d_La_law_820 : decode b_La_law 820 = .ok (.iload 5, 2) := by decide +kernel
theorem d_La_law_822 : decode b_La_law 822 = .ok (.iconst 1, 1) := by decide +kernel
theorem d_La_law_823 : decode b_La_law 823 = .ok (.iadd, 1) := by decide +kernel
theorem d_La_law_824 : decode b_La_law 824 = .ok (.iaload, 1) := by decide +kernel
theorem d_La_law_825 : decode b_La_law 825 = .ok (.aload_n 3, 1) := by decide +kernel
theorem d_La_law_826 : decode b_La_law 826 = .ok (.invokestatic 102, 3) := by decide +kernel
theorem d_La_law_829 : decode b_La_law 829 = .ok (.istore 6, 2) := by decide +kernel
theorem d_La_law_831 : decode b_La_law 831 = .ok (.aload_n 2, 1) := by decide +kernel
theorem d_La_law_832 : decode b_La_law 832 = .ok (.aload_n 0, 1) := by decide +kernel
theorem d_La_law_833 : decode b_La_law 833 = .ok (.iload 5, 2) := by decide +kernel
theorem d_La_law_835 : decode b_La_law 835 = .ok (.iconst 1, 1) := by decide +kernel
theorem d_La_law_836 : decode b_La_law 836 = .ok (.iadd, 1) := by decide +kernel
theorem d_La_law_837 : decode b_La_law 837 = .ok (.iaload, 1) := by decide +kernel
theorem d_La_law_838 : decode b_La_law 838 = .ok (.invokevirtual 104, 3) := by decide +kernel
theorem d_La_law_841 : decode b_La_law 841 = .ok (.istore 7, 2) := by decide +kernel
theorem d_La_law_843 : decode b_La_law 843 = .ok (.aload_n 2, 1) := by decide +kernel
theorem d_La_law_844 : decode b_La_law 844 = .ok (.invokevirtual 66, 3) := by decide +kernel
theorem d_La_law_847 : decode b_La_law 847 = .ok (.iload 6, 2) := by decide +kernel
theorem d_La_law_849 : decode b_La_law 849 = .ok (.if_icmp .eq 5, 3) := by decide +kernel
theorem d_La_law_852 : decode b_La_law 852 = .ok (.iconst 0, 1) := by decide +kernel
theorem d_La_law_853 : decode b_La_law 853 = .ok (.ireturn, 1) := by decide +kernel
theorem d_La_law_854 : decode b_La_law 854 = .ok (.iload 6, 2) := by decide +kernel
theorem d_La_law_856 : decode b_La_law 856 = .ok (.ifCond .ne 15, 3) := by decide +kernel
theorem d_La_law_859 : decode b_La_law 859 = .ok (.aload_n 3, 1) := by decide +kernel
theorem d_La_law_860 : decode b_La_law 860 = .ok (.iconst 0, 1) := by decide +kernel
theorem d_La_law_861 : decode b_La_law 861 = .ok (.laload, 1) := by decide +kernel
theorem d_La_law_862 : decode b_La_law 862 = .ok (.iload 7, 2) := by decide +kernel
theorem d_La_law_864 : decode b_La_law 864 = .ok (.i2l, 1) := by decide +kernel
theorem d_La_law_865 : decode b_La_law 865 = .ok (.lcmp, 1) := by decide +kernel
theorem d_La_law_866 : decode b_La_law 866 = .ok (.ifCond .eq 5, 3) := by decide +kernel
theorem d_La_law_869 : decode b_La_law 869 = .ok (.iconst 0, 1) := by decide +kernel
theorem d_La_law_870 : decode b_La_law 870 = .ok (.ireturn, 1) := by decide +kernel
theorem d_La_law_871 : decode b_La_law 871 = .ok (.goto 59, 3) := by decide +kernel
theorem d_La_law_874 : decode b_La_law 874 = .ok (.aload_n 1, 1) := by decide +kernel
theorem d_La_law_875 : decode b_La_law 875 = .ok (.aload_n 0, 1) := by decide +kernel
theorem d_La_law_876 : decode b_La_law 876 = .ok (.iload 5, 2) := by decide +kernel
theorem d_La_law_878 : decode b_La_law 878 = .ok (.iconst 1, 1) := by decide +kernel
theorem d_La_law_879 : decode b_La_law 879 = .ok (.iadd, 1) := by decide +kernel
theorem d_La_law_880 : decode b_La_law 880 = .ok (.iaload, 1) := by decide +kernel
theorem d_La_law_881 : decode b_La_law 881 = .ok (.aload_n 3, 1) := by decide +kernel
theorem d_La_law_882 : decode b_La_law 882 = .ok (.invokestatic 105, 3) := by decide +kernel
theorem d_La_law_885 : decode b_La_law 885 = .ok (.istore 6, 2) := by decide +kernel
theorem d_La_law_887 : decode b_La_law 887 = .ok (.aload_n 2, 1) := by decide +kernel
theorem d_La_law_888 : decode b_La_law 888 = .ok (.aload_n 0, 1) := by decide +kernel
theorem d_La_law_889 : decode b_La_law 889 = .ok (.iload 5, 2) := by decide +kernel
theorem d_La_law_891 : decode b_La_law 891 = .ok (.iconst 1, 1) := by decide +kernel
theorem d_La_law_892 : decode b_La_law 892 = .ok (.iadd, 1) := by decide +kernel
theorem d_La_law_893 : decode b_La_law 893 = .ok (.iaload, 1) := by decide +kernel
theorem d_La_law_894 : decode b_La_law 894 = .ok (.invokevirtual 107, 3) := by decide +kernel
theorem d_La_law_897 : decode b_La_law 897 = .ok (.istore 7, 2) := by decide +kernel
theorem d_La_law_899 : decode b_La_law 899 = .ok (.aload_n 2, 1) := by decide +kernel
theorem d_La_law_900 : decode b_La_law 900 = .ok (.invokevirtual 66, 3) := by decide +kernel
theorem d_La_law_903 : decode b_La_law 903 = .ok (.iload 6, 2) := by decide +kernel
theorem d_La_law_905 : decode b_La_law 905 = .ok (.if_icmp .eq 5, 3) := by decide +kernel
theorem d_La_law_908 : decode b_La_law 908 = .ok (.iconst 0, 1) := by decide +kernel
theorem d_La_law_909 : decode b_La_law 909 = .ok (.ireturn, 1) := by decide +kernel
theorem d_La_law_910 : decode b_La_law 910 = .ok (.iload 6, 2) := by decide +kernel
theorem d_La_law_912 : decode b_La_law 912 = .ok (.ifCond .ne 15, 3) := by decide +kernel
theorem d_La_law_915 : decode b_La_law 915 = .ok (.aload_n 3, 1) := by decide +kernel
theorem d_La_law_916 : decode b_La_law 916 = .ok (.iconst 0, 1) := by decide +kernel
theorem d_La_law_917 : decode b_La_law 917 = .ok (.laload, 1) := by decide +kernel
theorem d_La_law_918 : decode b_La_law 918 = .ok (.iload 7, 2) := by decide +kernel
theorem d_La_law_920 : decode b_La_law 920 = .ok (.i2l, 1) := by decide +kernel
theorem d_La_law_921 : decode b_La_law 921 = .ok (.lcmp, 1) := by decide +kernel
theorem d_La_law_922 : decode b_La_law 922 = .ok (.ifCond .eq 5, 3) := by decide +kernel
theorem d_La_law_925 : decode b_La_law 925 = .ok (.iconst 0, 1) := by decide +kernel
theorem d_La_law_926 : decode b_La_law 926 = .ok (.ireturn, 1) := by decide +kernel
theorem d_La_law_927 : decode b_La_law 927 = .ok (.goto 3, 3) := by decide +kernel
theorem d_La_law_930 : decode b_La_law 930 = .ok (.iinc 5 5, 3) := by decide +kernel
theorem d_La_law_933 : decode b_La_law 933 = .ok (.goto (-905), 3) := by decide +kernel
theorem d_La_law_936 : decode b_La_law 936 = .ok (.iconst 1, 1) := by decide +kernel
theorem d_La_law_937 : decode b_La_law 937 = .ok (.ireturn, 1) := by decide +kernel
end
section
/-! rooms by levels; arrays of natural numbers; the mathematical words for a code -/
def lvR (d mc ms : Nat) : Room := { frames := d, cells := mc, slots := ms, locals := 34 * d }
def uN (E : Nat → Nat) (k v : Nat) : Nat → Nat := fun j => if j = k then v else E j
theorem uN_s {E : Nat → Nat} {k v : Nat} : uN E k v k = v := if_pos rfl
theorem uN_n {E : Nat → Nat} {k v j : Nat} (h : j ≠ k) : uN E k v j = E j := if_neg h
theorem upd_nI (E : Nat → Nat) (k v : Nat) : upd (fun j => nI (E j)) k (nI v) = fun j => nI (uN E k v j) := by
  funext j
  unfold upd uN
  split <;> rfl
section WBN
variable {p : Program} {l : Launch} {e : Env} {R : Room} {s : State} {m : MethodId} {args : Array Value} {below : List Frame} {meth : Method} {c : Code} {H : Heap} {locs : List Loc} {cells slots : Nat} {Q : State → Prop}
variable {cc : ByteArray} {pc : Nat} {ls : Array Slot} {rest : List Value} {D : va_G} {cl : List vw_C} {A : Nat → Prop} {a : Nat} {tys : List (ClassId × FieldType)} {ws : va_W} {H0 : Heap}
theorem wb_iastN (hexec : p.tables.exec = Jvm.exec) (hb : c.code = cc) (hK : va_K D cl tys s) (hP : va_P D cl ws H) (hD : va_D A ws) (hS : va_S A H0 H locs) (q0 t0 : Nat) {cA : ClassId} {n : Nat} {E : Nat → Nat} (ha : ws[q0]? = some (a, .inl (cA, n, .inl (fun j => nI (E j))))) (ht : tys[t0]? = some (cA, .int)) {i : Int32} {x : Int32} (j : Nat) (hi : i = nI j) (hj : j < n) (hn : n < 2 ^ 31) (v : Nat) (hv : x = nI v) (hdg : decode cc pc = .ok (.iastore, 1))
    (kk : ∀ (H1 : Heap) (locs1 : List Loc), va_P D cl (ws.set q0 (a, .inl (cA, n, .inl (fun i => nI (uN E j v i))))) H1 → va_D A (ws.set q0 (a, .inl (cA, n, .inl (fun i => nI (uN E j v i))))) → va_S A H0 H1 locs1 → W p l e R s m args below meth c H1 locs1 cells slots Q (F0 m (pc + 1) ls rest)) : W p l e R s m args below meth c H locs cells slots Q (F0 m pc ls (.int x :: .int i :: .ref a :: rest)) := by
  subst hv
  refine wb_iast hexec hb hK hP hD hS q0 t0 ha ht j hi hj hn hdg ?_
  rw [upd_nI]
  exact kk
/-- another name for the number on top -/
theorem wb_top {x y : Int32} (h : x = y) (k : W p l e R s m args below meth c H locs cells slots Q (F0 m pc ls (.int y :: rest))) : W p l e R s m args below meth c H locs cells slots Q (F0 m pc ls (.int x :: rest)) := h ▸ k
theorem wb_topd {x y : UInt64} (h : x = y) (k : W p l e R s m args below meth c H locs cells slots Q (F0 m pc ls (.double y :: rest))) : W p l e R s m args below meth c H locs cells slots Q (F0 m pc ls (.double x :: rest)) := h ▸ k
end WBN
def uL (op : Int32) : Bool := decide (2 ≤ op)
def uR (op : Int32) : Bool := decide (2 ≤ op ∧ op ≤ 5)
def iv (ops : Nat → Int32) (n : Nat) (v : Int32) : Bool := decide (¬ v < 0 ∧ v < nI n ∧ ops v.toNatClampNeg ≠ 6)
theorem iv_nat {ops : Nat → Int32} {n j : Nat} (hj : j < 2 ^ 31) (hn : n < 2 ^ 31) : iv ops n (nI j) = decide (j < n ∧ ops j ≠ 6) := by
  unfold iv
  rw [nI_clamp hj]
  simp only [nI_pos hj, not_false_eq_true, true_and, nI_ltI hj hn]
theorem i32_nlt {a b : Int32} : ¬ a < b ↔ b ≤ a := by
  rw [Int32.lt_iff_toInt_lt, Int32.le_iff_toInt_le]
  omega
theorem i32_nle {a b : Int32} : ¬ a ≤ b ↔ b < a := by
  rw [Int32.lt_iff_toInt_lt, Int32.le_iff_toInt_le]
  omega
/-- a value's number, once looked at -/
theorem ix_of {v : Int32} {n : Nat} (hn : n < 2 ^ 31) (h0 : ¬ v < 0) (h1 : ¬ nI n ≤ v) : ∃ j : Nat, j < n ∧ v = nI j := by
  rcases pk_ix v hn with h | h | h
  · exact absurd h h0
  · exact absurd h h1
  · exact h
def mt (E : Nat → Nat) (i j : Nat) : Bool := decide (i < E j ∧ j < E i)
/-- is there a CALL among the k instructions from i on -/
def crx (ops : Nat → Int32) : Nat → Nat → Bool
  | _, 0 => false
  | i, k + 1 => decide (ops i = 7) || crx ops (i + 1) k
def cr (ops : Nat → Int32) (E : Nat → Nat) (n v : Nat) : Bool := crx ops (v + 1) (min (E v) n - (v + 1))
/-- how many of the first k are values other than v that meet it -/
def om (ops : Nat → Int32) (E : Nat → Nat) (n v : Nat) : Nat → Nat
  | 0 => 0
  | k + 1 => om ops E n v k + if k ≠ v ∧ iv ops n (nI k) = true ∧ mt E v k = true then 1 else 0
/-- the weight of a value as a double -/
def wt (P E : Nat → Nat) (v : Nat) : UInt64 := FP.ddiv (FP.i2d (nI (P v))) (FP.i2d (nI (E v - v)))
theorem bI1 {b : Bool} (h : b = true) : (1 : Int32) = bI b := by rw [h]; rfl
theorem bI0 {b : Bool} (h : b = false) : (0 : Int32) = bI b := by rw [h]; rfl
theorem uL_t {op : Int32} (h : ¬ op < 2) : uL op = true := decide_eq_true (i32_nlt.mp h)
theorem uL_f {op : Int32} (h : op < 2) : uL op = false := decide_eq_false (fun q => i32_nlt.mpr q h)
theorem uR_t {op : Int32} (h : ¬ op < 2) (h2 : ¬ 5 < op) : uR op = true := decide_eq_true ⟨i32_nlt.mp h, i32_nlt.mp h2⟩
theorem uR_f1 {op : Int32} (h : op < 2) : uR op = false := decide_eq_false (fun q => i32_nlt.mpr q.1 h)
theorem uR_f2 {op : Int32} (h : 5 < op) : uR op = false := decide_eq_false (fun q => i32_nlt.mpr q.2 h)
theorem iv_f1 {ops : Nat → Int32} {n : Nat} {v : Int32} (h : v < 0) : iv ops n v = false := decide_eq_false (fun q => q.1 h)
theorem iv_f2 {ops : Nat → Int32} {n : Nat} {v : Int32} (h : nI n ≤ v) : iv ops n v = false := decide_eq_false (fun q => i32_nlt.mpr h q.2.1)
theorem iv_f3 {ops : Nat → Int32} {n j : Nat} (hn : n ≤ 24) (hj : j < n) (h : ops j = 6) : iv ops n (nI j) = false := by
  rw [iv_nat (by omega) (by omega)]
  exact decide_eq_false (fun q => q.2 h)
theorem iv_t {ops : Nat → Int32} {n j : Nat} (hn : n ≤ 24) (hj : j < n) (h : ¬ ops j = 6) : iv ops n (nI j) = true := by
  rw [iv_nat (by omega) (by omega)]
  exact decide_eq_true ⟨hj, h⟩
theorem iv_spec {ops : Nat → Int32} {n : Nat} {v : Int32} (hn : n ≤ 24) (h : iv ops n v = true) : ∃ j : Nat, j < n ∧ v = nI j ∧ ops j ≠ 6 := by
  have h1 := of_decide_eq_true h
  obtain ⟨j, hj, rfl⟩ := ix_of (n := n) (by omega) h1.1 (fun q => i32_nlt.mpr q h1.2.1)
  refine ⟨j, hj, rfl, ?_⟩
  have h2 := h1.2.2
  rw [nI_clamp (by omega)] at h2
  exact h2
theorem mt_f1 {E : Nat → Nat} {i j : Nat} (h : E j ≤ i) : mt E i j = false := decide_eq_false (fun q => absurd q.1 (Nat.not_lt.mpr h))
theorem mt_f2 {E : Nat → Nat} {i j : Nat} (h : E i ≤ j) : mt E i j = false := decide_eq_false (fun q => absurd q.2 (Nat.not_lt.mpr h))
theorem mt_t {E : Nat → Nat} {i j : Nat} (h : i < E j) (h2 : j < E i) : mt E i j = true := decide_eq_true ⟨h, h2⟩
theorem lt31 {a b : Nat} (h : a ≤ b) (hb : b < 2 ^ 31) : a < 2 ^ 31 := Nat.lt_of_le_of_lt h hb
end
section
/-! AllocForge$Code: what only reads -/
set_option maxHeartbeats 4000000 in
set_option maxRecDepth 100000 in
theorem c_Co_usesLeft (l : Launch) (dC : Nat → ClassId) (dI : Nat → Nat → Nat) (cI : ClassId) (op : Int32) : Met l y_Co_usesLeft ws_Co_usesLeft (lvR 0 0 0) (va_Pc [.int op] (PB (dC, dI) vwCl [] [(cI, .int)])) (vp_Si (fun r => r = bI (uL op))) 0 0 (fun _ => False) := by
  refine Met.ofW (cc := b_Co_usesLeft) (maxL := 1) (ret := (some .boolean)) (by decide) rfl ?_
  intro p e s m args below meth c s₁ B hml hv
  obtain ⟨rfl, hP, hK⟩ := hv
  have hx := B.exec
  have hb := B.bytes
  have hr := B.returns
  have hts := atoms_spec (ws := ws_Co_usesLeft) B.pre
  have hg : ∀ w ∈ TG, w.before ([.int op] : List Value).toArray s = true := fun w h => hts w (List.mem_cons_of_mem _ h)
  have hown : s.vm.findClass R_Co = some m.cls := findClass_of_methodNamed B.named
  have hlocks := B.notSynchronized
  have hl := lv_entry ([.int op]) (n := 1) (Nat.le_of_ble_eq_true rfl)
  rw [lg_entry_eq]
  generalize (lg_sl ([.int op]) ++ List.replicate (1 - (lg_sl ([.int op])).length) Slot.unset).toArray = ls at hl ⊢
  have hl : lv_has ls 1 [(0, .int op)] := hl
  refine lv_iload_n hx hb d_Co_usesLeft_0 rfl (lv_at hl 0 rfl) ?_
  refine lv_iconst (v := 2) hx hb d_Co_usesLeft_1 (by decide) ?_
  refine lv_icmp_lt (tgt := 9) hx hb d_Co_usesLeft_2 (by decide) (fun c1 => ?_) (fun c1 => ?_)
  · refine lv_iconst (v := 0) hx hb d_Co_usesLeft_9 (by decide) ?_
    exact W.zret (v := (0 : Int32)) (ty := .boolean) hx hb hr rfl (fun t ht hW => ⟨_, rfl, (bI0 (uL_f c1)), ht⟩) (fun q h => by cases h) d_Co_usesLeft_10
  · refine lv_iconst (v := 1) hx hb d_Co_usesLeft_5 (by decide) ?_
    refine lv_goto (tgt := 10) hx hb d_Co_usesLeft_6 (by decide) ?_
    exact W.zret (v := (1 : Int32)) (ty := .boolean) hx hb hr rfl (fun t ht hW => ⟨_, rfl, (bI1 (uL_t c1)), ht⟩) (fun q h => by cases h) d_Co_usesLeft_10

set_option maxHeartbeats 4000000 in
set_option maxRecDepth 100000 in
theorem c_Co_usesRight (l : Launch) (dC : Nat → ClassId) (dI : Nat → Nat → Nat) (cI : ClassId) (op : Int32) : Met l y_Co_usesRight ws_Co_usesRight (lvR 0 0 0) (va_Pc [.int op] (PB (dC, dI) vwCl [] [(cI, .int)])) (vp_Si (fun r => r = bI (uR op))) 0 0 (fun _ => False) := by
  refine Met.ofW (cc := b_Co_usesRight) (maxL := 1) (ret := (some .boolean)) (by decide) rfl ?_
  intro p e s m args below meth c s₁ B hml hv
  obtain ⟨rfl, hP, hK⟩ := hv
  have hx := B.exec
  have hb := B.bytes
  have hr := B.returns
  have hts := atoms_spec (ws := ws_Co_usesRight) B.pre
  have hg : ∀ w ∈ TG, w.before ([.int op] : List Value).toArray s = true := fun w h => hts w (List.mem_cons_of_mem _ h)
  have hown : s.vm.findClass R_Co = some m.cls := findClass_of_methodNamed B.named
  have hlocks := B.notSynchronized
  have hl := lv_entry ([.int op]) (n := 1) (Nat.le_of_ble_eq_true rfl)
  rw [lg_entry_eq]
  generalize (lg_sl ([.int op]) ++ List.replicate (1 - (lg_sl ([.int op])).length) Slot.unset).toArray = ls at hl ⊢
  have hl : lv_has ls 1 [(0, .int op)] := hl
  refine lv_iload_n hx hb d_Co_usesRight_0 rfl (lv_at hl 0 rfl) ?_
  refine lv_iconst (v := 2) hx hb d_Co_usesRight_1 (by decide) ?_
  refine lv_icmp_lt (tgt := 14) hx hb d_Co_usesRight_2 (by decide) (fun c1 => ?_) (fun c1 => ?_)
  · refine lv_iconst (v := 0) hx hb d_Co_usesRight_14 (by decide) ?_
    exact W.zret (v := (0 : Int32)) (ty := .boolean) hx hb hr rfl (fun t ht hW => ⟨_, rfl, (bI0 (uR_f1 c1)), ht⟩) (fun q h => by cases h) d_Co_usesRight_15
  · refine lv_iload_n hx hb d_Co_usesRight_5 rfl (lv_at hl 0 rfl) ?_
    refine lv_iconst (v := 5) hx hb d_Co_usesRight_6 (by decide) ?_
    refine lv_icmp_gt (tgt := 14) hx hb d_Co_usesRight_7 (by decide) (fun c2 => ?_) (fun c2 => ?_)
    · refine lv_iconst (v := 0) hx hb d_Co_usesRight_14 (by decide) ?_
      exact W.zret (v := (0 : Int32)) (ty := .boolean) hx hb hr rfl (fun t ht hW => ⟨_, rfl, (bI0 (uR_f2 c2)), ht⟩) (fun q h => by cases h) d_Co_usesRight_15
    · refine lv_iconst (v := 1) hx hb d_Co_usesRight_10 (by decide) ?_
      refine lv_goto (tgt := 15) hx hb d_Co_usesRight_11 (by decide) ?_
      exact W.zret (v := (1 : Int32)) (ty := .boolean) hx hb hr rfl (fun t ht hW => ⟨_, rfl, (bI1 (uR_t c1 c2)), ht⟩) (fun q h => by cases h) d_Co_usesRight_15

set_option maxHeartbeats 4000000 in
set_option maxRecDepth 100000 in
theorem c_Co_size (l : Launch) (dC : Nat → ClassId) (dI : Nat → Nat → Nat) (cI : ClassId) (h : Nat) (o1 : Nat) (o2 : Nat) (o3 : Nat) (o4 : Nat) (o5 : Nat) (o6 : Nat) (n : Nat) (vc : Nat) (ops : Nat → Int32) (lf : Nat → Int32) (rg : Nat → Int32) (E : Nat → Nat) (U : Nat → Nat) (P : Nat → Nat) : Met l y_Co_size ws_Co_size (lvR 0 0 0) (va_Pc [.ref h] (PB (dC, dI) vwCl [(h, .inr (1, [.ref o1, .ref o2, .ref o3, .ref o4, .ref o5, .ref o6, .int (nI n), .int (nI vc)])), (o1, .inl (cI, 24, .inl ops)), (o2, .inl (cI, 24, .inl lf)), (o3, .inl (cI, 24, .inl rg)), (o4, .inl (cI, 24, .inl (fun z9 => nI (E z9)))), (o5, .inl (cI, 24, .inl (fun z9 => nI (U z9)))), (o6, .inl (cI, 24, .inl (fun z9 => nI (P z9))))] [(cI, .int)])) (vp_Si (fun r => r = nI n)) 0 0 (fun _ => False) := by
  refine Met.ofW (cc := b_Co_size) (maxL := 1) (ret := (some .int)) (by decide) rfl ?_
  intro p e s m args below meth c s₁ B hml hv
  obtain ⟨rfl, hP, hK⟩ := hv
  have hx := B.exec
  have hb := B.bytes
  have hr := B.returns
  have hts := atoms_spec (ws := ws_Co_size) B.pre
  have hg : ∀ w ∈ TG, w.before ([.ref h] : List Value).toArray s = true := fun w h => hts w (List.mem_cons_of_mem _ h)
  have hown : s.vm.findClass R_Co = some m.cls := findClass_of_methodNamed B.named
  have hlocks := B.notSynchronized
  have hl := lv_entry ([.ref h]) (n := 1) (Nat.le_of_ble_eq_true rfl)
  rw [lg_entry_eq]
  generalize (lg_sl ([.ref h]) ++ List.replicate (1 - (lg_sl ([.ref h])).length) Slot.unset).toArray = ls at hl ⊢
  have hl : lv_has ls 1 [(0, .ref h)] := hl
  refine lv_aload_n hx hb d_Co_size_0 rfl (lv_at hl 0 rfl) ?_
  refine va_get (D := (dC, dI)) (ci := 1) (v := .int (nI n)) (C := R_Co) (T := T_Co) (N := 8) hx hb hg in_Co hown hK hP 0 rfl rfl 6 (by decide) (hg _ tw_35) (fun _ h9 => h9) rfl d_Co_size_1 ?_
  exact W.iret (v := nI n) hx hb hr (fun t ht hW => ⟨_, rfl, rfl, ht⟩) (fun q h => by cases h) d_Co_size_4

set_option maxHeartbeats 4000000 in
set_option maxRecDepth 100000 in
theorem c_Co_values (l : Launch) (dC : Nat → ClassId) (dI : Nat → Nat → Nat) (cI : ClassId) (h : Nat) (o1 : Nat) (o2 : Nat) (o3 : Nat) (o4 : Nat) (o5 : Nat) (o6 : Nat) (n : Nat) (vc : Nat) (ops : Nat → Int32) (lf : Nat → Int32) (rg : Nat → Int32) (E : Nat → Nat) (U : Nat → Nat) (P : Nat → Nat) : Met l y_Co_values ws_Co_values (lvR 0 0 0) (va_Pc [.ref h] (PB (dC, dI) vwCl [(h, .inr (1, [.ref o1, .ref o2, .ref o3, .ref o4, .ref o5, .ref o6, .int (nI n), .int (nI vc)])), (o1, .inl (cI, 24, .inl ops)), (o2, .inl (cI, 24, .inl lf)), (o3, .inl (cI, 24, .inl rg)), (o4, .inl (cI, 24, .inl (fun z9 => nI (E z9)))), (o5, .inl (cI, 24, .inl (fun z9 => nI (U z9)))), (o6, .inl (cI, 24, .inl (fun z9 => nI (P z9))))] [(cI, .int)])) (vp_Si (fun r => r = nI vc)) 0 0 (fun _ => False) := by
  refine Met.ofW (cc := b_Co_values) (maxL := 1) (ret := (some .int)) (by decide) rfl ?_
  intro p e s m args below meth c s₁ B hml hv
  obtain ⟨rfl, hP, hK⟩ := hv
  have hx := B.exec
  have hb := B.bytes
  have hr := B.returns
  have hts := atoms_spec (ws := ws_Co_values) B.pre
  have hg : ∀ w ∈ TG, w.before ([.ref h] : List Value).toArray s = true := fun w h => hts w (List.mem_cons_of_mem _ h)
  have hown : s.vm.findClass R_Co = some m.cls := findClass_of_methodNamed B.named
  have hlocks := B.notSynchronized
  have hl := lv_entry ([.ref h]) (n := 1) (Nat.le_of_ble_eq_true rfl)
  rw [lg_entry_eq]
  generalize (lg_sl ([.ref h]) ++ List.replicate (1 - (lg_sl ([.ref h])).length) Slot.unset).toArray = ls at hl ⊢
  have hl : lv_has ls 1 [(0, .ref h)] := hl
  refine lv_aload_n hx hb d_Co_values_0 rfl (lv_at hl 0 rfl) ?_
  refine va_get (D := (dC, dI)) (ci := 1) (v := .int (nI vc)) (C := R_Co) (T := T_Co) (N := 8) hx hb hg in_Co hown hK hP 0 rfl rfl 7 (by decide) (hg _ tw_36) (fun _ h9 => h9) rfl d_Co_values_1 ?_
  exact W.iret (v := nI vc) hx hb hr (fun t ht hW => ⟨_, rfl, rfl, ht⟩) (fun q h => by cases h) d_Co_values_4

set_option maxHeartbeats 4000000 in
set_option maxRecDepth 100000 in
theorem c_Co_opAt (l : Launch) (dC : Nat → ClassId) (dI : Nat → Nat → Nat) (cI : ClassId) (h : Nat) (o1 : Nat) (o2 : Nat) (o3 : Nat) (o4 : Nat) (o5 : Nat) (o6 : Nat) (n : Nat) (vc : Nat) (ops : Nat → Int32) (lf : Nat → Int32) (rg : Nat → Int32) (E : Nat → Nat) (U : Nat → Nat) (P : Nat → Nat) (i : Nat) (hi : i < 24) : Met l y_Co_opAt ws_Co_opAt (lvR 0 0 0) (va_Pc [.ref h, .int (nI i)] (PB (dC, dI) vwCl [(h, .inr (1, [.ref o1, .ref o2, .ref o3, .ref o4, .ref o5, .ref o6, .int (nI n), .int (nI vc)])), (o1, .inl (cI, 24, .inl ops)), (o2, .inl (cI, 24, .inl lf)), (o3, .inl (cI, 24, .inl rg)), (o4, .inl (cI, 24, .inl (fun z9 => nI (E z9)))), (o5, .inl (cI, 24, .inl (fun z9 => nI (U z9)))), (o6, .inl (cI, 24, .inl (fun z9 => nI (P z9))))] [(cI, .int)])) (vp_Si (fun r => r = ops i)) 0 0 (fun _ => False) := by
  refine Met.ofW (cc := b_Co_opAt) (maxL := 2) (ret := (some .int)) (by decide) rfl ?_
  intro p e s m args below meth c s₁ B hml hv
  obtain ⟨rfl, hP, hK⟩ := hv
  have hx := B.exec
  have hb := B.bytes
  have hr := B.returns
  have hts := atoms_spec (ws := ws_Co_opAt) B.pre
  have hg : ∀ w ∈ TG, w.before ([.ref h, .int (nI i)] : List Value).toArray s = true := fun w h => hts w (List.mem_cons_of_mem _ h)
  have hown : s.vm.findClass R_Co = some m.cls := findClass_of_methodNamed B.named
  have hlocks := B.notSynchronized
  have hl := lv_entry ([.ref h, .int (nI i)]) (n := 2) (Nat.le_of_ble_eq_true rfl)
  rw [lg_entry_eq]
  generalize (lg_sl ([.ref h, .int (nI i)]) ++ List.replicate (2 - (lg_sl ([.ref h, .int (nI i)])).length) Slot.unset).toArray = ls at hl ⊢
  have hl : lv_has ls 2 [(0, .ref h), (1, .int (nI i))] := hl
  refine lv_aload_n hx hb d_Co_opAt_0 rfl (lv_at hl 0 rfl) ?_
  refine va_get (D := (dC, dI)) (ci := 1) (v := .ref o1) (C := R_Co) (T := T_Co) (N := 8) hx hb hg in_Co hown hK hP 0 rfl rfl 0 (by decide) (hg _ tw_29) (fun _ h9 => h9) rfl d_Co_opAt_1 ?_
  refine lv_iload_n hx hb d_Co_opAt_4 rfl (lv_at hl 1 rfl) ?_
  refine wb_iald hx hb hK hP 1 0 rfl rfl i rfl hi (by decide) d_Co_opAt_5 ?_
  exact W.iret (v := ops i) hx hb hr (fun t ht hW => ⟨_, rfl, rfl, ht⟩) (fun q h => by cases h) d_Co_opAt_6

set_option maxHeartbeats 4000000 in
set_option maxRecDepth 100000 in
theorem c_Co_leftAt (l : Launch) (dC : Nat → ClassId) (dI : Nat → Nat → Nat) (cI : ClassId) (h : Nat) (o1 : Nat) (o2 : Nat) (o3 : Nat) (o4 : Nat) (o5 : Nat) (o6 : Nat) (n : Nat) (vc : Nat) (ops : Nat → Int32) (lf : Nat → Int32) (rg : Nat → Int32) (E : Nat → Nat) (U : Nat → Nat) (P : Nat → Nat) (i : Nat) (hi : i < 24) : Met l y_Co_leftAt ws_Co_leftAt (lvR 0 0 0) (va_Pc [.ref h, .int (nI i)] (PB (dC, dI) vwCl [(h, .inr (1, [.ref o1, .ref o2, .ref o3, .ref o4, .ref o5, .ref o6, .int (nI n), .int (nI vc)])), (o1, .inl (cI, 24, .inl ops)), (o2, .inl (cI, 24, .inl lf)), (o3, .inl (cI, 24, .inl rg)), (o4, .inl (cI, 24, .inl (fun z9 => nI (E z9)))), (o5, .inl (cI, 24, .inl (fun z9 => nI (U z9)))), (o6, .inl (cI, 24, .inl (fun z9 => nI (P z9))))] [(cI, .int)])) (vp_Si (fun r => r = lf i)) 0 0 (fun _ => False) := by
  refine Met.ofW (cc := b_Co_leftAt) (maxL := 2) (ret := (some .int)) (by decide) rfl ?_
  intro p e s m args below meth c s₁ B hml hv
  obtain ⟨rfl, hP, hK⟩ := hv
  have hx := B.exec
  have hb := B.bytes
  have hr := B.returns
  have hts := atoms_spec (ws := ws_Co_leftAt) B.pre
  have hg : ∀ w ∈ TG, w.before ([.ref h, .int (nI i)] : List Value).toArray s = true := fun w h => hts w (List.mem_cons_of_mem _ h)
  have hown : s.vm.findClass R_Co = some m.cls := findClass_of_methodNamed B.named
  have hlocks := B.notSynchronized
  have hl := lv_entry ([.ref h, .int (nI i)]) (n := 2) (Nat.le_of_ble_eq_true rfl)
  rw [lg_entry_eq]
  generalize (lg_sl ([.ref h, .int (nI i)]) ++ List.replicate (2 - (lg_sl ([.ref h, .int (nI i)])).length) Slot.unset).toArray = ls at hl ⊢
  have hl : lv_has ls 2 [(0, .ref h), (1, .int (nI i))] := hl
  refine lv_aload_n hx hb d_Co_leftAt_0 rfl (lv_at hl 0 rfl) ?_
  refine va_get (D := (dC, dI)) (ci := 1) (v := .ref o2) (C := R_Co) (T := T_Co) (N := 8) hx hb hg in_Co hown hK hP 0 rfl rfl 1 (by decide) (hg _ tw_30) (fun _ h9 => h9) rfl d_Co_leftAt_1 ?_
  refine lv_iload_n hx hb d_Co_leftAt_4 rfl (lv_at hl 1 rfl) ?_
  refine wb_iald hx hb hK hP 2 0 rfl rfl i rfl hi (by decide) d_Co_leftAt_5 ?_
  exact W.iret (v := lf i) hx hb hr (fun t ht hW => ⟨_, rfl, rfl, ht⟩) (fun q h => by cases h) d_Co_leftAt_6

set_option maxHeartbeats 4000000 in
set_option maxRecDepth 100000 in
theorem c_Co_rightAt (l : Launch) (dC : Nat → ClassId) (dI : Nat → Nat → Nat) (cI : ClassId) (h : Nat) (o1 : Nat) (o2 : Nat) (o3 : Nat) (o4 : Nat) (o5 : Nat) (o6 : Nat) (n : Nat) (vc : Nat) (ops : Nat → Int32) (lf : Nat → Int32) (rg : Nat → Int32) (E : Nat → Nat) (U : Nat → Nat) (P : Nat → Nat) (i : Nat) (hi : i < 24) : Met l y_Co_rightAt ws_Co_rightAt (lvR 0 0 0) (va_Pc [.ref h, .int (nI i)] (PB (dC, dI) vwCl [(h, .inr (1, [.ref o1, .ref o2, .ref o3, .ref o4, .ref o5, .ref o6, .int (nI n), .int (nI vc)])), (o1, .inl (cI, 24, .inl ops)), (o2, .inl (cI, 24, .inl lf)), (o3, .inl (cI, 24, .inl rg)), (o4, .inl (cI, 24, .inl (fun z9 => nI (E z9)))), (o5, .inl (cI, 24, .inl (fun z9 => nI (U z9)))), (o6, .inl (cI, 24, .inl (fun z9 => nI (P z9))))] [(cI, .int)])) (vp_Si (fun r => r = rg i)) 0 0 (fun _ => False) := by
  refine Met.ofW (cc := b_Co_rightAt) (maxL := 2) (ret := (some .int)) (by decide) rfl ?_
  intro p e s m args below meth c s₁ B hml hv
  obtain ⟨rfl, hP, hK⟩ := hv
  have hx := B.exec
  have hb := B.bytes
  have hr := B.returns
  have hts := atoms_spec (ws := ws_Co_rightAt) B.pre
  have hg : ∀ w ∈ TG, w.before ([.ref h, .int (nI i)] : List Value).toArray s = true := fun w h => hts w (List.mem_cons_of_mem _ h)
  have hown : s.vm.findClass R_Co = some m.cls := findClass_of_methodNamed B.named
  have hlocks := B.notSynchronized
  have hl := lv_entry ([.ref h, .int (nI i)]) (n := 2) (Nat.le_of_ble_eq_true rfl)
  rw [lg_entry_eq]
  generalize (lg_sl ([.ref h, .int (nI i)]) ++ List.replicate (2 - (lg_sl ([.ref h, .int (nI i)])).length) Slot.unset).toArray = ls at hl ⊢
  have hl : lv_has ls 2 [(0, .ref h), (1, .int (nI i))] := hl
  refine lv_aload_n hx hb d_Co_rightAt_0 rfl (lv_at hl 0 rfl) ?_
  refine va_get (D := (dC, dI)) (ci := 1) (v := .ref o3) (C := R_Co) (T := T_Co) (N := 8) hx hb hg in_Co hown hK hP 0 rfl rfl 2 (by decide) (hg _ tw_31) (fun _ h9 => h9) rfl d_Co_rightAt_1 ?_
  refine lv_iload_n hx hb d_Co_rightAt_4 rfl (lv_at hl 1 rfl) ?_
  refine wb_iald hx hb hK hP 3 0 rfl rfl i rfl hi (by decide) d_Co_rightAt_5 ?_
  exact W.iret (v := rg i) hx hb hr (fun t ht hW => ⟨_, rfl, rfl, ht⟩) (fun q h => by cases h) d_Co_rightAt_6

set_option maxHeartbeats 4000000 in
set_option maxRecDepth 100000 in
theorem c_Co_endOf (l : Launch) (dC : Nat → ClassId) (dI : Nat → Nat → Nat) (cI : ClassId) (h : Nat) (o1 : Nat) (o2 : Nat) (o3 : Nat) (o4 : Nat) (o5 : Nat) (o6 : Nat) (n : Nat) (vc : Nat) (ops : Nat → Int32) (lf : Nat → Int32) (rg : Nat → Int32) (E : Nat → Nat) (U : Nat → Nat) (P : Nat → Nat) (i : Nat) (hi : i < 24) : Met l y_Co_endOf ws_Co_endOf (lvR 0 0 0) (va_Pc [.ref h, .int (nI i)] (PB (dC, dI) vwCl [(h, .inr (1, [.ref o1, .ref o2, .ref o3, .ref o4, .ref o5, .ref o6, .int (nI n), .int (nI vc)])), (o1, .inl (cI, 24, .inl ops)), (o2, .inl (cI, 24, .inl lf)), (o3, .inl (cI, 24, .inl rg)), (o4, .inl (cI, 24, .inl (fun z9 => nI (E z9)))), (o5, .inl (cI, 24, .inl (fun z9 => nI (U z9)))), (o6, .inl (cI, 24, .inl (fun z9 => nI (P z9))))] [(cI, .int)])) (vp_Si (fun r => r = nI (E i))) 0 0 (fun _ => False) := by
  refine Met.ofW (cc := b_Co_endOf) (maxL := 2) (ret := (some .int)) (by decide) rfl ?_
  intro p e s m args below meth c s₁ B hml hv
  obtain ⟨rfl, hP, hK⟩ := hv
  have hx := B.exec
  have hb := B.bytes
  have hr := B.returns
  have hts := atoms_spec (ws := ws_Co_endOf) B.pre
  have hg : ∀ w ∈ TG, w.before ([.ref h, .int (nI i)] : List Value).toArray s = true := fun w h => hts w (List.mem_cons_of_mem _ h)
  have hown : s.vm.findClass R_Co = some m.cls := findClass_of_methodNamed B.named
  have hlocks := B.notSynchronized
  have hl := lv_entry ([.ref h, .int (nI i)]) (n := 2) (Nat.le_of_ble_eq_true rfl)
  rw [lg_entry_eq]
  generalize (lg_sl ([.ref h, .int (nI i)]) ++ List.replicate (2 - (lg_sl ([.ref h, .int (nI i)])).length) Slot.unset).toArray = ls at hl ⊢
  have hl : lv_has ls 2 [(0, .ref h), (1, .int (nI i))] := hl
  refine lv_aload_n hx hb d_Co_endOf_0 rfl (lv_at hl 0 rfl) ?_
  refine va_get (D := (dC, dI)) (ci := 1) (v := .ref o4) (C := R_Co) (T := T_Co) (N := 8) hx hb hg in_Co hown hK hP 0 rfl rfl 3 (by decide) (hg _ tw_32) (fun _ h9 => h9) rfl d_Co_endOf_1 ?_
  refine lv_iload_n hx hb d_Co_endOf_4 rfl (lv_at hl 1 rfl) ?_
  refine wb_iald hx hb hK hP 4 0 rfl rfl i rfl hi (by decide) d_Co_endOf_5 ?_
  exact W.iret (v := nI (E i)) hx hb hr (fun t ht hW => ⟨_, rfl, rfl, ht⟩) (fun q h => by cases h) d_Co_endOf_6

set_option maxHeartbeats 4000000 in
set_option maxRecDepth 100000 in
theorem c_Co_usesOf (l : Launch) (dC : Nat → ClassId) (dI : Nat → Nat → Nat) (cI : ClassId) (h : Nat) (o1 : Nat) (o2 : Nat) (o3 : Nat) (o4 : Nat) (o5 : Nat) (o6 : Nat) (n : Nat) (vc : Nat) (ops : Nat → Int32) (lf : Nat → Int32) (rg : Nat → Int32) (E : Nat → Nat) (U : Nat → Nat) (P : Nat → Nat) (i : Nat) (hi : i < 24) : Met l y_Co_usesOf ws_Co_usesOf (lvR 0 0 0) (va_Pc [.ref h, .int (nI i)] (PB (dC, dI) vwCl [(h, .inr (1, [.ref o1, .ref o2, .ref o3, .ref o4, .ref o5, .ref o6, .int (nI n), .int (nI vc)])), (o1, .inl (cI, 24, .inl ops)), (o2, .inl (cI, 24, .inl lf)), (o3, .inl (cI, 24, .inl rg)), (o4, .inl (cI, 24, .inl (fun z9 => nI (E z9)))), (o5, .inl (cI, 24, .inl (fun z9 => nI (U z9)))), (o6, .inl (cI, 24, .inl (fun z9 => nI (P z9))))] [(cI, .int)])) (vp_Si (fun r => r = nI (U i))) 0 0 (fun _ => False) := by
  refine Met.ofW (cc := b_Co_usesOf) (maxL := 2) (ret := (some .int)) (by decide) rfl ?_
  intro p e s m args below meth c s₁ B hml hv
  obtain ⟨rfl, hP, hK⟩ := hv
  have hx := B.exec
  have hb := B.bytes
  have hr := B.returns
  have hts := atoms_spec (ws := ws_Co_usesOf) B.pre
  have hg : ∀ w ∈ TG, w.before ([.ref h, .int (nI i)] : List Value).toArray s = true := fun w h => hts w (List.mem_cons_of_mem _ h)
  have hown : s.vm.findClass R_Co = some m.cls := findClass_of_methodNamed B.named
  have hlocks := B.notSynchronized
  have hl := lv_entry ([.ref h, .int (nI i)]) (n := 2) (Nat.le_of_ble_eq_true rfl)
  rw [lg_entry_eq]
  generalize (lg_sl ([.ref h, .int (nI i)]) ++ List.replicate (2 - (lg_sl ([.ref h, .int (nI i)])).length) Slot.unset).toArray = ls at hl ⊢
  have hl : lv_has ls 2 [(0, .ref h), (1, .int (nI i))] := hl
  refine lv_aload_n hx hb d_Co_usesOf_0 rfl (lv_at hl 0 rfl) ?_
  refine va_get (D := (dC, dI)) (ci := 1) (v := .ref o5) (C := R_Co) (T := T_Co) (N := 8) hx hb hg in_Co hown hK hP 0 rfl rfl 4 (by decide) (hg _ tw_33) (fun _ h9 => h9) rfl d_Co_usesOf_1 ?_
  refine lv_iload_n hx hb d_Co_usesOf_4 rfl (lv_at hl 1 rfl) ?_
  refine wb_iald hx hb hK hP 5 0 rfl rfl i rfl hi (by decide) d_Co_usesOf_5 ?_
  exact W.iret (v := nI (U i)) hx hb hr (fun t ht hW => ⟨_, rfl, rfl, ht⟩) (fun q h => by cases h) d_Co_usesOf_6

set_option maxHeartbeats 4000000 in
set_option maxRecDepth 100000 in
theorem c_Co_priceOf (l : Launch) (dC : Nat → ClassId) (dI : Nat → Nat → Nat) (cI : ClassId) (h : Nat) (o1 : Nat) (o2 : Nat) (o3 : Nat) (o4 : Nat) (o5 : Nat) (o6 : Nat) (n : Nat) (vc : Nat) (ops : Nat → Int32) (lf : Nat → Int32) (rg : Nat → Int32) (E : Nat → Nat) (U : Nat → Nat) (P : Nat → Nat) (i : Nat) (hi : i < 24) : Met l y_Co_priceOf ws_Co_priceOf (lvR 0 0 0) (va_Pc [.ref h, .int (nI i)] (PB (dC, dI) vwCl [(h, .inr (1, [.ref o1, .ref o2, .ref o3, .ref o4, .ref o5, .ref o6, .int (nI n), .int (nI vc)])), (o1, .inl (cI, 24, .inl ops)), (o2, .inl (cI, 24, .inl lf)), (o3, .inl (cI, 24, .inl rg)), (o4, .inl (cI, 24, .inl (fun z9 => nI (E z9)))), (o5, .inl (cI, 24, .inl (fun z9 => nI (U z9)))), (o6, .inl (cI, 24, .inl (fun z9 => nI (P z9))))] [(cI, .int)])) (vp_Si (fun r => r = nI (P i))) 0 0 (fun _ => False) := by
  refine Met.ofW (cc := b_Co_priceOf) (maxL := 2) (ret := (some .int)) (by decide) rfl ?_
  intro p e s m args below meth c s₁ B hml hv
  obtain ⟨rfl, hP, hK⟩ := hv
  have hx := B.exec
  have hb := B.bytes
  have hr := B.returns
  have hts := atoms_spec (ws := ws_Co_priceOf) B.pre
  have hg : ∀ w ∈ TG, w.before ([.ref h, .int (nI i)] : List Value).toArray s = true := fun w h => hts w (List.mem_cons_of_mem _ h)
  have hown : s.vm.findClass R_Co = some m.cls := findClass_of_methodNamed B.named
  have hlocks := B.notSynchronized
  have hl := lv_entry ([.ref h, .int (nI i)]) (n := 2) (Nat.le_of_ble_eq_true rfl)
  rw [lg_entry_eq]
  generalize (lg_sl ([.ref h, .int (nI i)]) ++ List.replicate (2 - (lg_sl ([.ref h, .int (nI i)])).length) Slot.unset).toArray = ls at hl ⊢
  have hl : lv_has ls 2 [(0, .ref h), (1, .int (nI i))] := hl
  refine lv_aload_n hx hb d_Co_priceOf_0 rfl (lv_at hl 0 rfl) ?_
  refine va_get (D := (dC, dI)) (ci := 1) (v := .ref o6) (C := R_Co) (T := T_Co) (N := 8) hx hb hg in_Co hown hK hP 0 rfl rfl 5 (by decide) (hg _ tw_34) (fun _ h9 => h9) rfl d_Co_priceOf_1 ?_
  refine lv_iload_n hx hb d_Co_priceOf_4 rfl (lv_at hl 1 rfl) ?_
  refine wb_iald hx hb hK hP 6 0 rfl rfl i rfl hi (by decide) d_Co_priceOf_5 ?_
  exact W.iret (v := nI (P i)) hx hb hr (fun t ht hW => ⟨_, rfl, rfl, ht⟩) (fun q h => by cases h) d_Co_priceOf_6

set_option maxHeartbeats 4000000 in
set_option maxRecDepth 100000 in
theorem c_Co_lengthOf (l : Launch) (dC : Nat → ClassId) (dI : Nat → Nat → Nat) (cI : ClassId) (h : Nat) (o1 : Nat) (o2 : Nat) (o3 : Nat) (o4 : Nat) (o5 : Nat) (o6 : Nat) (n : Nat) (vc : Nat) (ops : Nat → Int32) (lf : Nat → Int32) (rg : Nat → Int32) (E : Nat → Nat) (U : Nat → Nat) (P : Nat → Nat) (i : Nat) (hi : i < 24) (hE : i ≤ E i) : Met l y_Co_lengthOf ws_Co_lengthOf (lvR 0 0 0) (va_Pc [.ref h, .int (nI i)] (PB (dC, dI) vwCl [(h, .inr (1, [.ref o1, .ref o2, .ref o3, .ref o4, .ref o5, .ref o6, .int (nI n), .int (nI vc)])), (o1, .inl (cI, 24, .inl ops)), (o2, .inl (cI, 24, .inl lf)), (o3, .inl (cI, 24, .inl rg)), (o4, .inl (cI, 24, .inl (fun z9 => nI (E z9)))), (o5, .inl (cI, 24, .inl (fun z9 => nI (U z9)))), (o6, .inl (cI, 24, .inl (fun z9 => nI (P z9))))] [(cI, .int)])) (vp_Si (fun r => r = nI (E i - i))) 0 0 (fun _ => False) := by
  refine Met.ofW (cc := b_Co_lengthOf) (maxL := 2) (ret := (some .int)) (by decide) rfl ?_
  intro p e s m args below meth c s₁ B hml hv
  obtain ⟨rfl, hP, hK⟩ := hv
  have hx := B.exec
  have hb := B.bytes
  have hr := B.returns
  have hts := atoms_spec (ws := ws_Co_lengthOf) B.pre
  have hg : ∀ w ∈ TG, w.before ([.ref h, .int (nI i)] : List Value).toArray s = true := fun w h => hts w (List.mem_cons_of_mem _ h)
  have hown : s.vm.findClass R_Co = some m.cls := findClass_of_methodNamed B.named
  have hlocks := B.notSynchronized
  have hl := lv_entry ([.ref h, .int (nI i)]) (n := 2) (Nat.le_of_ble_eq_true rfl)
  rw [lg_entry_eq]
  generalize (lg_sl ([.ref h, .int (nI i)]) ++ List.replicate (2 - (lg_sl ([.ref h, .int (nI i)])).length) Slot.unset).toArray = ls at hl ⊢
  have hl : lv_has ls 2 [(0, .ref h), (1, .int (nI i))] := hl
  refine lv_aload_n hx hb d_Co_lengthOf_0 rfl (lv_at hl 0 rfl) ?_
  refine va_get (D := (dC, dI)) (ci := 1) (v := .ref o4) (C := R_Co) (T := T_Co) (N := 8) hx hb hg in_Co hown hK hP 0 rfl rfl 3 (by decide) (hg _ tw_32) (fun _ h9 => h9) rfl d_Co_lengthOf_1 ?_
  refine lv_iload_n hx hb d_Co_lengthOf_4 rfl (lv_at hl 1 rfl) ?_
  refine wb_iald hx hb hK hP 4 0 rfl rfl i rfl hi (by decide) d_Co_lengthOf_5 ?_
  refine lv_iload_n hx hb d_Co_lengthOf_6 rfl (lv_at hl 1 rfl) ?_
  refine wb_isub hx hb (E i) i rfl rfl hE d_Co_lengthOf_7 ?_
  exact W.iret (v := nI ((E i) - i)) hx hb hr (fun t ht hW => ⟨_, rfl, rfl, ht⟩) (fun q h => by cases h) d_Co_lengthOf_8

set_option maxHeartbeats 4000000 in
set_option maxRecDepth 100000 in
theorem c_Co_meet (l : Launch) (dC : Nat → ClassId) (dI : Nat → Nat → Nat) (cI : ClassId) (h : Nat) (o1 : Nat) (o2 : Nat) (o3 : Nat) (o4 : Nat) (o5 : Nat) (o6 : Nat) (n : Nat) (vc : Nat) (ops : Nat → Int32) (lf : Nat → Int32) (rg : Nat → Int32) (E : Nat → Nat) (U : Nat → Nat) (P : Nat → Nat) (i : Nat) (j : Nat) (hi : i < 24) (hj : j < 24) (hEi : E i ≤ 24) (hEj : E j ≤ 24) : Met l y_Co_meet ws_Co_meet (lvR 0 0 0) (va_Pc [.ref h, .int (nI i), .int (nI j)] (PB (dC, dI) vwCl [(h, .inr (1, [.ref o1, .ref o2, .ref o3, .ref o4, .ref o5, .ref o6, .int (nI n), .int (nI vc)])), (o1, .inl (cI, 24, .inl ops)), (o2, .inl (cI, 24, .inl lf)), (o3, .inl (cI, 24, .inl rg)), (o4, .inl (cI, 24, .inl (fun z9 => nI (E z9)))), (o5, .inl (cI, 24, .inl (fun z9 => nI (U z9)))), (o6, .inl (cI, 24, .inl (fun z9 => nI (P z9))))] [(cI, .int)])) (vp_Si (fun r => r = bI (mt E i j))) 0 0 (fun _ => False) := by
  refine Met.ofW (cc := b_Co_meet) (maxL := 3) (ret := (some .boolean)) (by decide) rfl ?_
  intro p e s m args below meth c s₁ B hml hv
  obtain ⟨rfl, hP, hK⟩ := hv
  have hx := B.exec
  have hb := B.bytes
  have hr := B.returns
  have hts := atoms_spec (ws := ws_Co_meet) B.pre
  have hg : ∀ w ∈ TG, w.before ([.ref h, .int (nI i), .int (nI j)] : List Value).toArray s = true := fun w h => hts w (List.mem_cons_of_mem _ h)
  have hown : s.vm.findClass R_Co = some m.cls := findClass_of_methodNamed B.named
  have hlocks := B.notSynchronized
  have hl := lv_entry ([.ref h, .int (nI i), .int (nI j)]) (n := 3) (Nat.le_of_ble_eq_true rfl)
  rw [lg_entry_eq]
  generalize (lg_sl ([.ref h, .int (nI i), .int (nI j)]) ++ List.replicate (3 - (lg_sl ([.ref h, .int (nI i), .int (nI j)])).length) Slot.unset).toArray = ls at hl ⊢
  have hl : lv_has ls 3 [(0, .ref h), (1, .int (nI i)), (2, .int (nI j))] := hl
  refine lv_iload_n hx hb d_Co_meet_0 rfl (lv_at hl 1 rfl) ?_
  refine lv_aload_n hx hb d_Co_meet_1 rfl (lv_at hl 0 rfl) ?_
  refine va_get (D := (dC, dI)) (ci := 1) (v := .ref o4) (C := R_Co) (T := T_Co) (N := 8) hx hb hg in_Co hown hK hP 0 rfl rfl 3 (by decide) (hg _ tw_32) (fun _ h9 => h9) rfl d_Co_meet_2 ?_
  refine lv_iload_n hx hb d_Co_meet_5 rfl (lv_at hl 2 rfl) ?_
  refine wb_iald hx hb hK hP 4 0 rfl rfl j rfl (by omega) (by decide) d_Co_meet_6 ?_
  refine wb_icmp_ge (tgt := 24) hx hb i (E j) rfl rfl (by first | exact Nat.lt_of_le_of_lt hEi (by decide) | exact Nat.lt_of_le_of_lt hEj (by decide) | exact Nat.lt_trans hi (by decide) | exact Nat.lt_trans hj (by decide)) (by first | exact Nat.lt_of_le_of_lt hEi (by decide) | exact Nat.lt_of_le_of_lt hEj (by decide) | exact Nat.lt_trans hi (by decide) | exact Nat.lt_trans hj (by decide)) d_Co_meet_7 (by decide) (fun c1 => ?_) (fun c1 => ?_)
  · refine lv_iconst (v := 0) hx hb d_Co_meet_24 (by decide) ?_
    exact W.zret (v := (0 : Int32)) (ty := .boolean) hx hb hr rfl (fun t ht hW => ⟨_, rfl, (bI0 (mt_f1 c1)), ht⟩) (fun q h => by cases h) d_Co_meet_25
  · refine lv_iload_n hx hb d_Co_meet_10 rfl (lv_at hl 2 rfl) ?_
    refine lv_aload_n hx hb d_Co_meet_11 rfl (lv_at hl 0 rfl) ?_
    refine va_get (D := (dC, dI)) (ci := 1) (v := .ref o4) (C := R_Co) (T := T_Co) (N := 8) hx hb hg in_Co hown hK hP 0 rfl rfl 3 (by decide) (hg _ tw_32) (fun _ h9 => h9) rfl d_Co_meet_12 ?_
    refine lv_iload_n hx hb d_Co_meet_15 rfl (lv_at hl 1 rfl) ?_
    refine wb_iald hx hb hK hP 4 0 rfl rfl i rfl (by omega) (by decide) d_Co_meet_16 ?_
    refine wb_icmp_ge (tgt := 24) hx hb j (E i) rfl rfl (by first | exact Nat.lt_of_le_of_lt hEi (by decide) | exact Nat.lt_of_le_of_lt hEj (by decide) | exact Nat.lt_trans hi (by decide) | exact Nat.lt_trans hj (by decide)) (by first | exact Nat.lt_of_le_of_lt hEi (by decide) | exact Nat.lt_of_le_of_lt hEj (by decide) | exact Nat.lt_trans hi (by decide) | exact Nat.lt_trans hj (by decide)) d_Co_meet_17 (by decide) (fun c2 => ?_) (fun c2 => ?_)
    · refine lv_iconst (v := 0) hx hb d_Co_meet_24 (by decide) ?_
      exact W.zret (v := (0 : Int32)) (ty := .boolean) hx hb hr rfl (fun t ht hW => ⟨_, rfl, (bI0 (mt_f2 c2)), ht⟩) (fun q h => by cases h) d_Co_meet_25
    · refine lv_iconst (v := 1) hx hb d_Co_meet_20 (by decide) ?_
      refine lv_goto (tgt := 25) hx hb d_Co_meet_21 (by decide) ?_
      exact W.zret (v := (1 : Int32)) (ty := .boolean) hx hb hr rfl (fun t ht hW => ⟨_, rfl, (bI1 (mt_t c1 c2)), ht⟩) (fun q h => by cases h) d_Co_meet_25

set_option maxHeartbeats 4000000 in
set_option maxRecDepth 100000 in
theorem c_Co_isValue (l : Launch) (dC : Nat → ClassId) (dI : Nat → Nat → Nat) (cI : ClassId) (h : Nat) (o1 : Nat) (o2 : Nat) (o3 : Nat) (o4 : Nat) (o5 : Nat) (o6 : Nat) (n : Nat) (vc : Nat) (ops : Nat → Int32) (lf : Nat → Int32) (rg : Nat → Int32) (E : Nat → Nat) (U : Nat → Nat) (P : Nat → Nat) (v : Int32) (hn : n ≤ 24) : Met l y_Co_isValue ws_Co_isValue (lvR 0 0 0) (va_Pc [.ref h, .int v] (PB (dC, dI) vwCl [(h, .inr (1, [.ref o1, .ref o2, .ref o3, .ref o4, .ref o5, .ref o6, .int (nI n), .int (nI vc)])), (o1, .inl (cI, 24, .inl ops)), (o2, .inl (cI, 24, .inl lf)), (o3, .inl (cI, 24, .inl rg)), (o4, .inl (cI, 24, .inl (fun z9 => nI (E z9)))), (o5, .inl (cI, 24, .inl (fun z9 => nI (U z9)))), (o6, .inl (cI, 24, .inl (fun z9 => nI (P z9))))] [(cI, .int)])) (vp_Si (fun r => r = bI (iv ops n v))) 0 0 (fun _ => False) := by
  refine Met.ofW (cc := b_Co_isValue) (maxL := 2) (ret := (some .boolean)) (by decide) rfl ?_
  intro p e s m args below meth c s₁ B hml hv
  obtain ⟨rfl, hP, hK⟩ := hv
  have hx := B.exec
  have hb := B.bytes
  have hr := B.returns
  have hts := atoms_spec (ws := ws_Co_isValue) B.pre
  have hg : ∀ w ∈ TG, w.before ([.ref h, .int v] : List Value).toArray s = true := fun w h => hts w (List.mem_cons_of_mem _ h)
  have hown : s.vm.findClass R_Co = some m.cls := findClass_of_methodNamed B.named
  have hlocks := B.notSynchronized
  have hl := lv_entry ([.ref h, .int v]) (n := 2) (Nat.le_of_ble_eq_true rfl)
  rw [lg_entry_eq]
  generalize (lg_sl ([.ref h, .int v]) ++ List.replicate (2 - (lg_sl ([.ref h, .int v])).length) Slot.unset).toArray = ls at hl ⊢
  have hl : lv_has ls 2 [(0, .ref h), (1, .int v)] := hl
  refine lv_iload_n hx hb d_Co_isValue_0 rfl (lv_at hl 1 rfl) ?_
  refine lv_if_lt (tgt := 27) hx hb d_Co_isValue_1 (by decide) (fun c1 => ?_) (fun c1 => ?_)
  · refine lv_iconst (v := 0) hx hb d_Co_isValue_27 (by decide) ?_
    exact W.zret (v := (0 : Int32)) (ty := .boolean) hx hb hr rfl (fun t ht hW => ⟨_, rfl, (bI0 (iv_f1 c1)), ht⟩) (fun q h => by cases h) d_Co_isValue_28
  · refine lv_iload_n hx hb d_Co_isValue_4 rfl (lv_at hl 1 rfl) ?_
    refine lv_aload_n hx hb d_Co_isValue_5 rfl (lv_at hl 0 rfl) ?_
    refine va_get (D := (dC, dI)) (ci := 1) (v := .int (nI n)) (C := R_Co) (T := T_Co) (N := 8) hx hb hg in_Co hown hK hP 0 rfl rfl 6 (by decide) (hg _ tw_35) (fun _ h9 => h9) rfl d_Co_isValue_6 ?_
    refine lv_icmp_ge (tgt := 27) hx hb d_Co_isValue_9 (by decide) (fun c2 => ?_) (fun c2 => ?_)
    · refine lv_iconst (v := 0) hx hb d_Co_isValue_27 (by decide) ?_
      exact W.zret (v := (0 : Int32)) (ty := .boolean) hx hb hr rfl (fun t ht hW => ⟨_, rfl, (bI0 (iv_f2 c2)), ht⟩) (fun q h => by cases h) d_Co_isValue_28
    · obtain ⟨j, hj, rfl⟩ := ix_of (n := n) (lt31 hn (by decide)) c1 c2
      refine lv_aload_n hx hb d_Co_isValue_12 rfl (lv_at hl 0 rfl) ?_
      refine va_get (D := (dC, dI)) (ci := 1) (v := .ref o1) (C := R_Co) (T := T_Co) (N := 8) hx hb hg in_Co hown hK hP 0 rfl rfl 0 (by decide) (hg _ tw_29) (fun _ h9 => h9) rfl d_Co_isValue_13 ?_
      refine lv_iload_n hx hb d_Co_isValue_16 rfl (lv_at hl 1 rfl) ?_
      refine wb_iald hx hb hK hP 1 0 rfl rfl j rfl (Nat.lt_of_lt_of_le hj hn) (by decide) d_Co_isValue_17 ?_
      refine lv_bipush (v := 6) hx hb d_Co_isValue_18 (by decide) ?_
      refine lv_icmp_eq (tgt := 27) hx hb d_Co_isValue_20 (by decide) (fun c3 => ?_) (fun c3 => ?_)
      · refine lv_iconst (v := 0) hx hb d_Co_isValue_27 (by decide) ?_
        exact W.zret (v := (0 : Int32)) (ty := .boolean) hx hb hr rfl (fun t ht hW => ⟨_, rfl, (bI0 (iv_f3 hn hj c3)), ht⟩) (fun q h => by cases h) d_Co_isValue_28
      · refine lv_iconst (v := 1) hx hb d_Co_isValue_23 (by decide) ?_
        refine lv_goto (tgt := 28) hx hb d_Co_isValue_24 (by decide) ?_
        exact W.zret (v := (1 : Int32)) (ty := .boolean) hx hb hr rfl (fun t ht hW => ⟨_, rfl, (bI1 (iv_t hn hj c3)), ht⟩) (fun q h => by cases h) d_Co_isValue_28
end
section
/-! small facts on the words for a code -/
theorem crx_step {ops : Nat → Int32} {m i : Nat} (h1 : i < m) (h3 : ¬ ops i = 7) : crx ops i (m - i) = crx ops (i + 1) (m - (i + 1)) := by
  have h : m - i = (m - (i + 1)) + 1 := by omega
  rw [h]
  show (decide (ops i = 7) || crx ops (i + 1) (m - (i + 1))) = _
  rw [decide_eq_false h3, Bool.false_or]
theorem crx_hit {ops : Nat → Int32} {m i : Nat} (h1 : i < m) (h3 : ops i = 7) : crx ops i (m - i) = true := by
  have h : m - i = (m - (i + 1)) + 1 := by omega
  rw [h]
  show (decide (ops i = 7) || crx ops (i + 1) (m - (i + 1))) = _
  rw [decide_eq_true h3, Bool.true_or]
theorem crx_end {ops : Nat → Int32} {m i : Nat} (h : m ≤ i) : crx ops i (m - i) = false := by
  rw [Nat.sub_eq_zero_of_le h]
  rfl
theorem om_n {ops : Nat → Int32} {E : Nat → Nat} {n v w a : Nat} (ha : a = om ops E n v w) (h : w = v ∨ iv ops n (nI w) = false ∨ mt E v w = false) : a = om ops E n v (w + 1) := by
  rw [ha]
  show _ = om ops E n v w + _
  rw [if_neg]
  · rfl
  · rintro ⟨h1, h2, h3⟩
    rcases h with h | h | h
    · exact h1 h
    · rw [h] at h2; cases h2
    · rw [h] at h3; cases h3
theorem om_y {ops : Nat → Int32} {E : Nat → Nat} {n v w a : Nat} (ha : a = om ops E n v w) (h1 : w ≠ v) (h2 : iv ops n (nI w) = true) (h3 : mt E v w = true) : a + 1 = om ops E n v (w + 1) := by
  rw [ha]
  show _ = om ops E n v w + _
  rw [if_pos ⟨h1, h2, h3⟩]
end
section
/-! AllocForge$Code: weightOf, isCrossed, othersMeeting -/
set_option maxHeartbeats 4000000 in
set_option maxRecDepth 100000 in
theorem c_Co_weightOf (l : Launch) (dC : Nat → ClassId) (dI : Nat → Nat → Nat) (cI : ClassId) (h : Nat) (o1 : Nat) (o2 : Nat) (o3 : Nat) (o4 : Nat) (o5 : Nat) (o6 : Nat) (n : Nat) (vc : Nat) (ops : Nat → Int32) (lf : Nat → Int32) (rg : Nat → Int32) (E : Nat → Nat) (U : Nat → Nat) (P : Nat → Nat) (i : Nat) (hi : i < 24) (hE : i ≤ E i) (hw : vf_n64 (wt P E i)) : Met l y_Co_weightOf ws_Co_weightOf (lvR 1 0 0) (va_Pc [.ref h, .int (nI i)] (PB (dC, dI) vwCl [(h, .inr (1, [.ref o1, .ref o2, .ref o3, .ref o4, .ref o5, .ref o6, .int (nI n), .int (nI vc)])), (o1, .inl (cI, 24, .inl ops)), (o2, .inl (cI, 24, .inl lf)), (o3, .inl (cI, 24, .inl rg)), (o4, .inl (cI, 24, .inl (fun z9 => nI (E z9)))), (o5, .inl (cI, 24, .inl (fun z9 => nI (U z9)))), (o6, .inl (cI, 24, .inl (fun z9 => nI (P z9))))] [(cI, .int)])) (vp_Sd (fun r => r = wt P E i)) 0 0 (fun _ => False) := by
  refine Met.ofW (cc := b_Co_weightOf) (maxL := 2) (ret := (some .double)) (by decide) rfl ?_
  intro p e s m args below meth c s₁ B hml hv
  obtain ⟨rfl, hP, hK⟩ := hv
  have hx := B.exec
  have hb := B.bytes
  have hr := B.returns
  have hts := atoms_spec (ws := ws_Co_weightOf) B.pre
  have hg : ∀ w ∈ TG, w.before ([.ref h, .int (nI i)] : List Value).toArray s = true := fun w h => hts w (List.mem_cons_of_mem _ h)
  have hown : s.vm.findClass R_Co = some m.cls := findClass_of_methodNamed B.named
  have hlocks := B.notSynchronized
  have hl := lv_entry ([.ref h, .int (nI i)]) (n := 2) (Nat.le_of_ble_eq_true rfl)
  rw [lg_entry_eq]
  generalize (lg_sl ([.ref h, .int (nI i)]) ++ List.replicate (2 - (lg_sl ([.ref h, .int (nI i)])).length) Slot.unset).toArray = ls at hl ⊢
  have hl : lv_has ls 2 [(0, .ref h), (1, .int (nI i))] := hl
  refine lv_aload_n hx hb d_Co_weightOf_0 rfl (lv_at hl 0 rfl) ?_
  refine va_get (D := (dC, dI)) (ci := 1) (v := .ref o6) (C := R_Co) (T := T_Co) (N := 8) hx hb hg in_Co hown hK hP 0 rfl rfl 5 (by decide) (hg _ tw_34) (fun _ h9 => h9) rfl d_Co_weightOf_1 ?_
  refine lv_iload_n hx hb d_Co_weightOf_4 rfl (lv_at hl 1 rfl) ?_
  refine wb_iald hx hb hK hP 6 0 rfl rfl i rfl hi (by decide) d_Co_weightOf_5 ?_
  refine lv_i2d hx hb d_Co_weightOf_6 ?_
  refine lv_aload_n hx hb d_Co_weightOf_7 rfl (lv_at hl 0 rfl) ?_
  refine lv_iload_n hx hb d_Co_weightOf_8 rfl (lv_at hl 1 rfl) ?_
  refine rdV (ci := 1) (q0 := 0) (As := [.int (nI i)]) (rest := [.double (FP.i2d (nI (P i)))]) ⟨hx, hb, hml, hown, hg⟩ (c_Co_lengthOf l dC dI cI h o1 o2 o3 o4 o5 o6 n vc ops lf rg E U P i hi hE) (cwV 1 hg (tg_V tw_294 tw_276 tw_277 tw_2 tw_278) rfl rfl rfl (by decide +kernel) ⟨Nat.le_of_ble_eq_true rfl, Nat.le_of_ble_eq_true rfl⟩) (hK.sub [0] rfl) (hP.sub [0, 1, 2, 3, 4, 5, 6] rfl) rfl rfl rfl hl.1 rfl (lv_room (Nat.le_of_ble_eq_true rfl)) d_Co_weightOf_9 ⟨Nat.le_of_ble_eq_true rfl, Nat.le_of_ble_eq_true rfl⟩ ?_
  refine lv_i2d hx hb d_Co_weightOf_12 ?_
  refine lv_ddiv hx hb d_Co_weightOf_13 hw ?_
  exact W.dret (v := FP.ddiv (FP.i2d (nI (P i))) (FP.i2d (nI (E i - i)))) hx hb hr (fun t ht hW => ⟨_, rfl, rfl, ht⟩) (fun q h => by cases h) d_Co_weightOf_14

set_option maxHeartbeats 4000000 in
set_option maxRecDepth 100000 in
theorem c_Co_isCrossed (l : Launch) (dC : Nat → ClassId) (dI : Nat → Nat → Nat) (cI : ClassId) (h : Nat) (o1 : Nat) (o2 : Nat) (o3 : Nat) (o4 : Nat) (o5 : Nat) (o6 : Nat) (n : Nat) (vc : Nat) (ops : Nat → Int32) (lf : Nat → Int32) (rg : Nat → Int32) (E : Nat → Nat) (U : Nat → Nat) (P : Nat → Nat) (v : Nat) (hn : n ≤ 24) (hE24 : ∀ j, E j ≤ 24) (hv : v < 24) : Met l y_Co_isCrossed ws_Co_isCrossed (lvR 0 0 0) (va_Pc [.ref h, .int (nI v)] (PB (dC, dI) vwCl [(h, .inr (1, [.ref o1, .ref o2, .ref o3, .ref o4, .ref o5, .ref o6, .int (nI n), .int (nI vc)])), (o1, .inl (cI, 24, .inl ops)), (o2, .inl (cI, 24, .inl lf)), (o3, .inl (cI, 24, .inl rg)), (o4, .inl (cI, 24, .inl (fun z9 => nI (E z9)))), (o5, .inl (cI, 24, .inl (fun z9 => nI (U z9)))), (o6, .inl (cI, 24, .inl (fun z9 => nI (P z9))))] [(cI, .int)])) (vp_Si (fun r => r = bI (cr ops E n v))) 0 0 (fun _ => False) := by
  refine Met.ofW (cc := b_Co_isCrossed) (maxL := 3) (ret := (some .boolean)) (by decide) rfl ?_
  intro p e s m args below meth c s₁ B hml hv
  obtain ⟨rfl, hP, hK⟩ := hv
  have hx := B.exec
  have hb := B.bytes
  have hr := B.returns
  have hts := atoms_spec (ws := ws_Co_isCrossed) B.pre
  have hg : ∀ w ∈ TG, w.before ([.ref h, .int (nI v)] : List Value).toArray s = true := fun w h => hts w (List.mem_cons_of_mem _ h)
  have hown : s.vm.findClass R_Co = some m.cls := findClass_of_methodNamed B.named
  have hlocks := B.notSynchronized
  have hl := lv_entry ([.ref h, .int (nI v)]) (n := 3) (Nat.le_of_ble_eq_true rfl)
  rw [lg_entry_eq]
  generalize (lg_sl ([.ref h, .int (nI v)]) ++ List.replicate (3 - (lg_sl ([.ref h, .int (nI v)])).length) Slot.unset).toArray = ls at hl ⊢
  have hl : lv_has ls 3 [(0, .ref h), (1, .int (nI v))] := hl
  refine lv_iload_n hx hb d_Co_isCrossed_0 rfl (lv_at hl 1 rfl) ?_
  refine lv_iconst (v := 1) hx hb d_Co_isCrossed_1 (by decide) ?_
  refine wb_iadd hx hb v 1 rfl rfl d_Co_isCrossed_2 ?_
  refine lv_istore_n (lv' := [(2, .int (nI (v + 1))), (0, .ref h), (1, .int (nI v))]) hx hb d_Co_isCrossed_3 rfl hl (by decide) rfl (fun ls hl => ?_)
  refine wb_loopP (σ := Nat) 4 (fun i ls => lv_has ls 3 [(2, .int (nI i)), (0, .ref h), (1, .int (nI v))] ∧ (i ≤ 24) ∧ (crx ops (v + 1) (min (E v) n - (v + 1)) = crx ops i (min (E v) n - i))) (fun i => 25 - i) ?_ ((v + 1)) ls ⟨lv_sub hl [0, 1, 2] rfl, hv, rfl⟩
  clear hl
  intro i ls hI2 ih1
  obtain ⟨hl, hi2, hc⟩ := hI2
  refine lv_iload_n hx hb d_Co_isCrossed_4 rfl (lv_at hl 0 rfl) ?_
  refine lv_aload_n hx hb d_Co_isCrossed_5 rfl (lv_at hl 1 rfl) ?_
  refine va_get (D := (dC, dI)) (ci := 1) (v := .ref o4) (C := R_Co) (T := T_Co) (N := 8) hx hb hg in_Co hown hK hP 0 rfl rfl 3 (by decide) (hg _ tw_32) (fun _ h9 => h9) rfl d_Co_isCrossed_6 ?_
  refine lv_iload_n hx hb d_Co_isCrossed_9 rfl (lv_at hl 2 rfl) ?_
  refine wb_iald hx hb hK hP 4 0 rfl rfl v rfl hv (by decide) d_Co_isCrossed_10 ?_
  refine wb_icmp_ge (tgt := 41) hx hb i (E v) rfl rfl (by first | exact Nat.lt_of_le_of_lt hi2 (by decide) | exact Nat.lt_of_le_of_lt hn (by decide) | exact Nat.lt_of_le_of_lt (hE24 _) (by decide)) (by first | exact Nat.lt_of_le_of_lt hi2 (by decide) | exact Nat.lt_of_le_of_lt hn (by decide) | exact Nat.lt_of_le_of_lt (hE24 _) (by decide)) d_Co_isCrossed_11 (by decide) (fun c3 => ?_) (fun c3 => ?_)
  · refine lv_iconst (v := 0) hx hb d_Co_isCrossed_41 (by decide) ?_
    exact W.zret (v := (0 : Int32)) (ty := .boolean) hx hb hr rfl (fun t ht hW => ⟨_, rfl, (bI0 (hc.trans (crx_end (Nat.le_trans (Nat.min_le_left _ _) c3)))), ht⟩) (fun q h => by cases h) d_Co_isCrossed_42
  · refine lv_iload_n hx hb d_Co_isCrossed_14 rfl (lv_at hl 0 rfl) ?_
    refine lv_aload_n hx hb d_Co_isCrossed_15 rfl (lv_at hl 1 rfl) ?_
    refine va_get (D := (dC, dI)) (ci := 1) (v := .int (nI n)) (C := R_Co) (T := T_Co) (N := 8) hx hb hg in_Co hown hK hP 0 rfl rfl 6 (by decide) (hg _ tw_35) (fun _ h9 => h9) rfl d_Co_isCrossed_16 ?_
    refine wb_icmp_ge (tgt := 41) hx hb i n rfl rfl (by first | exact Nat.lt_of_le_of_lt hi2 (by decide) | exact Nat.lt_of_le_of_lt hn (by decide) | exact Nat.lt_of_le_of_lt (hE24 _) (by decide)) (by first | exact Nat.lt_of_le_of_lt hi2 (by decide) | exact Nat.lt_of_le_of_lt hn (by decide) | exact Nat.lt_of_le_of_lt (hE24 _) (by decide)) d_Co_isCrossed_19 (by decide) (fun c4 => ?_) (fun c4 => ?_)
    · refine lv_iconst (v := 0) hx hb d_Co_isCrossed_41 (by decide) ?_
      exact W.zret (v := (0 : Int32)) (ty := .boolean) hx hb hr rfl (fun t ht hW => ⟨_, rfl, (bI0 (hc.trans (crx_end (Nat.le_trans (Nat.min_le_right _ _) c4)))), ht⟩) (fun q h => by cases h) d_Co_isCrossed_42
    · refine lv_aload_n hx hb d_Co_isCrossed_22 rfl (lv_at hl 1 rfl) ?_
      refine va_get (D := (dC, dI)) (ci := 1) (v := .ref o1) (C := R_Co) (T := T_Co) (N := 8) hx hb hg in_Co hown hK hP 0 rfl rfl 0 (by decide) (hg _ tw_29) (fun _ h9 => h9) rfl d_Co_isCrossed_23 ?_
      refine lv_iload_n hx hb d_Co_isCrossed_26 rfl (lv_at hl 0 rfl) ?_
      refine wb_iald hx hb hK hP 1 0 rfl rfl i rfl (Nat.lt_of_lt_of_le c4 hn) (by decide) d_Co_isCrossed_27 ?_
      refine lv_bipush (v := 7) hx hb d_Co_isCrossed_28 (by decide) ?_
      refine lv_icmp_ne (tgt := 35) hx hb d_Co_isCrossed_30 (by decide) (fun c5 => ?_) (fun c5 => ?_)
      · refine lv_iinc (v := (nI (i + 1))) (lv' := [(2, .int (nI (i + 1))), (0, .ref h), (1, .int (nI v))]) hx hb d_Co_isCrossed_35 hl (k := 0) rfl (nI_add _ 1) (by decide) rfl (fun ls hl => ?_)
        refine lv_goto (tgt := 4) hx hb d_Co_isCrossed_38 (by decide) ?_
        exact ih1 (i + 1) ls ⟨lv_sub hl [0, 1, 2] rfl, (Nat.lt_of_lt_of_le c4 hn), (hc.trans (crx_step (Nat.lt_min.mpr ⟨c3, c4⟩) c5))⟩ (by omega)
      · refine lv_iconst (v := 1) hx hb d_Co_isCrossed_33 (by decide) ?_
        exact W.zret (v := (1 : Int32)) (ty := .boolean) hx hb hr rfl (fun t ht hW => ⟨_, rfl, (bI1 (hc.trans (crx_hit (Nat.lt_min.mpr ⟨c3, c4⟩) c5))), ht⟩) (fun q h => by cases h) d_Co_isCrossed_34

set_option maxHeartbeats 4000000 in
set_option maxRecDepth 100000 in
theorem c_Co_othersMeeting (l : Launch) (dC : Nat → ClassId) (dI : Nat → Nat → Nat) (cI : ClassId) (h : Nat) (o1 : Nat) (o2 : Nat) (o3 : Nat) (o4 : Nat) (o5 : Nat) (o6 : Nat) (n : Nat) (vc : Nat) (ops : Nat → Int32) (lf : Nat → Int32) (rg : Nat → Int32) (E : Nat → Nat) (U : Nat → Nat) (P : Nat → Nat) (v : Nat) (hn : n ≤ 24) (hE24 : ∀ j, E j ≤ 24) (hv : v < 24) : Met l y_Co_othersMeeting ws_Co_othersMeeting (lvR 1 0 0) (va_Pc [.ref h, .int (nI v)] (PB (dC, dI) vwCl [(h, .inr (1, [.ref o1, .ref o2, .ref o3, .ref o4, .ref o5, .ref o6, .int (nI n), .int (nI vc)])), (o1, .inl (cI, 24, .inl ops)), (o2, .inl (cI, 24, .inl lf)), (o3, .inl (cI, 24, .inl rg)), (o4, .inl (cI, 24, .inl (fun z9 => nI (E z9)))), (o5, .inl (cI, 24, .inl (fun z9 => nI (U z9)))), (o6, .inl (cI, 24, .inl (fun z9 => nI (P z9))))] [(cI, .int)])) (vp_Si (fun r => r = nI (om ops E n v n))) 0 0 (fun _ => False) := by
  refine Met.ofW (cc := b_Co_othersMeeting) (maxL := 4) (ret := (some .int)) (by decide) rfl ?_
  intro p e s m args below meth c s₁ B hml hv
  obtain ⟨rfl, hP, hK⟩ := hv
  have hx := B.exec
  have hb := B.bytes
  have hr := B.returns
  have hts := atoms_spec (ws := ws_Co_othersMeeting) B.pre
  have hg : ∀ w ∈ TG, w.before ([.ref h, .int (nI v)] : List Value).toArray s = true := fun w h => hts w (List.mem_cons_of_mem _ h)
  have hown : s.vm.findClass R_Co = some m.cls := findClass_of_methodNamed B.named
  have hlocks := B.notSynchronized
  have hl := lv_entry ([.ref h, .int (nI v)]) (n := 4) (Nat.le_of_ble_eq_true rfl)
  rw [lg_entry_eq]
  generalize (lg_sl ([.ref h, .int (nI v)]) ++ List.replicate (4 - (lg_sl ([.ref h, .int (nI v)])).length) Slot.unset).toArray = ls at hl ⊢
  have hl : lv_has ls 4 [(0, .ref h), (1, .int (nI v))] := hl
  refine lv_iconst (v := 0) hx hb d_Co_othersMeeting_0 (by decide) ?_
  refine lv_istore_n (lv' := [(2, .int ((0 : Int32))), (0, .ref h), (1, .int (nI v))]) hx hb d_Co_othersMeeting_1 rfl hl (by decide) rfl (fun ls hl => ?_)
  refine lv_iconst (v := 0) hx hb d_Co_othersMeeting_2 (by decide) ?_
  refine lv_istore_n (lv' := [(3, .int ((0 : Int32))), (2, .int ((0 : Int32))), (0, .ref h), (1, .int (nI v))]) hx hb d_Co_othersMeeting_3 rfl hl (by decide) rfl (fun ls hl => ?_)
  refine wb_loopP (σ := Nat × Nat) 4 (fun x1 ls => lv_has ls 4 [(3, .int (nI x1.2)), (2, .int (nI x1.1)), (0, .ref h), (1, .int (nI v))] ∧ (x1.2 ≤ n) ∧ (x1.1 = om ops E n v x1.2)) (fun x1 => 25 - x1.2) ?_ (0, 0) ls ⟨lv_sub hl [0, 1, 2, 3] rfl, (Nat.zero_le _), rfl⟩
  clear hl
  intro x1 ls hI3 ih2
  obtain ⟨a, w⟩ := x1
  obtain ⟨hl, hw1, ha⟩ := hI3
  have hl : lv_has ls 4 [(3, .int (nI w)), (2, .int (nI a)), (0, .ref h), (1, .int (nI v))] := hl
  have hw1 : w ≤ n := hw1
  have ha : a = om ops E n v w := ha
  refine lv_iload_n hx hb d_Co_othersMeeting_4 rfl (lv_at hl 0 rfl) ?_
  refine lv_aload_n hx hb d_Co_othersMeeting_5 rfl (lv_at hl 2 rfl) ?_
  refine va_get (D := (dC, dI)) (ci := 1) (v := .int (nI n)) (C := R_Co) (T := T_Co) (N := 8) hx hb hg in_Co hown hK hP 0 rfl rfl 6 (by decide) (hg _ tw_35) (fun _ h9 => h9) rfl d_Co_othersMeeting_6 ?_
  refine wb_icmp_ge (tgt := 43) hx hb w n rfl rfl (by first | exact Nat.lt_of_le_of_lt (Nat.le_trans hw1 hn) (by decide) | exact Nat.lt_of_le_of_lt hn (by decide) | exact Nat.lt_trans hv (by decide)) (by first | exact Nat.lt_of_le_of_lt (Nat.le_trans hw1 hn) (by decide) | exact Nat.lt_of_le_of_lt hn (by decide) | exact Nat.lt_trans hv (by decide)) d_Co_othersMeeting_9 (by decide) (fun c4 => ?_) (fun c4 => ?_)
  · refine lv_iload_n hx hb d_Co_othersMeeting_43 rfl (lv_at hl 1 rfl) ?_
    exact W.iret (v := nI a) hx hb hr (fun t ht hW => ⟨_, rfl, (congrArg nI (ha.trans (congrArg (om ops E n v) (Nat.le_antisymm hw1 c4)))), ht⟩) (fun q h => by cases h) d_Co_othersMeeting_44
  · refine lv_iload_n hx hb d_Co_othersMeeting_12 rfl (lv_at hl 0 rfl) ?_
    refine lv_iload_n hx hb d_Co_othersMeeting_13 rfl (lv_at hl 3 rfl) ?_
    refine wb_icmp_eq (tgt := 37) hx hb w v rfl rfl (by first | exact Nat.lt_of_le_of_lt (Nat.le_trans hw1 hn) (by decide) | exact Nat.lt_of_le_of_lt hn (by decide) | exact Nat.lt_trans hv (by decide)) (by first | exact Nat.lt_of_le_of_lt (Nat.le_trans hw1 hn) (by decide) | exact Nat.lt_of_le_of_lt hn (by decide) | exact Nat.lt_trans hv (by decide)) d_Co_othersMeeting_14 (by decide) (fun c5 => ?_) (fun c5 => ?_)
    · refine lv_iinc (v := (nI (w + 1))) (lv' := [(3, .int (nI (w + 1))), (2, .int (nI a)), (0, .ref h), (1, .int (nI v))]) hx hb d_Co_othersMeeting_37 hl (k := 0) rfl (nI_add _ 1) (by decide) rfl (fun ls hl => ?_)
      refine lv_goto (tgt := 4) hx hb d_Co_othersMeeting_40 (by decide) ?_
      exact ih2 (a, w + 1) ls ⟨lv_sub hl [0, 1, 2, 3] rfl, c4, (om_n ha (Or.inl c5))⟩ (by show 25 - (w + 1) < 25 - w; omega)
    · refine lv_aload_n hx hb d_Co_othersMeeting_17 rfl (lv_at hl 2 rfl) ?_
      refine lv_iload_n hx hb d_Co_othersMeeting_18 rfl (lv_at hl 0 rfl) ?_
      refine rdV (ci := 1) (q0 := 0) (As := [.int (nI w)]) (rest := []) ⟨hx, hb, hml, hown, hg⟩ (c_Co_isValue l dC dI cI h o1 o2 o3 o4 o5 o6 n vc ops lf rg E U P (nI w) hn) (cwV 1 hg (tg_V tw_155 tw_156 tw_157 tw_2 tw_158) rfl rfl rfl (by decide +kernel) ⟨Nat.le_of_ble_eq_true rfl, Nat.le_of_ble_eq_true rfl⟩) (hK.sub [0] rfl) (hP.sub [0, 1, 2, 3, 4, 5, 6] rfl) rfl rfl rfl hl.1 rfl (lv_room (Nat.le_of_ble_eq_true rfl)) d_Co_othersMeeting_19 ⟨Nat.le_of_ble_eq_true rfl, Nat.le_of_ble_eq_true rfl⟩ ?_
      refine wb_if_eqb (tgt := 37) hx hb (iv ops n (nI w)) rfl d_Co_othersMeeting_22 (by decide) (fun c6 => ?_) (fun c6 => ?_)
      · refine lv_iinc (v := (nI (w + 1))) (lv' := [(3, .int (nI (w + 1))), (2, .int (nI a)), (0, .ref h), (1, .int (nI v))]) hx hb d_Co_othersMeeting_37 hl (k := 0) rfl (nI_add _ 1) (by decide) rfl (fun ls hl => ?_)
        refine lv_goto (tgt := 4) hx hb d_Co_othersMeeting_40 (by decide) ?_
        exact ih2 (a, w + 1) ls ⟨lv_sub hl [0, 1, 2, 3] rfl, c4, (om_n ha (Or.inr (Or.inl c6)))⟩ (by show 25 - (w + 1) < 25 - w; omega)
      · refine lv_aload_n hx hb d_Co_othersMeeting_25 rfl (lv_at hl 2 rfl) ?_
        refine lv_iload_n hx hb d_Co_othersMeeting_26 rfl (lv_at hl 3 rfl) ?_
        refine lv_iload_n hx hb d_Co_othersMeeting_27 rfl (lv_at hl 0 rfl) ?_
        refine rdV (ci := 1) (q0 := 0) (As := [.int (nI v), .int (nI w)]) (rest := []) ⟨hx, hb, hml, hown, hg⟩ (c_Co_meet l dC dI cI h o1 o2 o3 o4 o5 o6 n vc ops lf rg E U P v w hv (Nat.lt_of_lt_of_le c4 hn) (hE24 _) (hE24 _)) (cwV 2 hg (tg_V tw_395 tw_300 tw_301 tw_2 tw_302) rfl rfl rfl (by decide +kernel) ⟨Nat.le_of_ble_eq_true rfl, Nat.le_of_ble_eq_true rfl⟩) (hK.sub [0] rfl) (hP.sub [0, 1, 2, 3, 4, 5, 6] rfl) rfl rfl rfl hl.1 rfl (lv_room (Nat.le_of_ble_eq_true rfl)) d_Co_othersMeeting_28 ⟨Nat.le_of_ble_eq_true rfl, Nat.le_of_ble_eq_true rfl⟩ ?_
        refine wb_if_eqb (tgt := 37) hx hb (mt E v w) rfl d_Co_othersMeeting_31 (by decide) (fun c7 => ?_) (fun c7 => ?_)
        · refine lv_iinc (v := (nI (w + 1))) (lv' := [(3, .int (nI (w + 1))), (2, .int (nI a)), (0, .ref h), (1, .int (nI v))]) hx hb d_Co_othersMeeting_37 hl (k := 0) rfl (nI_add _ 1) (by decide) rfl (fun ls hl => ?_)
          refine lv_goto (tgt := 4) hx hb d_Co_othersMeeting_40 (by decide) ?_
          exact ih2 (a, w + 1) ls ⟨lv_sub hl [0, 1, 2, 3] rfl, c4, (om_n ha (Or.inr (Or.inr c7)))⟩ (by show 25 - (w + 1) < 25 - w; omega)
        · refine lv_iinc (v := (nI (a + 1))) (lv' := [(2, .int (nI (a + 1))), (3, .int (nI w)), (0, .ref h), (1, .int (nI v))]) hx hb d_Co_othersMeeting_34 hl (k := 1) rfl (nI_add _ 1) (by decide) rfl (fun ls hl => ?_)
          refine lv_iinc (v := (nI (w + 1))) (lv' := [(3, .int (nI (w + 1))), (2, .int (nI (a + 1))), (0, .ref h), (1, .int (nI v))]) hx hb d_Co_othersMeeting_37 hl (k := 1) rfl (nI_add _ 1) (by decide) rfl (fun ls hl => ?_)
          refine lv_goto (tgt := 4) hx hb d_Co_othersMeeting_40 (by decide) ?_
          exact ih2 (a + 1, w + 1) ls ⟨lv_sub hl [0, 1, 2, 3] rfl, c4, (om_y ha c5 c6 c7)⟩ (by show 25 - (w + 1) < 25 - w; omega)
end
section
/-! new int arrays; what stays as it was: the price table, Throwable's statics, words that no list carries, texts -/
section WBA
variable {p : Program} {l : Launch} {e : Env} {R : Room} {s : State} {m : MethodId} {args : Array Value} {below : List Frame} {meth : Method} {c : Code} {H : Heap} {locs : List Loc} {cells slots : Nat} {Q : State → Prop}
variable {cc : ByteArray} {pc : Nat} {ls : Array Slot} {rest : List Value} {D : va_G} {cl : List vw_C} {A : Nat → Prop} {a : Nat} {ws : va_W} {H0 : Heap} {cI : ClassId}
theorem wb_newI (hexec : p.tables.exec = Jvm.exec) (hb : c.code = cc) (harr : (Cond.arrayClass .int).before args s = true) (hK : va_K D cl [(cI, .int)] s) (hP : va_P D cl ws H) (hD : va_D A ws) (hS : va_S A H0 H locs) (hA : ∀ q, H0.size ≤ q → A q)
    {n : Int32} (N' : Nat) (hn : n = nI N') (hN : N' ≤ 1000) (hcells : cells + 1 ≤ R.cells) (hslots : slots + N' ≤ R.slots) (hdg : decode cc pc = .ok (.newarray .int, 2))
    (kk : ∀ (q : Nat) (H1 : Heap), va_P D cl (ws ++ [(q, .inl (cI, N', .inl (fun _ => 0)))]) H1 → va_D A (ws ++ [(q, .inl (cI, N', .inl (fun _ => 0)))]) → va_S A H0 H1 locs →
      W p l e R s m args below meth c H1 locs (cells + 1) (slots + N') Q (F0 m (pc + 2) ls (.ref q :: rest))) : W p l e R s m args below meth c H locs cells slots Q (F0 m pc ls (.int n :: rest)) := by
  subst hn
  refine va_newa (atype := .int) (a0 := (N', .inl (fun _ => 0))) (ty := .int) (N' := N') (n := nI N') hexec hb harr rfl hK hP hD hS hA (fun _ => rfl) (nI_pos (by omega)) (nI_clamp (by omega)) (by show N' * 4 ≤ 536870912; omega) hcells hslots hdg (fun q cA H1 hK1 hP1 hD1 hS1 => ?_)
  have e1 : s.vm.findClass "[I" = some cI := va_nm_int (hK.2 0 _ rfl).2
  have e2 : s.vm.findClass "[I" = some cA := va_nm_int (hK1.2 1 _ rfl).2
  obtain rfl : cI = cA := Option.some.inj (e1.symm.trans e2)
  exact kk q H1 hP1 hD1 hS1
end WBA
def prc : Nat → Nat
  | 0 => 1
  | 1 => 10
  | 2 => 100
  | _ => 1000
/-- words of the tables that only hold while the classes are as they are: which can be cast, which constructors stand -/
def isXW : Cond → Bool
  | .castable .. => true
  | .declares _ => true
  | .methodLinkNest .. => true
  | _ => false
def XW : List Cond := tables_1.filter isXW
theorem XW_warm {w : Cond} (hw : isXW w = true) {s U : State} (hW : s.WarmedH U.vm) (h : va_Nw w s) : va_Nw w U := by
  cases w <;> first | exact va_Nw.warmC hW h | exact va_Nw.warmD hW h | exact va_Nw.warmM hW h | exact (Bool.false_ne_true hw).elim
def isStr : Cond → Bool
  | .stringRef .. => true
  | _ => false
/-- texts: the class, the entry, the characters -/
def STR : List (String × Nat × String) := tables_1.filterMap fun w => match w with
  | .stringRef a i t => some (a, i, t)
  | _ => none
def EnvA (tp : Nat) (A : Nat → Prop) (U : State) (H : Heap) : Prop :=
  va_Z "AllocForge$Code" "PRICES" "[I" (.ref tp) A U H ∧ va_T .int tp 4 (fun j => .int (nI (prc j))) A U H ∧ ex_L Bundle.tN "UNASSIGNED_STACK" Bundle.steD A U H ∧ ex_L Bundle.tN "SUPPRESSED_SENTINEL" Bundle.listD A U H ∧ (∀ w ∈ XW, va_Nw w U) ∧ ∀ q ∈ STR, ∃ sa : Nat, vk_R q.1 q.2.1 q.2.2 sa U
theorem EnvA.go {tp : Nat} {A A' : Nat → Prop} {s U : State} {H : Heap} (h : EnvA tp A s s.heap) (hk : ∀ a : Nat, a < s.heap.size → ¬ A a → H[a]? = s.heap[a]?) (hAA : ∀ q, A' q → A q) (hU : U.heap = H) (hW : s.WarmedH U.vm) : EnvA tp A' U U.heap := by
  obtain ⟨h1, h2, h3, h4, h5, h6⟩ := h
  subst hU
  have hal := hW.alike
  exact ⟨((h1.kept hk).moved hal).narrow hAA, ((h2.kept hk).moved hal).narrow hAA, ((h3.kept hk).moved hal).narrow hAA, ((h4.kept hk).moved hal).narrow hAA, fun w hw => XW_warm (List.mem_filter.mp hw).2 hW (h5 w hw), fun q hq => by
    obtain ⟨sa, hsa⟩ := h6 q hq
    exact ⟨sa, hsa.warm hW⟩⟩
theorem EnvA.blind {tp : Nat} {A : Nat → Prop} {U : State} (g : JFrame) (mk : MethodId) (a : Array Value) (h : EnvA tp A U U.heap) : EnvA tp A (U.calling g mk a) (U.calling g mk a).heap :=
  h.go (H := (U.calling g mk a).heap) (fun _ _ _ => rfl) (fun _ h => h) rfl (State.WarmedH.refl U)
end
section
/-! AllocForge$Code: what changes: noteUse, empty, the constructor -/
set_option maxHeartbeats 4000000 in
set_option maxRecDepth 100000 in
theorem c_Co_noteUse (l : Launch) (dC : Nat → ClassId) (dI : Nat → Nat → Nat) (cI : ClassId) (h : Nat) (o1 : Nat) (o2 : Nat) (o3 : Nat) (o4 : Nat) (o5 : Nat) (o6 : Nat) (n : Nat) (vc : Nat) (ops : Nat → Int32) (lf : Nat → Int32) (rg : Nat → Int32) (E : Nat → Nat) (U : Nat → Nat) (P : Nat → Nat) (v : Nat) (u : Nat) (sz : Nat) (hv : v < 24) (hu : u < 24) : Met l y_Co_noteUse ws_Co_noteUse (lvR 0 0 0) (va_Pc [.ref h, .int (nI v), .int (nI u)] (PM (dC, dI) vwCl [(h, .inr (1, [.ref o1, .ref o2, .ref o3, .ref o4, .ref o5, .ref o6, .int (nI n), .int (nI vc)])), (o1, .inl (cI, 24, .inl ops)), (o2, .inl (cI, 24, .inl lf)), (o3, .inl (cI, 24, .inl rg)), (o4, .inl (cI, 24, .inl (fun z9 => nI (E z9)))), (o5, .inl (cI, 24, .inl (fun z9 => nI (U z9)))), (o6, .inl (cI, 24, .inl (fun z9 => nI (P z9))))] [(cI, .int)] sz)) (va_Qv (fun _ : Unit => True) (MB (dC, dI) vwCl (fun _ => [(h, .inr (1, [.ref o1, .ref o2, .ref o3, .ref o4, .ref o5, .ref o6, .int (nI n), .int (nI vc)])), (o1, .inl (cI, 24, .inl ops)), (o2, .inl (cI, 24, .inl lf)), (o3, .inl (cI, 24, .inl rg)), (o4, .inl (cI, 24, .inl (fun z9 => nI ((uN E v u) z9)))), (o5, .inl (cI, 24, .inl (fun z9 => nI ((uN U v (U v + 1)) z9)))), (o6, .inl (cI, 24, .inl (fun z9 => nI ((uN P v (P v + P u)) z9))))]) [(cI, .int)] (va_A [(h, .inr (1, [.ref o1, .ref o2, .ref o3, .ref o4, .ref o5, .ref o6, .int (nI n), .int (nI vc)])), (o1, .inl (cI, 24, .inl ops)), (o2, .inl (cI, 24, .inl lf)), (o3, .inl (cI, 24, .inl rg)), (o4, .inl (cI, 24, .inl (fun z9 => nI (E z9)))), (o5, .inl (cI, 24, .inl (fun z9 => nI (U z9)))), (o6, .inl (cI, 24, .inl (fun z9 => nI (P z9))))] sz)) (va_A [(h, .inr (1, [.ref o1, .ref o2, .ref o3, .ref o4, .ref o5, .ref o6, .int (nI n), .int (nI vc)])), (o1, .inl (cI, 24, .inl ops)), (o2, .inl (cI, 24, .inl lf)), (o3, .inl (cI, 24, .inl rg)), (o4, .inl (cI, 24, .inl (fun z9 => nI (E z9)))), (o5, .inl (cI, 24, .inl (fun z9 => nI (U z9)))), (o6, .inl (cI, 24, .inl (fun z9 => nI (P z9))))] sz)) 0 0 (va_A [(h, .inr (1, [.ref o1, .ref o2, .ref o3, .ref o4, .ref o5, .ref o6, .int (nI n), .int (nI vc)])), (o1, .inl (cI, 24, .inl ops)), (o2, .inl (cI, 24, .inl lf)), (o3, .inl (cI, 24, .inl rg)), (o4, .inl (cI, 24, .inl (fun z9 => nI (E z9)))), (o5, .inl (cI, 24, .inl (fun z9 => nI (U z9)))), (o6, .inl (cI, 24, .inl (fun z9 => nI (P z9))))] sz) := by
  refine Met.ofW (cc := b_Co_noteUse) (maxL := 3) (ret := none) (by decide) rfl ?_
  intro p e s m args below meth c s₁ B hml hv
  obtain ⟨rfl, hsz, hP, hK, hD0⟩ := hv
  have hx := B.exec
  have hb := B.bytes
  have hr := B.returns
  have hts := atoms_spec (ws := ws_Co_noteUse) B.pre
  have hg : ∀ w ∈ TG, w.before ([.ref h, .int (nI v), .int (nI u)] : List Value).toArray s = true := fun w h => hts w (List.mem_cons_of_mem _ h)
  have hown : s.vm.findClass R_Co = some m.cls := findClass_of_methodNamed B.named
  have hlocks := B.notSynchronized
  subst hsz
  have hD := hD0.self (sz := s.heap.size)
  generalize hAe : va_A [(h, .inr (1, [.ref o1, .ref o2, .ref o3, .ref o4, .ref o5, .ref o6, .int (nI n), .int (nI vc)])), (o1, .inl (cI, 24, .inl ops)), (o2, .inl (cI, 24, .inl lf)), (o3, .inl (cI, 24, .inl rg)), (o4, .inl (cI, 24, .inl (fun z9 => nI (E z9)))), (o5, .inl (cI, 24, .inl (fun z9 => nI (U z9)))), (o6, .inl (cI, 24, .inl (fun z9 => nI (P z9))))] s.heap.size = A at hD ⊢
  have hA : ∀ q : Nat, s.heap.size ≤ q → A q := fun q h => by rw [← hAe]; exact Or.inr h
  have hS : va_S A s.heap s.heap [] := va_S.rf
  have hl := lv_entry ([.ref h, .int (nI v), .int (nI u)]) (n := 3) (Nat.le_of_ble_eq_true rfl)
  rw [lg_entry_eq]
  generalize (lg_sl ([.ref h, .int (nI v), .int (nI u)]) ++ List.replicate (3 - (lg_sl ([.ref h, .int (nI v), .int (nI u)])).length) Slot.unset).toArray = ls at hl ⊢
  have hl : lv_has ls 3 [(0, .ref h), (1, .int (nI v)), (2, .int (nI u))] := hl
  refine lv_aload_n hx hb d_Co_noteUse_0 rfl (lv_at hl 0 rfl) ?_
  refine va_get (D := (dC, dI)) (ci := 1) (v := .ref o4) (C := R_Co) (T := T_Co) (N := 8) hx hb hg in_Co hown hK hP 0 rfl rfl 3 (by decide) (hg _ tw_32) (fun _ h9 => h9) rfl d_Co_noteUse_1 ?_
  refine lv_iload_n hx hb d_Co_noteUse_4 rfl (lv_at hl 1 rfl) ?_
  refine lv_iload_n hx hb d_Co_noteUse_5 rfl (lv_at hl 2 rfl) ?_
  refine wb_iastN hx hb hK hP hD hS 4 0 rfl rfl v rfl hv (by decide) u rfl d_Co_noteUse_6 (fun H locs hP hD hS => ?_)
  have hP : va_P (dC, dI) vwCl [(h, .inr (1, [.ref o1, .ref o2, .ref o3, .ref o4, .ref o5, .ref o6, .int (nI n), .int (nI vc)])), (o1, .inl (cI, 24, .inl ops)), (o2, .inl (cI, 24, .inl lf)), (o3, .inl (cI, 24, .inl rg)), (o4, .inl (cI, 24, .inl (fun z9 => nI ((uN E v u) z9)))), (o5, .inl (cI, 24, .inl (fun z9 => nI (U z9)))), (o6, .inl (cI, 24, .inl (fun z9 => nI (P z9))))] H := hP
  have hD : va_D A [(h, .inr (1, [.ref o1, .ref o2, .ref o3, .ref o4, .ref o5, .ref o6, .int (nI n), .int (nI vc)])), (o1, .inl (cI, 24, .inl ops)), (o2, .inl (cI, 24, .inl lf)), (o3, .inl (cI, 24, .inl rg)), (o4, .inl (cI, 24, .inl (fun z9 => nI ((uN E v u) z9)))), (o5, .inl (cI, 24, .inl (fun z9 => nI (U z9)))), (o6, .inl (cI, 24, .inl (fun z9 => nI (P z9))))] := hD
  refine lv_aload_n hx hb d_Co_noteUse_7 rfl (lv_at hl 0 rfl) ?_
  refine va_get (D := (dC, dI)) (ci := 1) (v := .ref o5) (C := R_Co) (T := T_Co) (N := 8) hx hb hg in_Co hown hK hP 0 rfl rfl 4 (by decide) (hg _ tw_33) (fun _ h9 => h9) rfl d_Co_noteUse_8 ?_
  refine lv_iload_n hx hb d_Co_noteUse_11 rfl (lv_at hl 1 rfl) ?_
  refine lv_dup2_11 hx hb d_Co_noteUse_12 rfl rfl ?_
  refine wb_iald hx hb hK hP 5 0 rfl rfl v rfl hv (by decide) d_Co_noteUse_13 ?_
  refine lv_iconst (v := 1) hx hb d_Co_noteUse_14 (by decide) ?_
  refine wb_iadd hx hb (U v) 1 rfl rfl d_Co_noteUse_15 ?_
  refine wb_iastN hx hb hK hP hD hS 5 0 rfl rfl v rfl hv (by decide) ((U v) + 1) rfl d_Co_noteUse_16 (fun H locs hP hD hS => ?_)
  have hP : va_P (dC, dI) vwCl [(h, .inr (1, [.ref o1, .ref o2, .ref o3, .ref o4, .ref o5, .ref o6, .int (nI n), .int (nI vc)])), (o1, .inl (cI, 24, .inl ops)), (o2, .inl (cI, 24, .inl lf)), (o3, .inl (cI, 24, .inl rg)), (o4, .inl (cI, 24, .inl (fun z9 => nI ((uN E v u) z9)))), (o5, .inl (cI, 24, .inl (fun z9 => nI ((uN U v ((U v) + 1)) z9)))), (o6, .inl (cI, 24, .inl (fun z9 => nI (P z9))))] H := hP
  have hD : va_D A [(h, .inr (1, [.ref o1, .ref o2, .ref o3, .ref o4, .ref o5, .ref o6, .int (nI n), .int (nI vc)])), (o1, .inl (cI, 24, .inl ops)), (o2, .inl (cI, 24, .inl lf)), (o3, .inl (cI, 24, .inl rg)), (o4, .inl (cI, 24, .inl (fun z9 => nI ((uN E v u) z9)))), (o5, .inl (cI, 24, .inl (fun z9 => nI ((uN U v ((U v) + 1)) z9)))), (o6, .inl (cI, 24, .inl (fun z9 => nI (P z9))))] := hD
  refine lv_aload_n hx hb d_Co_noteUse_17 rfl (lv_at hl 0 rfl) ?_
  refine va_get (D := (dC, dI)) (ci := 1) (v := .ref o6) (C := R_Co) (T := T_Co) (N := 8) hx hb hg in_Co hown hK hP 0 rfl rfl 5 (by decide) (hg _ tw_34) (fun _ h9 => h9) rfl d_Co_noteUse_18 ?_
  refine lv_iload_n hx hb d_Co_noteUse_21 rfl (lv_at hl 1 rfl) ?_
  refine lv_dup2_11 hx hb d_Co_noteUse_22 rfl rfl ?_
  refine wb_iald hx hb hK hP 6 0 rfl rfl v rfl hv (by decide) d_Co_noteUse_23 ?_
  refine lv_aload_n hx hb d_Co_noteUse_24 rfl (lv_at hl 0 rfl) ?_
  refine va_get (D := (dC, dI)) (ci := 1) (v := .ref o6) (C := R_Co) (T := T_Co) (N := 8) hx hb hg in_Co hown hK hP 0 rfl rfl 5 (by decide) (hg _ tw_34) (fun _ h9 => h9) rfl d_Co_noteUse_25 ?_
  refine lv_iload_n hx hb d_Co_noteUse_28 rfl (lv_at hl 2 rfl) ?_
  refine wb_iald hx hb hK hP 6 0 rfl rfl u rfl hu (by decide) d_Co_noteUse_29 ?_
  refine wb_iadd hx hb (P v) (P u) rfl rfl d_Co_noteUse_30 ?_
  refine wb_iastN hx hb hK hP hD hS 6 0 rfl rfl v rfl hv (by decide) ((P v) + (P u)) rfl d_Co_noteUse_31 (fun H locs hP hD hS => ?_)
  have hP : va_P (dC, dI) vwCl [(h, .inr (1, [.ref o1, .ref o2, .ref o3, .ref o4, .ref o5, .ref o6, .int (nI n), .int (nI vc)])), (o1, .inl (cI, 24, .inl ops)), (o2, .inl (cI, 24, .inl lf)), (o3, .inl (cI, 24, .inl rg)), (o4, .inl (cI, 24, .inl (fun z9 => nI ((uN E v u) z9)))), (o5, .inl (cI, 24, .inl (fun z9 => nI ((uN U v ((U v) + 1)) z9)))), (o6, .inl (cI, 24, .inl (fun z9 => nI ((uN P v ((P v) + (P u))) z9))))] H := hP
  have hD : va_D A [(h, .inr (1, [.ref o1, .ref o2, .ref o3, .ref o4, .ref o5, .ref o6, .int (nI n), .int (nI vc)])), (o1, .inl (cI, 24, .inl ops)), (o2, .inl (cI, 24, .inl lf)), (o3, .inl (cI, 24, .inl rg)), (o4, .inl (cI, 24, .inl (fun z9 => nI ((uN E v u) z9)))), (o5, .inl (cI, 24, .inl (fun z9 => nI ((uN U v ((U v) + 1)) z9)))), (o6, .inl (cI, 24, .inl (fun z9 => nI ((uN P v ((P v) + (P u))) z9))))] := hD
  have hP9 : va_P (dC, dI) vwCl [(h, .inr (1, [.ref o1, .ref o2, .ref o3, .ref o4, .ref o5, .ref o6, .int (nI n), .int (nI vc)])), (o1, .inl (cI, 24, .inl ops)), (o2, .inl (cI, 24, .inl lf)), (o3, .inl (cI, 24, .inl rg)), (o4, .inl (cI, 24, .inl (fun z9 => nI ((uN E v u) z9)))), (o5, .inl (cI, 24, .inl (fun z9 => nI ((uN U v (U v + 1)) z9)))), (o6, .inl (cI, 24, .inl (fun z9 => nI ((uN P v (P v + P u)) z9))))] _ := hP.sub [0, 1, 2, 3, 4, 5, 6] rfl
  have hD9 : va_D A [(h, .inr (1, [.ref o1, .ref o2, .ref o3, .ref o4, .ref o5, .ref o6, .int (nI n), .int (nI vc)])), (o1, .inl (cI, 24, .inl ops)), (o2, .inl (cI, 24, .inl lf)), (o3, .inl (cI, 24, .inl rg)), (o4, .inl (cI, 24, .inl (fun z9 => nI ((uN E v u) z9)))), (o5, .inl (cI, 24, .inl (fun z9 => nI ((uN U v (U v + 1)) z9)))), (o6, .inl (cI, 24, .inl (fun z9 => nI ((uN P v (P v + P u)) z9))))] := hD.sub [0, 1, 2, 3, 4, 5, 6] (by decide) rfl
  exact W.vret hx hb hr (fun t ht hW => ⟨⟨(), rfl, trivial, by rw [ht]; exact hP9, va_K.moved hW.alike hK, hD9⟩, hS.F ht⟩) hS.2.2 d_Co_noteUse_32

set_option maxHeartbeats 4000000 in
set_option maxRecDepth 100000 in
theorem c_Co_empty (l : Launch) (dC : Nat → ClassId) (dI : Nat → Nat → Nat) (cI : ClassId) (h : Nat) (o1 : Nat) (o2 : Nat) (o3 : Nat) (o4 : Nat) (o5 : Nat) (o6 : Nat) (n : Nat) (vc : Nat) (ops : Nat → Int32) (lf : Nat → Int32) (rg : Nat → Int32) (E : Nat → Nat) (U : Nat → Nat) (P : Nat → Nat) (sz : Nat) : Met l y_Co_empty ws_Co_empty (lvR 0 0 0) (va_Pc [.ref h] (PM (dC, dI) vwCl [(h, .inr (1, [.ref o1, .ref o2, .ref o3, .ref o4, .ref o5, .ref o6, .int (nI n), .int (nI vc)])), (o1, .inl (cI, 24, .inl ops)), (o2, .inl (cI, 24, .inl lf)), (o3, .inl (cI, 24, .inl rg)), (o4, .inl (cI, 24, .inl (fun z9 => nI (E z9)))), (o5, .inl (cI, 24, .inl (fun z9 => nI (U z9)))), (o6, .inl (cI, 24, .inl (fun z9 => nI (P z9))))] [(cI, .int)] sz)) (va_Qv (fun _ : Unit => True) (MB (dC, dI) vwCl (fun _ => [(h, .inr (1, [.ref o1, .ref o2, .ref o3, .ref o4, .ref o5, .ref o6, .int ((0 : Int32)), .int ((0 : Int32))])), (o1, .inl (cI, 24, .inl ops)), (o2, .inl (cI, 24, .inl lf)), (o3, .inl (cI, 24, .inl rg)), (o4, .inl (cI, 24, .inl (fun z9 => nI (E z9)))), (o5, .inl (cI, 24, .inl (fun z9 => nI (U z9)))), (o6, .inl (cI, 24, .inl (fun z9 => nI (P z9))))]) [(cI, .int)] (va_A [(h, .inr (1, [.ref o1, .ref o2, .ref o3, .ref o4, .ref o5, .ref o6, .int (nI n), .int (nI vc)])), (o1, .inl (cI, 24, .inl ops)), (o2, .inl (cI, 24, .inl lf)), (o3, .inl (cI, 24, .inl rg)), (o4, .inl (cI, 24, .inl (fun z9 => nI (E z9)))), (o5, .inl (cI, 24, .inl (fun z9 => nI (U z9)))), (o6, .inl (cI, 24, .inl (fun z9 => nI (P z9))))] sz)) (va_A [(h, .inr (1, [.ref o1, .ref o2, .ref o3, .ref o4, .ref o5, .ref o6, .int (nI n), .int (nI vc)])), (o1, .inl (cI, 24, .inl ops)), (o2, .inl (cI, 24, .inl lf)), (o3, .inl (cI, 24, .inl rg)), (o4, .inl (cI, 24, .inl (fun z9 => nI (E z9)))), (o5, .inl (cI, 24, .inl (fun z9 => nI (U z9)))), (o6, .inl (cI, 24, .inl (fun z9 => nI (P z9))))] sz)) 0 0 (va_A [(h, .inr (1, [.ref o1, .ref o2, .ref o3, .ref o4, .ref o5, .ref o6, .int (nI n), .int (nI vc)])), (o1, .inl (cI, 24, .inl ops)), (o2, .inl (cI, 24, .inl lf)), (o3, .inl (cI, 24, .inl rg)), (o4, .inl (cI, 24, .inl (fun z9 => nI (E z9)))), (o5, .inl (cI, 24, .inl (fun z9 => nI (U z9)))), (o6, .inl (cI, 24, .inl (fun z9 => nI (P z9))))] sz) := by
  refine Met.ofW (cc := b_Co_empty) (maxL := 1) (ret := none) (by decide) rfl ?_
  intro p e s m args below meth c s₁ B hml hv
  obtain ⟨rfl, hsz, hP, hK, hD0⟩ := hv
  have hx := B.exec
  have hb := B.bytes
  have hr := B.returns
  have hts := atoms_spec (ws := ws_Co_empty) B.pre
  have hg : ∀ w ∈ TG, w.before ([.ref h] : List Value).toArray s = true := fun w h => hts w (List.mem_cons_of_mem _ h)
  have hown : s.vm.findClass R_Co = some m.cls := findClass_of_methodNamed B.named
  have hlocks := B.notSynchronized
  subst hsz
  have hD := hD0.self (sz := s.heap.size)
  generalize hAe : va_A [(h, .inr (1, [.ref o1, .ref o2, .ref o3, .ref o4, .ref o5, .ref o6, .int (nI n), .int (nI vc)])), (o1, .inl (cI, 24, .inl ops)), (o2, .inl (cI, 24, .inl lf)), (o3, .inl (cI, 24, .inl rg)), (o4, .inl (cI, 24, .inl (fun z9 => nI (E z9)))), (o5, .inl (cI, 24, .inl (fun z9 => nI (U z9)))), (o6, .inl (cI, 24, .inl (fun z9 => nI (P z9))))] s.heap.size = A at hD ⊢
  have hA : ∀ q : Nat, s.heap.size ≤ q → A q := fun q h => by rw [← hAe]; exact Or.inr h
  have hS : va_S A s.heap s.heap [] := va_S.rf
  have hl := lv_entry ([.ref h]) (n := 1) (Nat.le_of_ble_eq_true rfl)
  rw [lg_entry_eq]
  generalize (lg_sl ([.ref h]) ++ List.replicate (1 - (lg_sl ([.ref h])).length) Slot.unset).toArray = ls at hl ⊢
  have hl : lv_has ls 1 [(0, .ref h)] := hl
  refine lv_aload_n hx hb d_Co_empty_0 rfl (lv_at hl 0 rfl) ?_
  refine lv_iconst (v := 0) hx hb d_Co_empty_1 (by decide) ?_
  refine va_put (D := (dC, dI)) (ci := 1) (v := .int ((0 : Int32))) (ty := .int) (C := R_Co) (T := T_Co) (N := 8) hx hb hg in_Co ty_Co tyok_Co nm_Co hown hK hP hD hS 0 rfl rfl 6 (by decide) (hg _ tw_35) (fun _ h9 => h9) rfl (by decide +kernel) rfl rfl (Nat.le_of_ble_eq_true rfl) d_Co_empty_2 (fun H locs hP hD hS => ?_)
  have hP : va_P (dC, dI) vwCl [(h, .inr (1, [.ref o1, .ref o2, .ref o3, .ref o4, .ref o5, .ref o6, .int ((0 : Int32)), .int (nI vc)])), (o1, .inl (cI, 24, .inl ops)), (o2, .inl (cI, 24, .inl lf)), (o3, .inl (cI, 24, .inl rg)), (o4, .inl (cI, 24, .inl (fun z9 => nI (E z9)))), (o5, .inl (cI, 24, .inl (fun z9 => nI (U z9)))), (o6, .inl (cI, 24, .inl (fun z9 => nI (P z9))))] H := hP
  have hD : va_D A [(h, .inr (1, [.ref o1, .ref o2, .ref o3, .ref o4, .ref o5, .ref o6, .int ((0 : Int32)), .int (nI vc)])), (o1, .inl (cI, 24, .inl ops)), (o2, .inl (cI, 24, .inl lf)), (o3, .inl (cI, 24, .inl rg)), (o4, .inl (cI, 24, .inl (fun z9 => nI (E z9)))), (o5, .inl (cI, 24, .inl (fun z9 => nI (U z9)))), (o6, .inl (cI, 24, .inl (fun z9 => nI (P z9))))] := hD
  refine lv_aload_n hx hb d_Co_empty_5 rfl (lv_at hl 0 rfl) ?_
  refine lv_iconst (v := 0) hx hb d_Co_empty_6 (by decide) ?_
  refine va_put (D := (dC, dI)) (ci := 1) (v := .int ((0 : Int32))) (ty := .int) (C := R_Co) (T := T_Co) (N := 8) hx hb hg in_Co ty_Co tyok_Co nm_Co hown hK hP hD hS 0 rfl rfl 7 (by decide) (hg _ tw_36) (fun _ h9 => h9) rfl (by decide +kernel) rfl rfl (Nat.le_of_ble_eq_true rfl) d_Co_empty_7 (fun H locs hP hD hS => ?_)
  have hP : va_P (dC, dI) vwCl [(h, .inr (1, [.ref o1, .ref o2, .ref o3, .ref o4, .ref o5, .ref o6, .int ((0 : Int32)), .int ((0 : Int32))])), (o1, .inl (cI, 24, .inl ops)), (o2, .inl (cI, 24, .inl lf)), (o3, .inl (cI, 24, .inl rg)), (o4, .inl (cI, 24, .inl (fun z9 => nI (E z9)))), (o5, .inl (cI, 24, .inl (fun z9 => nI (U z9)))), (o6, .inl (cI, 24, .inl (fun z9 => nI (P z9))))] H := hP
  have hD : va_D A [(h, .inr (1, [.ref o1, .ref o2, .ref o3, .ref o4, .ref o5, .ref o6, .int ((0 : Int32)), .int ((0 : Int32))])), (o1, .inl (cI, 24, .inl ops)), (o2, .inl (cI, 24, .inl lf)), (o3, .inl (cI, 24, .inl rg)), (o4, .inl (cI, 24, .inl (fun z9 => nI (E z9)))), (o5, .inl (cI, 24, .inl (fun z9 => nI (U z9)))), (o6, .inl (cI, 24, .inl (fun z9 => nI (P z9))))] := hD
  have hP9 : va_P (dC, dI) vwCl [(h, .inr (1, [.ref o1, .ref o2, .ref o3, .ref o4, .ref o5, .ref o6, .int ((0 : Int32)), .int ((0 : Int32))])), (o1, .inl (cI, 24, .inl ops)), (o2, .inl (cI, 24, .inl lf)), (o3, .inl (cI, 24, .inl rg)), (o4, .inl (cI, 24, .inl (fun z9 => nI (E z9)))), (o5, .inl (cI, 24, .inl (fun z9 => nI (U z9)))), (o6, .inl (cI, 24, .inl (fun z9 => nI (P z9))))] _ := hP.sub [0, 1, 2, 3, 4, 5, 6] rfl
  have hD9 : va_D A [(h, .inr (1, [.ref o1, .ref o2, .ref o3, .ref o4, .ref o5, .ref o6, .int ((0 : Int32)), .int ((0 : Int32))])), (o1, .inl (cI, 24, .inl ops)), (o2, .inl (cI, 24, .inl lf)), (o3, .inl (cI, 24, .inl rg)), (o4, .inl (cI, 24, .inl (fun z9 => nI (E z9)))), (o5, .inl (cI, 24, .inl (fun z9 => nI (U z9)))), (o6, .inl (cI, 24, .inl (fun z9 => nI (P z9))))] := hD.sub [0, 1, 2, 3, 4, 5, 6] (by decide) rfl
  exact W.vret hx hb hr (fun t ht hW => ⟨⟨(), rfl, trivial, by rw [ht]; exact hP9, va_K.moved hW.alike hK, hD9⟩, hS.F ht⟩) hS.2.2 d_Co_empty_10

set_option maxHeartbeats 4000000 in
set_option maxRecDepth 100000 in
theorem c_Co_init (l : Launch) (dC : Nat → ClassId) (dI : Nat → Nat → Nat) (cI : ClassId) (h : Nat) (sz : Nat) : Met l y_Co_init ws_Co_init (lvR 1 6 144) (va_Pc [.ref h] (PM (dC, dI) vwCl [(h, .inr (1, [.null, .null, .null, .null, .null, .null, .int ((0 : Int32)), .int ((0 : Int32))]))] [(cI, .int)] sz)) (va_Qv (fun _ : Nat × Nat × Nat × Nat × Nat × Nat => True) (MB (dC, dI) vwCl (fun (u9 : Nat × Nat × Nat × Nat × Nat × Nat) => [(h, .inr (1, [.ref u9.1, .ref u9.2.1, .ref u9.2.2.1, .ref u9.2.2.2.1, .ref u9.2.2.2.2.1, .ref u9.2.2.2.2.2, .int ((0 : Int32)), .int ((0 : Int32))])), (u9.1, .inl (cI, 24, .inl (fun _ => 0))), (u9.2.1, .inl (cI, 24, .inl (fun _ => 0))), (u9.2.2.1, .inl (cI, 24, .inl (fun _ => 0))), (u9.2.2.2.1, .inl (cI, 24, .inl (fun _ => 0))), (u9.2.2.2.2.1, .inl (cI, 24, .inl (fun _ => 0))), (u9.2.2.2.2.2, .inl (cI, 24, .inl (fun _ => 0)))]) [(cI, .int)] (va_A [(h, .inr (1, [.null, .null, .null, .null, .null, .null, .int ((0 : Int32)), .int ((0 : Int32))]))] sz)) (va_A [(h, .inr (1, [.null, .null, .null, .null, .null, .null, .int ((0 : Int32)), .int ((0 : Int32))]))] sz)) 6 144 (va_A [(h, .inr (1, [.null, .null, .null, .null, .null, .null, .int ((0 : Int32)), .int ((0 : Int32))]))] sz) := by
  refine Met.ofW (cc := b_Co_init) (maxL := 1) (ret := none) (by decide) rfl ?_
  intro p e s m args below meth c s₁ B hml hv
  obtain ⟨rfl, hsz, hP, hK, hD0⟩ := hv
  have hx := B.exec
  have hb := B.bytes
  have hr := B.returns
  have hts := atoms_spec (ws := ws_Co_init) B.pre
  have hg : ∀ w ∈ TG, w.before ([.ref h] : List Value).toArray s = true := fun w h => hts w (List.mem_cons_of_mem _ h)
  have hown : s.vm.findClass R_Co = some m.cls := findClass_of_methodNamed B.named
  have hlocks := B.notSynchronized
  have hin : meth.name = "<init>" := (name_of_methodNamed B.named B.method).1
  subst hsz
  have hD := hD0.self (sz := s.heap.size)
  generalize hAe : va_A [(h, .inr (1, [.null, .null, .null, .null, .null, .null, .int ((0 : Int32)), .int ((0 : Int32))]))] s.heap.size = A at hD ⊢
  have hA : ∀ q : Nat, s.heap.size ≤ q → A q := fun q h => by rw [← hAe]; exact Or.inr h
  have hS : va_S A s.heap s.heap [] := va_S.rf
  have hl := lv_entry ([.ref h]) (n := 1) (Nat.le_of_ble_eq_true rfl)
  rw [lg_entry_eq]
  generalize (lg_sl ([.ref h]) ++ List.replicate (1 - (lg_sl ([.ref h])).length) Slot.unset).toArray = ls at hl ⊢
  have hl : lv_has ls 1 [(0, .ref h)] := hl
  refine lv_aload_n hx hb d_Co_init_0 rfl (lv_at hl 0 rfl) ?_
  refine W.objInit hx hb hown (hg _ tw_28) (hg _ tw_21) (hg _ tw_22) rfl (by rw [hml]; exact hl.1) rfl d_Co_init_1 (Nat.le_of_ble_eq_true rfl) (Nat.le_of_ble_eq_true rfl) ?_
  refine W.eq (g2 := F0 m 4 ls []) rfl ?_
  refine lv_aload_n hx hb d_Co_init_4 rfl (lv_at hl 0 rfl) ?_
  refine lv_bipush (v := 24) hx hb d_Co_init_5 (by decide) ?_
  refine wb_newI hx hb (hg _ tw_54) hK hP hD hS hA 24 rfl (by decide) (Nat.le_of_ble_eq_true rfl) (Nat.le_of_ble_eq_true rfl) d_Co_init_7 (fun q1 H hP hD hS => ?_)
  have hP : va_P (dC, dI) vwCl [(h, .inr (1, [.null, .null, .null, .null, .null, .null, .int ((0 : Int32)), .int ((0 : Int32))])), (q1, .inl (cI, 24, .inl (fun _ => 0)))] H := hP
  have hD : va_D A [(h, .inr (1, [.null, .null, .null, .null, .null, .null, .int ((0 : Int32)), .int ((0 : Int32))])), (q1, .inl (cI, 24, .inl (fun _ => 0)))] := hD
  refine W.widen (k := 1) (n := 24) (Nat.le_of_ble_eq_true rfl) (Nat.le_of_ble_eq_true rfl) ?_
  refine va_putF (D := (dC, dI)) (ci := 1) (v := .ref q1) (ty := .array .int) (C := R_Co) (T := T_Co) (N := 8) hx hb hg in_Co ty_Co tyok_Co nm_Co hown hK hP hD hS 0 rfl rfl 0 (by decide) (hg _ tw_29) (fun _ h9 => h9) rfl hin rfl (by decide +kernel) rfl rfl (Nat.le_of_ble_eq_true rfl) d_Co_init_9 (fun H locs hP hD hS => ?_)
  have hP : va_P (dC, dI) vwCl [(h, .inr (1, [.ref q1, .null, .null, .null, .null, .null, .int ((0 : Int32)), .int ((0 : Int32))])), (q1, .inl (cI, 24, .inl (fun _ => 0)))] H := hP
  have hD : va_D A [(h, .inr (1, [.ref q1, .null, .null, .null, .null, .null, .int ((0 : Int32)), .int ((0 : Int32))])), (q1, .inl (cI, 24, .inl (fun _ => 0)))] := hD
  refine lv_aload_n hx hb d_Co_init_12 rfl (lv_at hl 0 rfl) ?_
  refine lv_bipush (v := 24) hx hb d_Co_init_13 (by decide) ?_
  refine wb_newI hx hb (hg _ tw_54) hK hP hD hS hA 24 rfl (by decide) (Nat.le_of_ble_eq_true rfl) (Nat.le_of_ble_eq_true rfl) d_Co_init_15 (fun q2 H hP hD hS => ?_)
  have hP : va_P (dC, dI) vwCl [(h, .inr (1, [.ref q1, .null, .null, .null, .null, .null, .int ((0 : Int32)), .int ((0 : Int32))])), (q1, .inl (cI, 24, .inl (fun _ => 0))), (q2, .inl (cI, 24, .inl (fun _ => 0)))] H := hP
  have hD : va_D A [(h, .inr (1, [.ref q1, .null, .null, .null, .null, .null, .int ((0 : Int32)), .int ((0 : Int32))])), (q1, .inl (cI, 24, .inl (fun _ => 0))), (q2, .inl (cI, 24, .inl (fun _ => 0)))] := hD
  refine W.widen (k := 2) (n := 48) (Nat.le_of_ble_eq_true rfl) (Nat.le_of_ble_eq_true rfl) ?_
  refine va_putF (D := (dC, dI)) (ci := 1) (v := .ref q2) (ty := .array .int) (C := R_Co) (T := T_Co) (N := 8) hx hb hg in_Co ty_Co tyok_Co nm_Co hown hK hP hD hS 0 rfl rfl 1 (by decide) (hg _ tw_30) (fun _ h9 => h9) rfl hin rfl (by decide +kernel) rfl rfl (Nat.le_of_ble_eq_true rfl) d_Co_init_17 (fun H locs hP hD hS => ?_)
  have hP : va_P (dC, dI) vwCl [(h, .inr (1, [.ref q1, .ref q2, .null, .null, .null, .null, .int ((0 : Int32)), .int ((0 : Int32))])), (q1, .inl (cI, 24, .inl (fun _ => 0))), (q2, .inl (cI, 24, .inl (fun _ => 0)))] H := hP
  have hD : va_D A [(h, .inr (1, [.ref q1, .ref q2, .null, .null, .null, .null, .int ((0 : Int32)), .int ((0 : Int32))])), (q1, .inl (cI, 24, .inl (fun _ => 0))), (q2, .inl (cI, 24, .inl (fun _ => 0)))] := hD
  refine lv_aload_n hx hb d_Co_init_20 rfl (lv_at hl 0 rfl) ?_
  refine lv_bipush (v := 24) hx hb d_Co_init_21 (by decide) ?_
  refine wb_newI hx hb (hg _ tw_54) hK hP hD hS hA 24 rfl (by decide) (Nat.le_of_ble_eq_true rfl) (Nat.le_of_ble_eq_true rfl) d_Co_init_23 (fun q3 H hP hD hS => ?_)
  have hP : va_P (dC, dI) vwCl [(h, .inr (1, [.ref q1, .ref q2, .null, .null, .null, .null, .int ((0 : Int32)), .int ((0 : Int32))])), (q1, .inl (cI, 24, .inl (fun _ => 0))), (q2, .inl (cI, 24, .inl (fun _ => 0))), (q3, .inl (cI, 24, .inl (fun _ => 0)))] H := hP
  have hD : va_D A [(h, .inr (1, [.ref q1, .ref q2, .null, .null, .null, .null, .int ((0 : Int32)), .int ((0 : Int32))])), (q1, .inl (cI, 24, .inl (fun _ => 0))), (q2, .inl (cI, 24, .inl (fun _ => 0))), (q3, .inl (cI, 24, .inl (fun _ => 0)))] := hD
  refine W.widen (k := 3) (n := 72) (Nat.le_of_ble_eq_true rfl) (Nat.le_of_ble_eq_true rfl) ?_
  refine va_putF (D := (dC, dI)) (ci := 1) (v := .ref q3) (ty := .array .int) (C := R_Co) (T := T_Co) (N := 8) hx hb hg in_Co ty_Co tyok_Co nm_Co hown hK hP hD hS 0 rfl rfl 2 (by decide) (hg _ tw_31) (fun _ h9 => h9) rfl hin rfl (by decide +kernel) rfl rfl (Nat.le_of_ble_eq_true rfl) d_Co_init_25 (fun H locs hP hD hS => ?_)
  have hP : va_P (dC, dI) vwCl [(h, .inr (1, [.ref q1, .ref q2, .ref q3, .null, .null, .null, .int ((0 : Int32)), .int ((0 : Int32))])), (q1, .inl (cI, 24, .inl (fun _ => 0))), (q2, .inl (cI, 24, .inl (fun _ => 0))), (q3, .inl (cI, 24, .inl (fun _ => 0)))] H := hP
  have hD : va_D A [(h, .inr (1, [.ref q1, .ref q2, .ref q3, .null, .null, .null, .int ((0 : Int32)), .int ((0 : Int32))])), (q1, .inl (cI, 24, .inl (fun _ => 0))), (q2, .inl (cI, 24, .inl (fun _ => 0))), (q3, .inl (cI, 24, .inl (fun _ => 0)))] := hD
  refine lv_aload_n hx hb d_Co_init_28 rfl (lv_at hl 0 rfl) ?_
  refine lv_bipush (v := 24) hx hb d_Co_init_29 (by decide) ?_
  refine wb_newI hx hb (hg _ tw_54) hK hP hD hS hA 24 rfl (by decide) (Nat.le_of_ble_eq_true rfl) (Nat.le_of_ble_eq_true rfl) d_Co_init_31 (fun q4 H hP hD hS => ?_)
  have hP : va_P (dC, dI) vwCl [(h, .inr (1, [.ref q1, .ref q2, .ref q3, .null, .null, .null, .int ((0 : Int32)), .int ((0 : Int32))])), (q1, .inl (cI, 24, .inl (fun _ => 0))), (q2, .inl (cI, 24, .inl (fun _ => 0))), (q3, .inl (cI, 24, .inl (fun _ => 0))), (q4, .inl (cI, 24, .inl (fun _ => 0)))] H := hP
  have hD : va_D A [(h, .inr (1, [.ref q1, .ref q2, .ref q3, .null, .null, .null, .int ((0 : Int32)), .int ((0 : Int32))])), (q1, .inl (cI, 24, .inl (fun _ => 0))), (q2, .inl (cI, 24, .inl (fun _ => 0))), (q3, .inl (cI, 24, .inl (fun _ => 0))), (q4, .inl (cI, 24, .inl (fun _ => 0)))] := hD
  refine W.widen (k := 4) (n := 96) (Nat.le_of_ble_eq_true rfl) (Nat.le_of_ble_eq_true rfl) ?_
  refine va_putF (D := (dC, dI)) (ci := 1) (v := .ref q4) (ty := .array .int) (C := R_Co) (T := T_Co) (N := 8) hx hb hg in_Co ty_Co tyok_Co nm_Co hown hK hP hD hS 0 rfl rfl 3 (by decide) (hg _ tw_32) (fun _ h9 => h9) rfl hin rfl (by decide +kernel) rfl rfl (Nat.le_of_ble_eq_true rfl) d_Co_init_33 (fun H locs hP hD hS => ?_)
  have hP : va_P (dC, dI) vwCl [(h, .inr (1, [.ref q1, .ref q2, .ref q3, .ref q4, .null, .null, .int ((0 : Int32)), .int ((0 : Int32))])), (q1, .inl (cI, 24, .inl (fun _ => 0))), (q2, .inl (cI, 24, .inl (fun _ => 0))), (q3, .inl (cI, 24, .inl (fun _ => 0))), (q4, .inl (cI, 24, .inl (fun _ => 0)))] H := hP
  have hD : va_D A [(h, .inr (1, [.ref q1, .ref q2, .ref q3, .ref q4, .null, .null, .int ((0 : Int32)), .int ((0 : Int32))])), (q1, .inl (cI, 24, .inl (fun _ => 0))), (q2, .inl (cI, 24, .inl (fun _ => 0))), (q3, .inl (cI, 24, .inl (fun _ => 0))), (q4, .inl (cI, 24, .inl (fun _ => 0)))] := hD
  refine lv_aload_n hx hb d_Co_init_36 rfl (lv_at hl 0 rfl) ?_
  refine lv_bipush (v := 24) hx hb d_Co_init_37 (by decide) ?_
  refine wb_newI hx hb (hg _ tw_54) hK hP hD hS hA 24 rfl (by decide) (Nat.le_of_ble_eq_true rfl) (Nat.le_of_ble_eq_true rfl) d_Co_init_39 (fun q5 H hP hD hS => ?_)
  have hP : va_P (dC, dI) vwCl [(h, .inr (1, [.ref q1, .ref q2, .ref q3, .ref q4, .null, .null, .int ((0 : Int32)), .int ((0 : Int32))])), (q1, .inl (cI, 24, .inl (fun _ => 0))), (q2, .inl (cI, 24, .inl (fun _ => 0))), (q3, .inl (cI, 24, .inl (fun _ => 0))), (q4, .inl (cI, 24, .inl (fun _ => 0))), (q5, .inl (cI, 24, .inl (fun _ => 0)))] H := hP
  have hD : va_D A [(h, .inr (1, [.ref q1, .ref q2, .ref q3, .ref q4, .null, .null, .int ((0 : Int32)), .int ((0 : Int32))])), (q1, .inl (cI, 24, .inl (fun _ => 0))), (q2, .inl (cI, 24, .inl (fun _ => 0))), (q3, .inl (cI, 24, .inl (fun _ => 0))), (q4, .inl (cI, 24, .inl (fun _ => 0))), (q5, .inl (cI, 24, .inl (fun _ => 0)))] := hD
  refine W.widen (k := 5) (n := 120) (Nat.le_of_ble_eq_true rfl) (Nat.le_of_ble_eq_true rfl) ?_
  refine va_putF (D := (dC, dI)) (ci := 1) (v := .ref q5) (ty := .array .int) (C := R_Co) (T := T_Co) (N := 8) hx hb hg in_Co ty_Co tyok_Co nm_Co hown hK hP hD hS 0 rfl rfl 4 (by decide) (hg _ tw_33) (fun _ h9 => h9) rfl hin rfl (by decide +kernel) rfl rfl (Nat.le_of_ble_eq_true rfl) d_Co_init_41 (fun H locs hP hD hS => ?_)
  have hP : va_P (dC, dI) vwCl [(h, .inr (1, [.ref q1, .ref q2, .ref q3, .ref q4, .ref q5, .null, .int ((0 : Int32)), .int ((0 : Int32))])), (q1, .inl (cI, 24, .inl (fun _ => 0))), (q2, .inl (cI, 24, .inl (fun _ => 0))), (q3, .inl (cI, 24, .inl (fun _ => 0))), (q4, .inl (cI, 24, .inl (fun _ => 0))), (q5, .inl (cI, 24, .inl (fun _ => 0)))] H := hP
  have hD : va_D A [(h, .inr (1, [.ref q1, .ref q2, .ref q3, .ref q4, .ref q5, .null, .int ((0 : Int32)), .int ((0 : Int32))])), (q1, .inl (cI, 24, .inl (fun _ => 0))), (q2, .inl (cI, 24, .inl (fun _ => 0))), (q3, .inl (cI, 24, .inl (fun _ => 0))), (q4, .inl (cI, 24, .inl (fun _ => 0))), (q5, .inl (cI, 24, .inl (fun _ => 0)))] := hD
  refine lv_aload_n hx hb d_Co_init_44 rfl (lv_at hl 0 rfl) ?_
  refine lv_bipush (v := 24) hx hb d_Co_init_45 (by decide) ?_
  refine wb_newI hx hb (hg _ tw_54) hK hP hD hS hA 24 rfl (by decide) (Nat.le_of_ble_eq_true rfl) (Nat.le_of_ble_eq_true rfl) d_Co_init_47 (fun q6 H hP hD hS => ?_)
  have hP : va_P (dC, dI) vwCl [(h, .inr (1, [.ref q1, .ref q2, .ref q3, .ref q4, .ref q5, .null, .int ((0 : Int32)), .int ((0 : Int32))])), (q1, .inl (cI, 24, .inl (fun _ => 0))), (q2, .inl (cI, 24, .inl (fun _ => 0))), (q3, .inl (cI, 24, .inl (fun _ => 0))), (q4, .inl (cI, 24, .inl (fun _ => 0))), (q5, .inl (cI, 24, .inl (fun _ => 0))), (q6, .inl (cI, 24, .inl (fun _ => 0)))] H := hP
  have hD : va_D A [(h, .inr (1, [.ref q1, .ref q2, .ref q3, .ref q4, .ref q5, .null, .int ((0 : Int32)), .int ((0 : Int32))])), (q1, .inl (cI, 24, .inl (fun _ => 0))), (q2, .inl (cI, 24, .inl (fun _ => 0))), (q3, .inl (cI, 24, .inl (fun _ => 0))), (q4, .inl (cI, 24, .inl (fun _ => 0))), (q5, .inl (cI, 24, .inl (fun _ => 0))), (q6, .inl (cI, 24, .inl (fun _ => 0)))] := hD
  refine W.widen (k := 6) (n := 144) (Nat.le_of_ble_eq_true rfl) (Nat.le_of_ble_eq_true rfl) ?_
  refine va_putF (D := (dC, dI)) (ci := 1) (v := .ref q6) (ty := .array .int) (C := R_Co) (T := T_Co) (N := 8) hx hb hg in_Co ty_Co tyok_Co nm_Co hown hK hP hD hS 0 rfl rfl 5 (by decide) (hg _ tw_34) (fun _ h9 => h9) rfl hin rfl (by decide +kernel) rfl rfl (Nat.le_of_ble_eq_true rfl) d_Co_init_49 (fun H locs hP hD hS => ?_)
  have hP : va_P (dC, dI) vwCl [(h, .inr (1, [.ref q1, .ref q2, .ref q3, .ref q4, .ref q5, .ref q6, .int ((0 : Int32)), .int ((0 : Int32))])), (q1, .inl (cI, 24, .inl (fun _ => 0))), (q2, .inl (cI, 24, .inl (fun _ => 0))), (q3, .inl (cI, 24, .inl (fun _ => 0))), (q4, .inl (cI, 24, .inl (fun _ => 0))), (q5, .inl (cI, 24, .inl (fun _ => 0))), (q6, .inl (cI, 24, .inl (fun _ => 0)))] H := hP
  have hD : va_D A [(h, .inr (1, [.ref q1, .ref q2, .ref q3, .ref q4, .ref q5, .ref q6, .int ((0 : Int32)), .int ((0 : Int32))])), (q1, .inl (cI, 24, .inl (fun _ => 0))), (q2, .inl (cI, 24, .inl (fun _ => 0))), (q3, .inl (cI, 24, .inl (fun _ => 0))), (q4, .inl (cI, 24, .inl (fun _ => 0))), (q5, .inl (cI, 24, .inl (fun _ => 0))), (q6, .inl (cI, 24, .inl (fun _ => 0)))] := hD
  have hP9 : va_P (dC, dI) vwCl [(h, .inr (1, [.ref q1, .ref q2, .ref q3, .ref q4, .ref q5, .ref q6, .int ((0 : Int32)), .int ((0 : Int32))])), (q1, .inl (cI, 24, .inl (fun _ => 0))), (q2, .inl (cI, 24, .inl (fun _ => 0))), (q3, .inl (cI, 24, .inl (fun _ => 0))), (q4, .inl (cI, 24, .inl (fun _ => 0))), (q5, .inl (cI, 24, .inl (fun _ => 0))), (q6, .inl (cI, 24, .inl (fun _ => 0)))] _ := hP.sub [0, 1, 2, 3, 4, 5, 6] rfl
  have hD9 : va_D A [(h, .inr (1, [.ref q1, .ref q2, .ref q3, .ref q4, .ref q5, .ref q6, .int ((0 : Int32)), .int ((0 : Int32))])), (q1, .inl (cI, 24, .inl (fun _ => 0))), (q2, .inl (cI, 24, .inl (fun _ => 0))), (q3, .inl (cI, 24, .inl (fun _ => 0))), (q4, .inl (cI, 24, .inl (fun _ => 0))), (q5, .inl (cI, 24, .inl (fun _ => 0))), (q6, .inl (cI, 24, .inl (fun _ => 0)))] := hD.sub [0, 1, 2, 3, 4, 5, 6] (by decide) rfl
  refine W.widen (k := 6) (n := 144) (Nat.le_of_ble_eq_true rfl) (Nat.le_of_ble_eq_true rfl) ?_
  exact W.vret hx hb hr (fun t ht hW => ⟨⟨(q1, q2, q3, q4, q5, q6), rfl, trivial, by rw [ht]; exact hP9, va_K.moved hW.alike hK, hD9⟩, hS.F ht⟩) hS.2.2 d_Co_init_52
end
section
/-! calls of methods that also need what stays as it was -/
def PBE (D : va_G) (cl : List vw_C) (ws : va_W) (tys : List (ClassId × FieldType)) (tp : Nat) : State → Prop := fun U => va_P D cl ws U.heap ∧ va_K D cl tys U ∧ EnvA tp (fun _ => False) U U.heap
def PME (D : va_G) (cl : List vw_C) (ws : va_W) (tys : List (ClassId × FieldType)) (sz tp : Nat) : State → Prop := fun U => U.heap.size = sz ∧ va_P D cl ws U.heap ∧ va_K D cl tys U ∧ va_D (fun _ => True) ws ∧ EnvA tp (va_A ws sz) U U.heap
theorem PBE_blind {av : List Value} {D : va_G} {cl : List vw_C} {ws : va_W} {tys : List (ClassId × FieldType)} {tp : Nat} : FrameBlind (va_Pc av (PBE D cl ws tys tp)) :=
  fun a U g mk q => ⟨q.1, q.2.1, va_K.moved (u := U) (U := U.calling g mk a) (Vm.Alike.refl U.vm) q.2.2.1, EnvA.blind g mk a q.2.2.2⟩
theorem PME_blind {av : List Value} {D : va_G} {cl : List vw_C} {ws : va_W} {tys : List (ClassId × FieldType)} {sz tp : Nat} : FrameBlind (va_Pc av (PME D cl ws tys sz tp)) :=
  fun a U g mk q => ⟨q.1, q.2.1, q.2.2.1, va_K.moved (u := U) (U := U.calling g mk a) (Vm.Alike.refl U.vm) q.2.2.2.1, q.2.2.2.2.1, EnvA.blind g mk a q.2.2.2.2.2⟩
section WCE
variable {p : Program} {l : Launch} {e : Env} {R : Room} {s : State} {m : MethodId} {args : Array Value} {below : List Frame} {meth : Method} {c : Code} {H : Heap} {locs : List Loc} {cells slots : Nat} {Q : State → Prop}
variable {y : MethodName} {bytes cc : ByteArray} {maxL nL mc ms n index : Nat} {ret : Option FieldType} {ws : List Cond} {rm : Room} {Ts : List Cond} {own C : String} {b : Addr} {As rest st0 : List Value} {pc : Nat} {ls : Array Slot}
variable {D : va_G} {cl : List vw_C} {wc : va_W} {tc : List (ClassId × FieldType)} {tp : Nat} {A : Nat → Prop}
theorem PBE_V {ci q0 : Nat} {fs : List Value} {T : u_T} {N : Nat} (hE : EnvA tp A s s.heap) (hS : va_S A s.heap H locs) (hK : va_K D cl tc s) (hP : va_P D cl wc H) (hc : cl[ci]? = some (C, T, N)) (he : wc[q0]? = some (b, .inr (ci, fs))) : PreV s H C b (va_Pc (.ref b :: As) (PBE D cl wc tc tp)) As :=
  ⟨PBE_blind, va_recv hK hP hc he, fun U hU hW => ⟨rfl, by rw [hU]; exact hP, va_K.moved hW.alike hK, hE.go hS.2.1 (fun _ h => h.elim) hU hW⟩⟩
theorem PME_V {ci q0 : Nat} {fs : List Value} {T : u_T} {N : Nat} (hE : EnvA tp A s s.heap) (hS : va_S A s.heap H locs) (hF : ∀ q, va_A wc H.size q → A q) (hK : va_K D cl tc s) (hP : va_P D cl wc H) (hD : va_D A wc) (hc : cl[ci]? = some (C, T, N)) (he : wc[q0]? = some (b, .inr (ci, fs))) : PreV s H C b (va_Pc (.ref b :: As) (PME D cl wc tc H.size tp)) As :=
  ⟨PME_blind, va_recv hK hP hc he, fun U hU hW => ⟨rfl, by rw [hU], by rw [hU]; exact hP, va_K.moved hW.alike hK, hD.weaken (fun _ _ _ _ => trivial), hE.go hS.2.1 hF hU hW⟩⟩
theorem rdVE {x : Int32} {ci q0 : Nat} {fs : List Value} {T : u_T} {N : Nat} (S : CallFix p m c cc nL s args Ts own) (hM : Met l y ws rm (va_Pc (.ref b :: As) (PBE D cl wc tc tp)) (vp_Si (fun r => r = x)) 0 0 (fun _ => False)) (cw : CallW R s args own C index y bytes maxL ret ws rm 0 0 n)
    (hE : EnvA tp A s s.heap) (hS : va_S A s.heap H locs) (hK : va_K D cl tc s) (hP : va_P D cl wc H) (hc : cl[ci]? = some (C, T, N)) (he : wc[q0]? = some (b, .inr (ci, fs))) (hn : As.length = n) (hsize : ls.size = nL) (hst : st0 = As.reverse ++ .ref b :: rest) (hW : 2 * (F0 m pc ls rest).monitorRoom + (rest.map fun v => v.category).sum ≤ 8) (hdg : decode cc pc = .ok (.invokevirtual index, 3)) (hf : cells + 0 ≤ R.cells ∧ slots + 0 ≤ R.slots)
    (kk : W p l e R s m args below meth c H locs cells slots Q (F0 m (pc + 3) ls (.int x :: rest))) : W p l e R s m args below meth c H locs cells slots Q (F0 m pc ls st0) :=
  vp_callSi (W.runV (g := F0 m pc ls st0) S hM cw (PBE_V hE hS hK hP hc he) rfl hn hsize hst hW hdg hf) (fun r hr => hr ▸ kk)
variable {S' : Type} {post : S' → Prop} {posti : Int32 → S' → Prop} {wp : S' → va_W} {w0 wr : va_W}
theorem chVvE {ci q0 : Nat} {fs : List Value} {T : u_T} {N : Nat} (S : CallFix p m c cc nL s args Ts own)
    (hM : Met l y ws rm (va_Pc (.ref b :: As) (PME D cl wc tc H.size tp)) (va_Qv post (MB D cl wp tc (va_A wc H.size)) (va_A wc H.size)) mc ms (va_A wc H.size)) (cw : CallW R s args own C index y bytes maxL ret ws rm mc ms n)
    (hE : EnvA tp A s s.heap) (hK : va_K D cl tc s) (hP : va_P D cl w0 H) (hD : va_D A w0) (hS : va_S A s.heap H locs) (hA : ∀ q, s.heap.size ≤ q → A q) (isC isR : List Nat) (hC : isC.map (fun i => w0[i]?) = wc.map some) (hR : isR.map (fun i => w0[i]?) = wr.map some) (hnc : va_nd isC = true) (hnr : va_nd isR = true) (hdis : ∀ i ∈ isR, i ∉ isC)
    (hc : cl[ci]? = some (C, T, N)) (he : wc[q0]? = some (b, .inr (ci, fs))) (hn : As.length = n) (hsize : ls.size = nL) (hst : st0 = As.reverse ++ .ref b :: rest) (hW : 2 * (F0 m pc ls rest).monitorRoom + (rest.map fun v => v.category).sum ≤ 8) (hdg : decode cc pc = .ok (.invokevirtual index, 3)) (hf : cells + mc ≤ R.cells ∧ slots + ms ≤ R.slots)
    (kk : ∀ (u : S') (H1 : Heap) (locs1 : List Loc), post u → va_P D cl (wr ++ wp u) H1 → va_D A (wr ++ wp u) → va_S A s.heap H1 locs1 → W p l e R s m args below meth c H1 locs1 (cells + mc) (slots + ms) Q (F0 m (pc + 3) ls rest)) :
    W p l e R s m args below meth c H locs cells slots Q (F0 m pc ls st0) := by
  have hPc := hP.sub isC (sub_of isC hC)
  have hDc := hD.sub isC hnc hC
  have hFc := va_free (wc := wc) hD hS hA isC hC
  refine va_callv (va_runV (g := F0 m pc ls st0) S hM cw (PME_V hE hS hFc hK hPc hDc hc he) rfl hn hsize hst hW hdg hf) hS (fun q _ h => hFc q h) hFc (fun u t H1 locs1 ht hvm hw hB hz1 hk1 hS1 => ?_)
  obtain ⟨hP1, -, hD1⟩ := hB
  rw [ht] at hP1
  obtain ⟨hP2, hD2⟩ := va_join (wr := wr) (w1 := wp u) hP hD isC isR hC hR hnr hdis hk1 hFc hP1 hD1
  exact kk u H1 locs1 hw hP2 hD2 hS1
theorem wb_ti {t : Nat} (hexec : p.tables.exec = Jvm.exec) (hb : c.code = cc) (hE : EnvA t A s s.heap) (hS : va_S A s.heap H locs) {i : Int32} (j : Nat) (hi : i = nI j) (hj : j < 4) (hdg : decode cc pc = .ok (.iaload, 1))
    (kk : W p l e R s m args below meth c H locs cells slots Q (F0 m (pc + 1) ls (.int (nI (prc j)) :: rest))) : W p l e R s m args below meth c H locs cells slots Q (F0 m pc ls (.int i :: .ref t :: rest)) := by
  subst hi
  exact va_ti hexec hb hE.2.1 hS (vp_in_nI hj (by decide)) (by rw [nI_clamp (Nat.lt_trans hj (by decide))]) hdg kk
end WCE
/-! what 'accepts' says -/
def acc (ops : Nat → Int32) (n : Nat) (op a b d : Int32) : Bool :=
  if op < 0 then false else if 7 < op then false else if d < 0 then false else if ¬ d < nI 4 then false else if op = 1 ∧ a < 0 then false else if op = 1 ∧ ¬ a < 4 then false
  else if uL op = true ∧ iv ops n a = false then false else if uR op = true ∧ iv ops n b = false then false else true
end
section
/-! AllocForge$Code: accepts, append -/
set_option maxHeartbeats 4000000 in
set_option maxRecDepth 100000 in
theorem c_Co_accepts (l : Launch) (dC : Nat → ClassId) (dI : Nat → Nat → Nat) (cI : ClassId) (h : Nat) (o1 : Nat) (o2 : Nat) (o3 : Nat) (o4 : Nat) (o5 : Nat) (o6 : Nat) (n : Nat) (vc : Nat) (ops : Nat → Int32) (lf : Nat → Int32) (rg : Nat → Int32) (E : Nat → Nat) (U : Nat → Nat) (P : Nat → Nat) (op : Int32) (x : Int32) (y : Int32) (d : Int32) (tp : Nat) (hn : n ≤ 24) : Met l y_Co_accepts ws_Co_accepts (lvR 1 0 0) (va_Pc [.ref h, .int op, .int x, .int y, .int d] (PBE (dC, dI) vwCl [(h, .inr (1, [.ref o1, .ref o2, .ref o3, .ref o4, .ref o5, .ref o6, .int (nI n), .int (nI vc)])), (o1, .inl (cI, 24, .inl ops)), (o2, .inl (cI, 24, .inl lf)), (o3, .inl (cI, 24, .inl rg)), (o4, .inl (cI, 24, .inl (fun z9 => nI (E z9)))), (o5, .inl (cI, 24, .inl (fun z9 => nI (U z9)))), (o6, .inl (cI, 24, .inl (fun z9 => nI (P z9))))] [(cI, .int)] tp)) (vp_Si (fun r => r = bI (acc ops n op x y d))) 0 0 (fun _ => False) := by
  refine Met.ofW (cc := b_Co_accepts) (maxL := 5) (ret := (some .boolean)) (by decide) rfl ?_
  intro p e s m args below meth c s₁ B hml hv
  obtain ⟨rfl, hP, hK, hE⟩ := hv
  have hx := B.exec
  have hb := B.bytes
  have hr := B.returns
  have hts := atoms_spec (ws := ws_Co_accepts) B.pre
  have hg : ∀ w ∈ TG, w.before ([.ref h, .int op, .int x, .int y, .int d] : List Value).toArray s = true := fun w h => hts w (List.mem_cons_of_mem _ h)
  have hown : s.vm.findClass R_Co = some m.cls := findClass_of_methodNamed B.named
  have hlocks := B.notSynchronized
  have hS : va_S (fun _ => False) s.heap s.heap [] := va_S.rf
  have hl := lv_entry ([.ref h, .int op, .int x, .int y, .int d]) (n := 5) (Nat.le_of_ble_eq_true rfl)
  rw [lg_entry_eq]
  generalize (lg_sl ([.ref h, .int op, .int x, .int y, .int d]) ++ List.replicate (5 - (lg_sl ([.ref h, .int op, .int x, .int y, .int d])).length) Slot.unset).toArray = ls at hl ⊢
  have hl : lv_has ls 5 [(0, .ref h), (1, .int op), (2, .int x), (3, .int y), (4, .int d)] := hl
  refine lv_iload_n hx hb d_Co_accepts_0 rfl (lv_at hl 1 rfl) ?_
  refine lv_if_lt (tgt := 24) hx hb d_Co_accepts_1 (by decide) (fun c1 => ?_) (fun c1 => ?_)
  · refine lv_iconst (v := 0) hx hb d_Co_accepts_24 (by decide) ?_
    exact W.zret (v := (0 : Int32)) (ty := .boolean) hx hb hr rfl (fun t ht hW => ⟨_, rfl, (bI0 (by unfold acc; rw [if_pos c1])), ht⟩) (fun q h => by cases h) d_Co_accepts_25
  · refine lv_iload_n hx hb d_Co_accepts_4 rfl (lv_at hl 1 rfl) ?_
    refine lv_bipush (v := 7) hx hb d_Co_accepts_5 (by decide) ?_
    refine lv_icmp_gt (tgt := 24) hx hb d_Co_accepts_7 (by decide) (fun c2 => ?_) (fun c2 => ?_)
    · refine lv_iconst (v := 0) hx hb d_Co_accepts_24 (by decide) ?_
      exact W.zret (v := (0 : Int32)) (ty := .boolean) hx hb hr rfl (fun t ht hW => ⟨_, rfl, (bI0 (by unfold acc; rw [if_neg c1, if_pos c2])), ht⟩) (fun q h => by cases h) d_Co_accepts_25
    · refine lv_iload hx hb d_Co_accepts_10 (lv_at hl 4 rfl) ?_
      refine lv_if_lt (tgt := 24) hx hb d_Co_accepts_12 (by decide) (fun c3 => ?_) (fun c3 => ?_)
      · refine lv_iconst (v := 0) hx hb d_Co_accepts_24 (by decide) ?_
        exact W.zret (v := (0 : Int32)) (ty := .boolean) hx hb hr rfl (fun t ht hW => ⟨_, rfl, (bI0 (by unfold acc; rw [if_neg c1, if_neg c2, if_pos c3])), ht⟩) (fun q h => by cases h) d_Co_accepts_25
      · refine lv_iload hx hb d_Co_accepts_15 (lv_at hl 4 rfl) ?_
        refine va_gets (v := .ref tp) hx hb hE.1 hS hown (hg _ tw_150) (fun _ h9 => h9) d_Co_accepts_17 ?_
        refine va_tlen (v := nI 4) hx hb hE.2.1 hS rfl d_Co_accepts_20 ?_
        refine lv_icmp_lt (tgt := 26) hx hb d_Co_accepts_21 (by decide) (fun c4 => ?_) (fun c4 => ?_)
        · refine lv_iload_n hx hb d_Co_accepts_26 rfl (lv_at hl 1 rfl) ?_
          refine lv_iconst (v := 1) hx hb d_Co_accepts_27 (by decide) ?_
          refine lv_icmp_ne (tgt := 42) hx hb d_Co_accepts_28 (by decide) (fun c5 => ?_) (fun c5 => ?_)
          · refine lv_iload_n hx hb d_Co_accepts_42 rfl (lv_at hl 1 rfl) ?_
            refine rdS (As := [.int op]) (rest := []) ⟨hx, hb, hml, hown, hg⟩ (c_Co_usesLeft l dC dI cI op) (va_cwS 1 hg (tg_S tw_152 tw_153 tw_2 tw_154) rfl rfl rfl (by decide +kernel) ⟨Nat.le_of_ble_eq_true rfl, Nat.le_of_ble_eq_true rfl⟩) (hK.sub [0] rfl) (hP.sub [] rfl) rfl hl.1 rfl (lv_room (Nat.le_of_ble_eq_true rfl)) d_Co_accepts_43 ⟨Nat.le_of_ble_eq_true rfl, Nat.le_of_ble_eq_true rfl⟩ ?_
            refine wb_if_eqb (tgt := 59) hx hb (uL op) rfl d_Co_accepts_46 (by decide) (fun c6 => ?_) (fun c6 => ?_)
            · refine lv_iload_n hx hb d_Co_accepts_59 rfl (lv_at hl 1 rfl) ?_
              refine rdS (As := [.int op]) (rest := []) ⟨hx, hb, hml, hown, hg⟩ (c_Co_usesRight l dC dI cI op) (va_cwS 1 hg (tg_S tw_159 tw_160 tw_2 tw_161) rfl rfl rfl (by decide +kernel) ⟨Nat.le_of_ble_eq_true rfl, Nat.le_of_ble_eq_true rfl⟩) (hK.sub [0] rfl) (hP.sub [] rfl) rfl hl.1 rfl (lv_room (Nat.le_of_ble_eq_true rfl)) d_Co_accepts_60 ⟨Nat.le_of_ble_eq_true rfl, Nat.le_of_ble_eq_true rfl⟩ ?_
              refine wb_if_eqb (tgt := 74) hx hb (uR op) rfl d_Co_accepts_63 (by decide) (fun c7 => ?_) (fun c7 => ?_)
              · refine lv_iconst (v := 1) hx hb d_Co_accepts_74 (by decide) ?_
                refine lv_goto (tgt := 79) hx hb d_Co_accepts_75 (by decide) ?_
                exact W.zret (v := (1 : Int32)) (ty := .boolean) hx hb hr rfl (fun t ht hW => ⟨_, rfl, (bI1 (by unfold acc; rw [if_neg c1, if_neg c2, if_neg c3, if_neg (fun q => q c4), if_neg (fun q => c5 q.1), if_neg (fun q => c5 q.1), if_neg (fun q => by rw [c6] at q; cases q.1), if_neg (fun q => by rw [c7] at q; cases q.1)])), ht⟩) (fun q h => by cases h) d_Co_accepts_79
              · refine lv_aload_n hx hb d_Co_accepts_66 rfl (lv_at hl 0 rfl) ?_
                refine lv_iload_n hx hb d_Co_accepts_67 rfl (lv_at hl 3 rfl) ?_
                refine rdV (ci := 1) (q0 := 0) (As := [.int y]) (rest := []) ⟨hx, hb, hml, hown, hg⟩ (c_Co_isValue l dC dI cI h o1 o2 o3 o4 o5 o6 n vc ops lf rg E U P y hn) (cwV 1 hg (tg_V tw_155 tw_156 tw_157 tw_2 tw_158) rfl rfl rfl (by decide +kernel) ⟨Nat.le_of_ble_eq_true rfl, Nat.le_of_ble_eq_true rfl⟩) (hK.sub [0] rfl) (hP.sub [0, 1, 2, 3, 4, 5, 6] rfl) rfl rfl rfl hl.1 rfl (lv_room (Nat.le_of_ble_eq_true rfl)) d_Co_accepts_68 ⟨Nat.le_of_ble_eq_true rfl, Nat.le_of_ble_eq_true rfl⟩ ?_
                refine wb_if_eqb (tgt := 78) hx hb (iv ops n y) rfl d_Co_accepts_71 (by decide) (fun c8 => ?_) (fun c8 => ?_)
                · refine lv_iconst (v := 0) hx hb d_Co_accepts_78 (by decide) ?_
                  exact W.zret (v := (0 : Int32)) (ty := .boolean) hx hb hr rfl (fun t ht hW => ⟨_, rfl, (bI0 (by unfold acc; rw [if_neg c1, if_neg c2, if_neg c3, if_neg (fun q => q c4), if_neg (fun q => c5 q.1), if_neg (fun q => c5 q.1), if_neg (fun q => by rw [c6] at q; cases q.1), if_pos ⟨c7, c8⟩])), ht⟩) (fun q h => by cases h) d_Co_accepts_79
                · refine lv_iconst (v := 1) hx hb d_Co_accepts_74 (by decide) ?_
                  refine lv_goto (tgt := 79) hx hb d_Co_accepts_75 (by decide) ?_
                  exact W.zret (v := (1 : Int32)) (ty := .boolean) hx hb hr rfl (fun t ht hW => ⟨_, rfl, (bI1 (by unfold acc; rw [if_neg c1, if_neg c2, if_neg c3, if_neg (fun q => q c4), if_neg (fun q => c5 q.1), if_neg (fun q => c5 q.1), if_neg (fun q => by rw [c6] at q; cases q.1), if_neg (fun q => by rw [c8] at q; cases q.2)])), ht⟩) (fun q h => by cases h) d_Co_accepts_79
            · refine lv_aload_n hx hb d_Co_accepts_49 rfl (lv_at hl 0 rfl) ?_
              refine lv_iload_n hx hb d_Co_accepts_50 rfl (lv_at hl 2 rfl) ?_
              refine rdV (ci := 1) (q0 := 0) (As := [.int x]) (rest := []) ⟨hx, hb, hml, hown, hg⟩ (c_Co_isValue l dC dI cI h o1 o2 o3 o4 o5 o6 n vc ops lf rg E U P x hn) (cwV 1 hg (tg_V tw_155 tw_156 tw_157 tw_2 tw_158) rfl rfl rfl (by decide +kernel) ⟨Nat.le_of_ble_eq_true rfl, Nat.le_of_ble_eq_true rfl⟩) (hK.sub [0] rfl) (hP.sub [0, 1, 2, 3, 4, 5, 6] rfl) rfl rfl rfl hl.1 rfl (lv_room (Nat.le_of_ble_eq_true rfl)) d_Co_accepts_51 ⟨Nat.le_of_ble_eq_true rfl, Nat.le_of_ble_eq_true rfl⟩ ?_
              refine wb_if_neb (tgt := 59) hx hb (iv ops n x) rfl d_Co_accepts_54 (by decide) (fun c9 => ?_) (fun c9 => ?_)
              · refine lv_iload_n hx hb d_Co_accepts_59 rfl (lv_at hl 1 rfl) ?_
                refine rdS (As := [.int op]) (rest := []) ⟨hx, hb, hml, hown, hg⟩ (c_Co_usesRight l dC dI cI op) (va_cwS 1 hg (tg_S tw_159 tw_160 tw_2 tw_161) rfl rfl rfl (by decide +kernel) ⟨Nat.le_of_ble_eq_true rfl, Nat.le_of_ble_eq_true rfl⟩) (hK.sub [0] rfl) (hP.sub [] rfl) rfl hl.1 rfl (lv_room (Nat.le_of_ble_eq_true rfl)) d_Co_accepts_60 ⟨Nat.le_of_ble_eq_true rfl, Nat.le_of_ble_eq_true rfl⟩ ?_
                refine wb_if_eqb (tgt := 74) hx hb (uR op) rfl d_Co_accepts_63 (by decide) (fun c10 => ?_) (fun c10 => ?_)
                · refine lv_iconst (v := 1) hx hb d_Co_accepts_74 (by decide) ?_
                  refine lv_goto (tgt := 79) hx hb d_Co_accepts_75 (by decide) ?_
                  exact W.zret (v := (1 : Int32)) (ty := .boolean) hx hb hr rfl (fun t ht hW => ⟨_, rfl, (bI1 (by unfold acc; rw [if_neg c1, if_neg c2, if_neg c3, if_neg (fun q => q c4), if_neg (fun q => c5 q.1), if_neg (fun q => c5 q.1), if_neg (fun q => by rw [c9] at q; cases q.2), if_neg (fun q => by rw [c10] at q; cases q.1)])), ht⟩) (fun q h => by cases h) d_Co_accepts_79
                · refine lv_aload_n hx hb d_Co_accepts_66 rfl (lv_at hl 0 rfl) ?_
                  refine lv_iload_n hx hb d_Co_accepts_67 rfl (lv_at hl 3 rfl) ?_
                  refine rdV (ci := 1) (q0 := 0) (As := [.int y]) (rest := []) ⟨hx, hb, hml, hown, hg⟩ (c_Co_isValue l dC dI cI h o1 o2 o3 o4 o5 o6 n vc ops lf rg E U P y hn) (cwV 1 hg (tg_V tw_155 tw_156 tw_157 tw_2 tw_158) rfl rfl rfl (by decide +kernel) ⟨Nat.le_of_ble_eq_true rfl, Nat.le_of_ble_eq_true rfl⟩) (hK.sub [0] rfl) (hP.sub [0, 1, 2, 3, 4, 5, 6] rfl) rfl rfl rfl hl.1 rfl (lv_room (Nat.le_of_ble_eq_true rfl)) d_Co_accepts_68 ⟨Nat.le_of_ble_eq_true rfl, Nat.le_of_ble_eq_true rfl⟩ ?_
                  refine wb_if_eqb (tgt := 78) hx hb (iv ops n y) rfl d_Co_accepts_71 (by decide) (fun c11 => ?_) (fun c11 => ?_)
                  · refine lv_iconst (v := 0) hx hb d_Co_accepts_78 (by decide) ?_
                    exact W.zret (v := (0 : Int32)) (ty := .boolean) hx hb hr rfl (fun t ht hW => ⟨_, rfl, (bI0 (by unfold acc; rw [if_neg c1, if_neg c2, if_neg c3, if_neg (fun q => q c4), if_neg (fun q => c5 q.1), if_neg (fun q => c5 q.1), if_neg (fun q => by rw [c9] at q; cases q.2), if_pos ⟨c10, c11⟩])), ht⟩) (fun q h => by cases h) d_Co_accepts_79
                  · refine lv_iconst (v := 1) hx hb d_Co_accepts_74 (by decide) ?_
                    refine lv_goto (tgt := 79) hx hb d_Co_accepts_75 (by decide) ?_
                    exact W.zret (v := (1 : Int32)) (ty := .boolean) hx hb hr rfl (fun t ht hW => ⟨_, rfl, (bI1 (by unfold acc; rw [if_neg c1, if_neg c2, if_neg c3, if_neg (fun q => q c4), if_neg (fun q => c5 q.1), if_neg (fun q => c5 q.1), if_neg (fun q => by rw [c9] at q; cases q.2), if_neg (fun q => by rw [c11] at q; cases q.2)])), ht⟩) (fun q h => by cases h) d_Co_accepts_79
              · refine lv_iconst (v := 0) hx hb d_Co_accepts_57 (by decide) ?_
                exact W.zret (v := (0 : Int32)) (ty := .boolean) hx hb hr rfl (fun t ht hW => ⟨_, rfl, (bI0 (by unfold acc; rw [if_neg c1, if_neg c2, if_neg c3, if_neg (fun q => q c4), if_neg (fun q => c5 q.1), if_neg (fun q => c5 q.1), if_pos ⟨c6, c9⟩])), ht⟩) (fun q h => by cases h) d_Co_accepts_58
          · refine lv_iload_n hx hb d_Co_accepts_31 rfl (lv_at hl 2 rfl) ?_
            refine lv_if_lt (tgt := 40) hx hb d_Co_accepts_32 (by decide) (fun c12 => ?_) (fun c12 => ?_)
            · refine lv_iconst (v := 0) hx hb d_Co_accepts_40 (by decide) ?_
              exact W.zret (v := (0 : Int32)) (ty := .boolean) hx hb hr rfl (fun t ht hW => ⟨_, rfl, (bI0 (by unfold acc; rw [if_neg c1, if_neg c2, if_neg c3, if_neg (fun q => q c4), if_pos ⟨c5, c12⟩])), ht⟩) (fun q h => by cases h) d_Co_accepts_41
            · refine lv_iload_n hx hb d_Co_accepts_35 rfl (lv_at hl 2 rfl) ?_
              refine lv_iconst (v := 4) hx hb d_Co_accepts_36 (by decide) ?_
              refine lv_icmp_lt (tgt := 42) hx hb d_Co_accepts_37 (by decide) (fun c13 => ?_) (fun c13 => ?_)
              · refine lv_iload_n hx hb d_Co_accepts_42 rfl (lv_at hl 1 rfl) ?_
                refine rdS (As := [.int op]) (rest := []) ⟨hx, hb, hml, hown, hg⟩ (c_Co_usesLeft l dC dI cI op) (va_cwS 1 hg (tg_S tw_152 tw_153 tw_2 tw_154) rfl rfl rfl (by decide +kernel) ⟨Nat.le_of_ble_eq_true rfl, Nat.le_of_ble_eq_true rfl⟩) (hK.sub [0] rfl) (hP.sub [] rfl) rfl hl.1 rfl (lv_room (Nat.le_of_ble_eq_true rfl)) d_Co_accepts_43 ⟨Nat.le_of_ble_eq_true rfl, Nat.le_of_ble_eq_true rfl⟩ ?_
                refine wb_if_eqb (tgt := 59) hx hb (uL op) rfl d_Co_accepts_46 (by decide) (fun c14 => ?_) (fun c14 => ?_)
                · refine lv_iload_n hx hb d_Co_accepts_59 rfl (lv_at hl 1 rfl) ?_
                  refine rdS (As := [.int op]) (rest := []) ⟨hx, hb, hml, hown, hg⟩ (c_Co_usesRight l dC dI cI op) (va_cwS 1 hg (tg_S tw_159 tw_160 tw_2 tw_161) rfl rfl rfl (by decide +kernel) ⟨Nat.le_of_ble_eq_true rfl, Nat.le_of_ble_eq_true rfl⟩) (hK.sub [0] rfl) (hP.sub [] rfl) rfl hl.1 rfl (lv_room (Nat.le_of_ble_eq_true rfl)) d_Co_accepts_60 ⟨Nat.le_of_ble_eq_true rfl, Nat.le_of_ble_eq_true rfl⟩ ?_
                  refine wb_if_eqb (tgt := 74) hx hb (uR op) rfl d_Co_accepts_63 (by decide) (fun c15 => ?_) (fun c15 => ?_)
                  · refine lv_iconst (v := 1) hx hb d_Co_accepts_74 (by decide) ?_
                    refine lv_goto (tgt := 79) hx hb d_Co_accepts_75 (by decide) ?_
                    exact W.zret (v := (1 : Int32)) (ty := .boolean) hx hb hr rfl (fun t ht hW => ⟨_, rfl, (bI1 (by unfold acc; rw [if_neg c1, if_neg c2, if_neg c3, if_neg (fun q => q c4), if_neg (fun q => c12 q.2), if_neg (fun q => q.2 c13), if_neg (fun q => by rw [c14] at q; cases q.1), if_neg (fun q => by rw [c15] at q; cases q.1)])), ht⟩) (fun q h => by cases h) d_Co_accepts_79
                  · refine lv_aload_n hx hb d_Co_accepts_66 rfl (lv_at hl 0 rfl) ?_
                    refine lv_iload_n hx hb d_Co_accepts_67 rfl (lv_at hl 3 rfl) ?_
                    refine rdV (ci := 1) (q0 := 0) (As := [.int y]) (rest := []) ⟨hx, hb, hml, hown, hg⟩ (c_Co_isValue l dC dI cI h o1 o2 o3 o4 o5 o6 n vc ops lf rg E U P y hn) (cwV 1 hg (tg_V tw_155 tw_156 tw_157 tw_2 tw_158) rfl rfl rfl (by decide +kernel) ⟨Nat.le_of_ble_eq_true rfl, Nat.le_of_ble_eq_true rfl⟩) (hK.sub [0] rfl) (hP.sub [0, 1, 2, 3, 4, 5, 6] rfl) rfl rfl rfl hl.1 rfl (lv_room (Nat.le_of_ble_eq_true rfl)) d_Co_accepts_68 ⟨Nat.le_of_ble_eq_true rfl, Nat.le_of_ble_eq_true rfl⟩ ?_
                    refine wb_if_eqb (tgt := 78) hx hb (iv ops n y) rfl d_Co_accepts_71 (by decide) (fun c16 => ?_) (fun c16 => ?_)
                    · refine lv_iconst (v := 0) hx hb d_Co_accepts_78 (by decide) ?_
                      exact W.zret (v := (0 : Int32)) (ty := .boolean) hx hb hr rfl (fun t ht hW => ⟨_, rfl, (bI0 (by unfold acc; rw [if_neg c1, if_neg c2, if_neg c3, if_neg (fun q => q c4), if_neg (fun q => c12 q.2), if_neg (fun q => q.2 c13), if_neg (fun q => by rw [c14] at q; cases q.1), if_pos ⟨c15, c16⟩])), ht⟩) (fun q h => by cases h) d_Co_accepts_79
                    · refine lv_iconst (v := 1) hx hb d_Co_accepts_74 (by decide) ?_
                      refine lv_goto (tgt := 79) hx hb d_Co_accepts_75 (by decide) ?_
                      exact W.zret (v := (1 : Int32)) (ty := .boolean) hx hb hr rfl (fun t ht hW => ⟨_, rfl, (bI1 (by unfold acc; rw [if_neg c1, if_neg c2, if_neg c3, if_neg (fun q => q c4), if_neg (fun q => c12 q.2), if_neg (fun q => q.2 c13), if_neg (fun q => by rw [c14] at q; cases q.1), if_neg (fun q => by rw [c16] at q; cases q.2)])), ht⟩) (fun q h => by cases h) d_Co_accepts_79
                · refine lv_aload_n hx hb d_Co_accepts_49 rfl (lv_at hl 0 rfl) ?_
                  refine lv_iload_n hx hb d_Co_accepts_50 rfl (lv_at hl 2 rfl) ?_
                  refine rdV (ci := 1) (q0 := 0) (As := [.int x]) (rest := []) ⟨hx, hb, hml, hown, hg⟩ (c_Co_isValue l dC dI cI h o1 o2 o3 o4 o5 o6 n vc ops lf rg E U P x hn) (cwV 1 hg (tg_V tw_155 tw_156 tw_157 tw_2 tw_158) rfl rfl rfl (by decide +kernel) ⟨Nat.le_of_ble_eq_true rfl, Nat.le_of_ble_eq_true rfl⟩) (hK.sub [0] rfl) (hP.sub [0, 1, 2, 3, 4, 5, 6] rfl) rfl rfl rfl hl.1 rfl (lv_room (Nat.le_of_ble_eq_true rfl)) d_Co_accepts_51 ⟨Nat.le_of_ble_eq_true rfl, Nat.le_of_ble_eq_true rfl⟩ ?_
                  refine wb_if_neb (tgt := 59) hx hb (iv ops n x) rfl d_Co_accepts_54 (by decide) (fun c17 => ?_) (fun c17 => ?_)
                  · refine lv_iload_n hx hb d_Co_accepts_59 rfl (lv_at hl 1 rfl) ?_
                    refine rdS (As := [.int op]) (rest := []) ⟨hx, hb, hml, hown, hg⟩ (c_Co_usesRight l dC dI cI op) (va_cwS 1 hg (tg_S tw_159 tw_160 tw_2 tw_161) rfl rfl rfl (by decide +kernel) ⟨Nat.le_of_ble_eq_true rfl, Nat.le_of_ble_eq_true rfl⟩) (hK.sub [0] rfl) (hP.sub [] rfl) rfl hl.1 rfl (lv_room (Nat.le_of_ble_eq_true rfl)) d_Co_accepts_60 ⟨Nat.le_of_ble_eq_true rfl, Nat.le_of_ble_eq_true rfl⟩ ?_
                    refine wb_if_eqb (tgt := 74) hx hb (uR op) rfl d_Co_accepts_63 (by decide) (fun c18 => ?_) (fun c18 => ?_)
                    · refine lv_iconst (v := 1) hx hb d_Co_accepts_74 (by decide) ?_
                      refine lv_goto (tgt := 79) hx hb d_Co_accepts_75 (by decide) ?_
                      exact W.zret (v := (1 : Int32)) (ty := .boolean) hx hb hr rfl (fun t ht hW => ⟨_, rfl, (bI1 (by unfold acc; rw [if_neg c1, if_neg c2, if_neg c3, if_neg (fun q => q c4), if_neg (fun q => c12 q.2), if_neg (fun q => q.2 c13), if_neg (fun q => by rw [c17] at q; cases q.2), if_neg (fun q => by rw [c18] at q; cases q.1)])), ht⟩) (fun q h => by cases h) d_Co_accepts_79
                    · refine lv_aload_n hx hb d_Co_accepts_66 rfl (lv_at hl 0 rfl) ?_
                      refine lv_iload_n hx hb d_Co_accepts_67 rfl (lv_at hl 3 rfl) ?_
                      refine rdV (ci := 1) (q0 := 0) (As := [.int y]) (rest := []) ⟨hx, hb, hml, hown, hg⟩ (c_Co_isValue l dC dI cI h o1 o2 o3 o4 o5 o6 n vc ops lf rg E U P y hn) (cwV 1 hg (tg_V tw_155 tw_156 tw_157 tw_2 tw_158) rfl rfl rfl (by decide +kernel) ⟨Nat.le_of_ble_eq_true rfl, Nat.le_of_ble_eq_true rfl⟩) (hK.sub [0] rfl) (hP.sub [0, 1, 2, 3, 4, 5, 6] rfl) rfl rfl rfl hl.1 rfl (lv_room (Nat.le_of_ble_eq_true rfl)) d_Co_accepts_68 ⟨Nat.le_of_ble_eq_true rfl, Nat.le_of_ble_eq_true rfl⟩ ?_
                      refine wb_if_eqb (tgt := 78) hx hb (iv ops n y) rfl d_Co_accepts_71 (by decide) (fun c19 => ?_) (fun c19 => ?_)
                      · refine lv_iconst (v := 0) hx hb d_Co_accepts_78 (by decide) ?_
                        exact W.zret (v := (0 : Int32)) (ty := .boolean) hx hb hr rfl (fun t ht hW => ⟨_, rfl, (bI0 (by unfold acc; rw [if_neg c1, if_neg c2, if_neg c3, if_neg (fun q => q c4), if_neg (fun q => c12 q.2), if_neg (fun q => q.2 c13), if_neg (fun q => by rw [c17] at q; cases q.2), if_pos ⟨c18, c19⟩])), ht⟩) (fun q h => by cases h) d_Co_accepts_79
                      · refine lv_iconst (v := 1) hx hb d_Co_accepts_74 (by decide) ?_
                        refine lv_goto (tgt := 79) hx hb d_Co_accepts_75 (by decide) ?_
                        exact W.zret (v := (1 : Int32)) (ty := .boolean) hx hb hr rfl (fun t ht hW => ⟨_, rfl, (bI1 (by unfold acc; rw [if_neg c1, if_neg c2, if_neg c3, if_neg (fun q => q c4), if_neg (fun q => c12 q.2), if_neg (fun q => q.2 c13), if_neg (fun q => by rw [c17] at q; cases q.2), if_neg (fun q => by rw [c19] at q; cases q.2)])), ht⟩) (fun q h => by cases h) d_Co_accepts_79
                  · refine lv_iconst (v := 0) hx hb d_Co_accepts_57 (by decide) ?_
                    exact W.zret (v := (0 : Int32)) (ty := .boolean) hx hb hr rfl (fun t ht hW => ⟨_, rfl, (bI0 (by unfold acc; rw [if_neg c1, if_neg c2, if_neg c3, if_neg (fun q => q c4), if_neg (fun q => c12 q.2), if_neg (fun q => q.2 c13), if_pos ⟨c14, c17⟩])), ht⟩) (fun q h => by cases h) d_Co_accepts_58
              · refine lv_iconst (v := 0) hx hb d_Co_accepts_40 (by decide) ?_
                exact W.zret (v := (0 : Int32)) (ty := .boolean) hx hb hr rfl (fun t ht hW => ⟨_, rfl, (bI0 (by unfold acc; rw [if_neg c1, if_neg c2, if_neg c3, if_neg (fun q => q c4), if_neg (fun q => c12 q.2), if_pos ⟨c5, c13⟩])), ht⟩) (fun q h => by cases h) d_Co_accepts_41
        · refine lv_iconst (v := 0) hx hb d_Co_accepts_24 (by decide) ?_
          exact W.zret (v := (0 : Int32)) (ty := .boolean) hx hb hr rfl (fun t ht hW => ⟨_, rfl, (bI0 (by unfold acc; rw [if_neg c1, if_neg c2, if_neg c3, if_pos c4])), ht⟩) (fun q h => by cases h) d_Co_accepts_25
end
section
/-! what an instruction more does to the arrays of a code -/
def nuE (b : Bool) (E : Nat → Nat) (v n : Nat) : Nat → Nat := if b = true then uN E v n else E
def nuU (b : Bool) (U : Nat → Nat) (v : Nat) : Nat → Nat := if b = true then uN U v (U v + 1) else U
def nuP (b : Bool) (P : Nat → Nat) (v n : Nat) : Nat → Nat := if b = true then uN P v (P v + P n) else P
def apE (E : Nat → Nat) (n : Nat) (op x y : Int32) : Nat → Nat := nuE (uR op) (nuE (uL op) (uN E n (n + 1)) x.toNatClampNeg n) y.toNatClampNeg n
def apU (U : Nat → Nat) (n : Nat) (op x y : Int32) : Nat → Nat := nuU (uR op) (nuU (uL op) (uN U n 0) x.toNatClampNeg) y.toNatClampNeg
def apP (P : Nat → Nat) (n : Nat) (op x y : Int32) (dp : Nat) : Nat → Nat := nuP (uR op) (nuP (uL op) (uN P n (prc dp)) x.toNatClampNeg n) y.toNatClampNeg n
def apV (vc : Nat) (op : Int32) : Nat := if op = 6 then vc else vc + 1
theorem nuE_t {b : Bool} {E : Nat → Nat} {v n j : Nat} (h : b = true) (hv : v = j) : nuE b E v n = uN E j n := by subst hv; exact if_pos h
theorem nuE_f {b : Bool} {E : Nat → Nat} {v n : Nat} (h : b = false) : nuE b E v n = E := if_neg (by rw [h]; decide)
theorem nuU_t {b : Bool} {U : Nat → Nat} {v j : Nat} (h : b = true) (hv : v = j) : nuU b U v = uN U j (U j + 1) := by subst hv; exact if_pos h
theorem nuU_f {b : Bool} {U : Nat → Nat} {v : Nat} (h : b = false) : nuU b U v = U := if_neg (by rw [h]; decide)
theorem nuP_t {b : Bool} {P : Nat → Nat} {v n j : Nat} (h : b = true) (hv : v = j) : nuP b P v n = uN P j (P j + P n) := by subst hv; exact if_pos h
theorem nuP_f {b : Bool} {P : Nat → Nat} {v n : Nat} (h : b = false) : nuP b P v n = P := if_neg (by rw [h]; decide)
end
section
/-! AllocForge$Code: append -/
set_option maxHeartbeats 4000000 in
set_option maxRecDepth 100000 in
theorem c_Co_append (l : Launch) (dC : Nat → ClassId) (dI : Nat → Nat → Nat) (cI : ClassId) (h : Nat) (o1 : Nat) (o2 : Nat) (o3 : Nat) (o4 : Nat) (o5 : Nat) (o6 : Nat) (n : Nat) (vc : Nat) (ops : Nat → Int32) (lf : Nat → Int32) (rg : Nat → Int32) (E : Nat → Nat) (U : Nat → Nat) (P : Nat → Nat) (op : Int32) (x : Int32) (y : Int32) (dp : Nat) (sz : Nat) (tp : Nat) (hn1 : n < 24) (hdp : dp < 4) (hxa : uL op = true → ∃ j : Nat, j < n ∧ x = nI j) (hya : uR op = true → ∃ k : Nat, k < n ∧ y = nI k) : Met l y_Co_append ws_Co_append (lvR 1 0 0) (va_Pc [.ref h, .int op, .int x, .int y, .int (nI dp)] (PME (dC, dI) vwCl [(h, .inr (1, [.ref o1, .ref o2, .ref o3, .ref o4, .ref o5, .ref o6, .int (nI n), .int (nI vc)])), (o1, .inl (cI, 24, .inl ops)), (o2, .inl (cI, 24, .inl lf)), (o3, .inl (cI, 24, .inl rg)), (o4, .inl (cI, 24, .inl (fun z9 => nI (E z9)))), (o5, .inl (cI, 24, .inl (fun z9 => nI (U z9)))), (o6, .inl (cI, 24, .inl (fun z9 => nI (P z9))))] [(cI, .int)] sz tp)) (va_Qv (fun _ : Unit => True) (MB (dC, dI) vwCl (fun _ => [(h, .inr (1, [.ref o1, .ref o2, .ref o3, .ref o4, .ref o5, .ref o6, .int (nI (n + 1)), .int (nI (apV vc op))])), (o1, .inl (cI, 24, .inl (upd ops n op))), (o2, .inl (cI, 24, .inl (upd lf n x))), (o3, .inl (cI, 24, .inl (upd rg n y))), (o4, .inl (cI, 24, .inl (fun z9 => nI ((apE E n op x y) z9)))), (o5, .inl (cI, 24, .inl (fun z9 => nI ((apU U n op x y) z9)))), (o6, .inl (cI, 24, .inl (fun z9 => nI ((apP P n op x y dp) z9))))]) [(cI, .int)] (va_A [(h, .inr (1, [.ref o1, .ref o2, .ref o3, .ref o4, .ref o5, .ref o6, .int (nI n), .int (nI vc)])), (o1, .inl (cI, 24, .inl ops)), (o2, .inl (cI, 24, .inl lf)), (o3, .inl (cI, 24, .inl rg)), (o4, .inl (cI, 24, .inl (fun z9 => nI (E z9)))), (o5, .inl (cI, 24, .inl (fun z9 => nI (U z9)))), (o6, .inl (cI, 24, .inl (fun z9 => nI (P z9))))] sz)) (va_A [(h, .inr (1, [.ref o1, .ref o2, .ref o3, .ref o4, .ref o5, .ref o6, .int (nI n), .int (nI vc)])), (o1, .inl (cI, 24, .inl ops)), (o2, .inl (cI, 24, .inl lf)), (o3, .inl (cI, 24, .inl rg)), (o4, .inl (cI, 24, .inl (fun z9 => nI (E z9)))), (o5, .inl (cI, 24, .inl (fun z9 => nI (U z9)))), (o6, .inl (cI, 24, .inl (fun z9 => nI (P z9))))] sz)) 0 0 (va_A [(h, .inr (1, [.ref o1, .ref o2, .ref o3, .ref o4, .ref o5, .ref o6, .int (nI n), .int (nI vc)])), (o1, .inl (cI, 24, .inl ops)), (o2, .inl (cI, 24, .inl lf)), (o3, .inl (cI, 24, .inl rg)), (o4, .inl (cI, 24, .inl (fun z9 => nI (E z9)))), (o5, .inl (cI, 24, .inl (fun z9 => nI (U z9)))), (o6, .inl (cI, 24, .inl (fun z9 => nI (P z9))))] sz) := by
  refine Met.ofW (cc := b_Co_append) (maxL := 6) (ret := none) (by decide) rfl ?_
  intro p e s m args below meth c s₁ B hml hv
  obtain ⟨rfl, hsz, hP, hK, hD0, hE⟩ := hv
  have hx := B.exec
  have hb := B.bytes
  have hr := B.returns
  have hts := atoms_spec (ws := ws_Co_append) B.pre
  have hg : ∀ w ∈ TG, w.before ([.ref h, .int op, .int x, .int y, .int (nI dp)] : List Value).toArray s = true := fun w h => hts w (List.mem_cons_of_mem _ h)
  have hown : s.vm.findClass R_Co = some m.cls := findClass_of_methodNamed B.named
  have hlocks := B.notSynchronized
  subst hsz
  have hD := hD0.self (sz := s.heap.size)
  generalize hAe : va_A [(h, .inr (1, [.ref o1, .ref o2, .ref o3, .ref o4, .ref o5, .ref o6, .int (nI n), .int (nI vc)])), (o1, .inl (cI, 24, .inl ops)), (o2, .inl (cI, 24, .inl lf)), (o3, .inl (cI, 24, .inl rg)), (o4, .inl (cI, 24, .inl (fun z9 => nI (E z9)))), (o5, .inl (cI, 24, .inl (fun z9 => nI (U z9)))), (o6, .inl (cI, 24, .inl (fun z9 => nI (P z9))))] s.heap.size = A at hD hE ⊢
  have hA : ∀ q : Nat, s.heap.size ≤ q → A q := fun q h => by rw [← hAe]; exact Or.inr h
  have hS : va_S A s.heap s.heap [] := va_S.rf
  have hl := lv_entry ([.ref h, .int op, .int x, .int y, .int (nI dp)]) (n := 6) (Nat.le_of_ble_eq_true rfl)
  rw [lg_entry_eq]
  generalize (lg_sl ([.ref h, .int op, .int x, .int y, .int (nI dp)]) ++ List.replicate (6 - (lg_sl ([.ref h, .int op, .int x, .int y, .int (nI dp)])).length) Slot.unset).toArray = ls at hl ⊢
  have hl : lv_has ls 6 [(0, .ref h), (1, .int op), (2, .int x), (3, .int y), (4, .int (nI dp))] := hl
  refine lv_aload_n hx hb d_Co_append_0 rfl (lv_at hl 0 rfl) ?_
  refine va_get (D := (dC, dI)) (ci := 1) (v := .int (nI n)) (C := R_Co) (T := T_Co) (N := 8) hx hb hg in_Co hown hK hP 0 rfl rfl 6 (by decide) (hg _ tw_35) (fun _ h9 => h9) rfl d_Co_append_1 ?_
  refine lv_istore (lv' := [(5, .int (nI n)), (0, .ref h), (1, .int op), (2, .int x), (3, .int y), (4, .int (nI dp))]) hx hb d_Co_append_4 hl (by decide) rfl (fun ls hl => ?_)
  refine lv_aload_n hx hb d_Co_append_6 rfl (lv_at hl 1 rfl) ?_
  refine va_get (D := (dC, dI)) (ci := 1) (v := .ref o1) (C := R_Co) (T := T_Co) (N := 8) hx hb hg in_Co hown hK hP 0 rfl rfl 0 (by decide) (hg _ tw_29) (fun _ h9 => h9) rfl d_Co_append_7 ?_
  refine lv_iload hx hb d_Co_append_10 (lv_at hl 0 rfl) ?_
  refine lv_iload_n hx hb d_Co_append_12 rfl (lv_at hl 2 rfl) ?_
  refine wb_iast hx hb hK hP hD hS 1 0 rfl rfl n rfl hn1 (by decide) d_Co_append_13 (fun H locs hP hD hS => ?_)
  have hP : va_P (dC, dI) vwCl [(h, .inr (1, [.ref o1, .ref o2, .ref o3, .ref o4, .ref o5, .ref o6, .int (nI n), .int (nI vc)])), (o1, .inl (cI, 24, .inl (upd ops n op))), (o2, .inl (cI, 24, .inl lf)), (o3, .inl (cI, 24, .inl rg)), (o4, .inl (cI, 24, .inl (fun z9 => nI (E z9)))), (o5, .inl (cI, 24, .inl (fun z9 => nI (U z9)))), (o6, .inl (cI, 24, .inl (fun z9 => nI (P z9))))] H := hP
  have hD : va_D A [(h, .inr (1, [.ref o1, .ref o2, .ref o3, .ref o4, .ref o5, .ref o6, .int (nI n), .int (nI vc)])), (o1, .inl (cI, 24, .inl (upd ops n op))), (o2, .inl (cI, 24, .inl lf)), (o3, .inl (cI, 24, .inl rg)), (o4, .inl (cI, 24, .inl (fun z9 => nI (E z9)))), (o5, .inl (cI, 24, .inl (fun z9 => nI (U z9)))), (o6, .inl (cI, 24, .inl (fun z9 => nI (P z9))))] := hD
  refine lv_aload_n hx hb d_Co_append_14 rfl (lv_at hl 1 rfl) ?_
  refine va_get (D := (dC, dI)) (ci := 1) (v := .ref o2) (C := R_Co) (T := T_Co) (N := 8) hx hb hg in_Co hown hK hP 0 rfl rfl 1 (by decide) (hg _ tw_30) (fun _ h9 => h9) rfl d_Co_append_15 ?_
  refine lv_iload hx hb d_Co_append_18 (lv_at hl 0 rfl) ?_
  refine lv_iload_n hx hb d_Co_append_20 rfl (lv_at hl 3 rfl) ?_
  refine wb_iast hx hb hK hP hD hS 2 0 rfl rfl n rfl hn1 (by decide) d_Co_append_21 (fun H locs hP hD hS => ?_)
  have hP : va_P (dC, dI) vwCl [(h, .inr (1, [.ref o1, .ref o2, .ref o3, .ref o4, .ref o5, .ref o6, .int (nI n), .int (nI vc)])), (o1, .inl (cI, 24, .inl (upd ops n op))), (o2, .inl (cI, 24, .inl (upd lf n x))), (o3, .inl (cI, 24, .inl rg)), (o4, .inl (cI, 24, .inl (fun z9 => nI (E z9)))), (o5, .inl (cI, 24, .inl (fun z9 => nI (U z9)))), (o6, .inl (cI, 24, .inl (fun z9 => nI (P z9))))] H := hP
  have hD : va_D A [(h, .inr (1, [.ref o1, .ref o2, .ref o3, .ref o4, .ref o5, .ref o6, .int (nI n), .int (nI vc)])), (o1, .inl (cI, 24, .inl (upd ops n op))), (o2, .inl (cI, 24, .inl (upd lf n x))), (o3, .inl (cI, 24, .inl rg)), (o4, .inl (cI, 24, .inl (fun z9 => nI (E z9)))), (o5, .inl (cI, 24, .inl (fun z9 => nI (U z9)))), (o6, .inl (cI, 24, .inl (fun z9 => nI (P z9))))] := hD
  refine lv_aload_n hx hb d_Co_append_22 rfl (lv_at hl 1 rfl) ?_
  refine va_get (D := (dC, dI)) (ci := 1) (v := .ref o3) (C := R_Co) (T := T_Co) (N := 8) hx hb hg in_Co hown hK hP 0 rfl rfl 2 (by decide) (hg _ tw_31) (fun _ h9 => h9) rfl d_Co_append_23 ?_
  refine lv_iload hx hb d_Co_append_26 (lv_at hl 0 rfl) ?_
  refine lv_iload_n hx hb d_Co_append_28 rfl (lv_at hl 4 rfl) ?_
  refine wb_iast hx hb hK hP hD hS 3 0 rfl rfl n rfl hn1 (by decide) d_Co_append_29 (fun H locs hP hD hS => ?_)
  have hP : va_P (dC, dI) vwCl [(h, .inr (1, [.ref o1, .ref o2, .ref o3, .ref o4, .ref o5, .ref o6, .int (nI n), .int (nI vc)])), (o1, .inl (cI, 24, .inl (upd ops n op))), (o2, .inl (cI, 24, .inl (upd lf n x))), (o3, .inl (cI, 24, .inl (upd rg n y))), (o4, .inl (cI, 24, .inl (fun z9 => nI (E z9)))), (o5, .inl (cI, 24, .inl (fun z9 => nI (U z9)))), (o6, .inl (cI, 24, .inl (fun z9 => nI (P z9))))] H := hP
  have hD : va_D A [(h, .inr (1, [.ref o1, .ref o2, .ref o3, .ref o4, .ref o5, .ref o6, .int (nI n), .int (nI vc)])), (o1, .inl (cI, 24, .inl (upd ops n op))), (o2, .inl (cI, 24, .inl (upd lf n x))), (o3, .inl (cI, 24, .inl (upd rg n y))), (o4, .inl (cI, 24, .inl (fun z9 => nI (E z9)))), (o5, .inl (cI, 24, .inl (fun z9 => nI (U z9)))), (o6, .inl (cI, 24, .inl (fun z9 => nI (P z9))))] := hD
  refine lv_aload_n hx hb d_Co_append_30 rfl (lv_at hl 1 rfl) ?_
  refine va_get (D := (dC, dI)) (ci := 1) (v := .ref o4) (C := R_Co) (T := T_Co) (N := 8) hx hb hg in_Co hown hK hP 0 rfl rfl 3 (by decide) (hg _ tw_32) (fun _ h9 => h9) rfl d_Co_append_31 ?_
  refine lv_iload hx hb d_Co_append_34 (lv_at hl 0 rfl) ?_
  refine lv_iload hx hb d_Co_append_36 (lv_at hl 0 rfl) ?_
  refine lv_iconst (v := 1) hx hb d_Co_append_38 (by decide) ?_
  refine wb_iadd hx hb n 1 rfl rfl d_Co_append_39 ?_
  refine wb_iastN hx hb hK hP hD hS 4 0 rfl rfl n rfl hn1 (by decide) (n + 1) rfl d_Co_append_40 (fun H locs hP hD hS => ?_)
  have hP : va_P (dC, dI) vwCl [(h, .inr (1, [.ref o1, .ref o2, .ref o3, .ref o4, .ref o5, .ref o6, .int (nI n), .int (nI vc)])), (o1, .inl (cI, 24, .inl (upd ops n op))), (o2, .inl (cI, 24, .inl (upd lf n x))), (o3, .inl (cI, 24, .inl (upd rg n y))), (o4, .inl (cI, 24, .inl (fun z9 => nI ((uN E n (n + 1)) z9)))), (o5, .inl (cI, 24, .inl (fun z9 => nI (U z9)))), (o6, .inl (cI, 24, .inl (fun z9 => nI (P z9))))] H := hP
  have hD : va_D A [(h, .inr (1, [.ref o1, .ref o2, .ref o3, .ref o4, .ref o5, .ref o6, .int (nI n), .int (nI vc)])), (o1, .inl (cI, 24, .inl (upd ops n op))), (o2, .inl (cI, 24, .inl (upd lf n x))), (o3, .inl (cI, 24, .inl (upd rg n y))), (o4, .inl (cI, 24, .inl (fun z9 => nI ((uN E n (n + 1)) z9)))), (o5, .inl (cI, 24, .inl (fun z9 => nI (U z9)))), (o6, .inl (cI, 24, .inl (fun z9 => nI (P z9))))] := hD
  refine lv_aload_n hx hb d_Co_append_41 rfl (lv_at hl 1 rfl) ?_
  refine va_get (D := (dC, dI)) (ci := 1) (v := .ref o5) (C := R_Co) (T := T_Co) (N := 8) hx hb hg in_Co hown hK hP 0 rfl rfl 4 (by decide) (hg _ tw_33) (fun _ h9 => h9) rfl d_Co_append_42 ?_
  refine lv_iload hx hb d_Co_append_45 (lv_at hl 0 rfl) ?_
  refine lv_iconst (v := 0) hx hb d_Co_append_47 (by decide) ?_
  refine wb_iastN hx hb hK hP hD hS 5 0 rfl rfl n rfl hn1 (by decide) 0 rfl d_Co_append_48 (fun H locs hP hD hS => ?_)
  have hP : va_P (dC, dI) vwCl [(h, .inr (1, [.ref o1, .ref o2, .ref o3, .ref o4, .ref o5, .ref o6, .int (nI n), .int (nI vc)])), (o1, .inl (cI, 24, .inl (upd ops n op))), (o2, .inl (cI, 24, .inl (upd lf n x))), (o3, .inl (cI, 24, .inl (upd rg n y))), (o4, .inl (cI, 24, .inl (fun z9 => nI ((uN E n (n + 1)) z9)))), (o5, .inl (cI, 24, .inl (fun z9 => nI ((uN U n 0) z9)))), (o6, .inl (cI, 24, .inl (fun z9 => nI (P z9))))] H := hP
  have hD : va_D A [(h, .inr (1, [.ref o1, .ref o2, .ref o3, .ref o4, .ref o5, .ref o6, .int (nI n), .int (nI vc)])), (o1, .inl (cI, 24, .inl (upd ops n op))), (o2, .inl (cI, 24, .inl (upd lf n x))), (o3, .inl (cI, 24, .inl (upd rg n y))), (o4, .inl (cI, 24, .inl (fun z9 => nI ((uN E n (n + 1)) z9)))), (o5, .inl (cI, 24, .inl (fun z9 => nI ((uN U n 0) z9)))), (o6, .inl (cI, 24, .inl (fun z9 => nI (P z9))))] := hD
  refine lv_aload_n hx hb d_Co_append_49 rfl (lv_at hl 1 rfl) ?_
  refine va_get (D := (dC, dI)) (ci := 1) (v := .ref o6) (C := R_Co) (T := T_Co) (N := 8) hx hb hg in_Co hown hK hP 0 rfl rfl 5 (by decide) (hg _ tw_34) (fun _ h9 => h9) rfl d_Co_append_50 ?_
  refine lv_iload hx hb d_Co_append_53 (lv_at hl 0 rfl) ?_
  refine va_gets (v := .ref tp) hx hb hE.1 hS hown (hg _ tw_150) (fun _ h9 => h9) d_Co_append_55 ?_
  refine lv_iload hx hb d_Co_append_58 (lv_at hl 5 rfl) ?_
  refine wb_ti hx hb hE hS dp rfl hdp d_Co_append_60 ?_
  refine wb_iastN hx hb hK hP hD hS 6 0 rfl rfl n rfl hn1 (by decide) (prc dp) rfl d_Co_append_61 (fun H locs hP hD hS => ?_)
  have hP : va_P (dC, dI) vwCl [(h, .inr (1, [.ref o1, .ref o2, .ref o3, .ref o4, .ref o5, .ref o6, .int (nI n), .int (nI vc)])), (o1, .inl (cI, 24, .inl (upd ops n op))), (o2, .inl (cI, 24, .inl (upd lf n x))), (o3, .inl (cI, 24, .inl (upd rg n y))), (o4, .inl (cI, 24, .inl (fun z9 => nI ((uN E n (n + 1)) z9)))), (o5, .inl (cI, 24, .inl (fun z9 => nI ((uN U n 0) z9)))), (o6, .inl (cI, 24, .inl (fun z9 => nI ((uN P n (prc dp)) z9))))] H := hP
  have hD : va_D A [(h, .inr (1, [.ref o1, .ref o2, .ref o3, .ref o4, .ref o5, .ref o6, .int (nI n), .int (nI vc)])), (o1, .inl (cI, 24, .inl (upd ops n op))), (o2, .inl (cI, 24, .inl (upd lf n x))), (o3, .inl (cI, 24, .inl (upd rg n y))), (o4, .inl (cI, 24, .inl (fun z9 => nI ((uN E n (n + 1)) z9)))), (o5, .inl (cI, 24, .inl (fun z9 => nI ((uN U n 0) z9)))), (o6, .inl (cI, 24, .inl (fun z9 => nI ((uN P n (prc dp)) z9))))] := hD
  refine lv_iload_n hx hb d_Co_append_62 rfl (lv_at hl 2 rfl) ?_
  refine rdS (As := [.int op]) (rest := []) ⟨hx, hb, hml, hown, hg⟩ (c_Co_usesLeft l dC dI cI op) (va_cwS 1 hg (tg_S tw_152 tw_153 tw_2 tw_154) rfl rfl rfl (by decide +kernel) ⟨Nat.le_of_ble_eq_true rfl, Nat.le_of_ble_eq_true rfl⟩) (hK.sub [0] rfl) (hP.sub [] rfl) rfl hl.1 rfl (lv_room (Nat.le_of_ble_eq_true rfl)) d_Co_append_63 ⟨Nat.le_of_ble_eq_true rfl, Nat.le_of_ble_eq_true rfl⟩ ?_
  refine wb_if_eqb (tgt := 76) hx hb (uL op) rfl d_Co_append_66 (by decide) (fun c1 => ?_) (fun c1 => ?_)
  · refine lv_iload_n hx hb d_Co_append_76 rfl (lv_at hl 2 rfl) ?_
    refine rdS (As := [.int op]) (rest := []) ⟨hx, hb, hml, hown, hg⟩ (c_Co_usesRight l dC dI cI op) (va_cwS 1 hg (tg_S tw_159 tw_160 tw_2 tw_161) rfl rfl rfl (by decide +kernel) ⟨Nat.le_of_ble_eq_true rfl, Nat.le_of_ble_eq_true rfl⟩) (hK.sub [0] rfl) (hP.sub [] rfl) rfl hl.1 rfl (lv_room (Nat.le_of_ble_eq_true rfl)) d_Co_append_77 ⟨Nat.le_of_ble_eq_true rfl, Nat.le_of_ble_eq_true rfl⟩ ?_
    refine wb_if_eqb (tgt := 90) hx hb (uR op) rfl d_Co_append_80 (by decide) (fun c2 => ?_) (fun c2 => ?_)
    · refine lv_iload_n hx hb d_Co_append_90 rfl (lv_at hl 2 rfl) ?_
      refine lv_bipush (v := 6) hx hb d_Co_append_91 (by decide) ?_
      refine lv_icmp_eq (tgt := 106) hx hb d_Co_append_93 (by decide) (fun c3 => ?_) (fun c3 => ?_)
      · refine lv_aload_n hx hb d_Co_append_106 rfl (lv_at hl 1 rfl) ?_
        refine lv_dup hx hb d_Co_append_107 rfl ?_
        refine va_get (D := (dC, dI)) (ci := 1) (v := .int (nI n)) (C := R_Co) (T := T_Co) (N := 8) hx hb hg in_Co hown hK hP 0 rfl rfl 6 (by decide) (hg _ tw_35) (fun _ h9 => h9) rfl d_Co_append_108 ?_
        refine lv_iconst (v := 1) hx hb d_Co_append_111 (by decide) ?_
        refine wb_iadd hx hb n 1 rfl rfl d_Co_append_112 ?_
        refine va_put (D := (dC, dI)) (ci := 1) (v := .int (nI (n + 1))) (ty := .int) (C := R_Co) (T := T_Co) (N := 8) hx hb hg in_Co ty_Co tyok_Co nm_Co hown hK hP hD hS 0 rfl rfl 6 (by decide) (hg _ tw_35) (fun _ h9 => h9) rfl (by decide +kernel) rfl rfl (Nat.le_of_ble_eq_true rfl) d_Co_append_113 (fun H locs hP hD hS => ?_)
        have hP : va_P (dC, dI) vwCl [(h, .inr (1, [.ref o1, .ref o2, .ref o3, .ref o4, .ref o5, .ref o6, .int (nI (n + 1)), .int (nI vc)])), (o1, .inl (cI, 24, .inl (upd ops n op))), (o2, .inl (cI, 24, .inl (upd lf n x))), (o3, .inl (cI, 24, .inl (upd rg n y))), (o4, .inl (cI, 24, .inl (fun z9 => nI ((uN E n (n + 1)) z9)))), (o5, .inl (cI, 24, .inl (fun z9 => nI ((uN U n 0) z9)))), (o6, .inl (cI, 24, .inl (fun z9 => nI ((uN P n (prc dp)) z9))))] H := hP
        have hD : va_D A [(h, .inr (1, [.ref o1, .ref o2, .ref o3, .ref o4, .ref o5, .ref o6, .int (nI (n + 1)), .int (nI vc)])), (o1, .inl (cI, 24, .inl (upd ops n op))), (o2, .inl (cI, 24, .inl (upd lf n x))), (o3, .inl (cI, 24, .inl (upd rg n y))), (o4, .inl (cI, 24, .inl (fun z9 => nI ((uN E n (n + 1)) z9)))), (o5, .inl (cI, 24, .inl (fun z9 => nI ((uN U n 0) z9)))), (o6, .inl (cI, 24, .inl (fun z9 => nI ((uN P n (prc dp)) z9))))] := hD
        have eE := show apE E n op (x) (y) = _ from (by unfold apE; rw [nuE_f c2, nuE_f c1])
        have eU := show apU U n op (x) (y) = _ from (by unfold apU; rw [nuU_f c2, nuU_f c1])
        have eP := show apP P n op (x) (y) dp = _ from (by unfold apP; rw [nuP_f c2, nuP_f c1])
        have eV : apV vc op = vc := if_pos c3
        have hP9 : va_P (dC, dI) vwCl [(h, .inr (1, [.ref o1, .ref o2, .ref o3, .ref o4, .ref o5, .ref o6, .int (nI (n + 1)), .int (nI (apV vc op))])), (o1, .inl (cI, 24, .inl (upd ops n op))), (o2, .inl (cI, 24, .inl (upd lf n x))), (o3, .inl (cI, 24, .inl (upd rg n y))), (o4, .inl (cI, 24, .inl (fun z9 => nI ((apE E n op x y) z9)))), (o5, .inl (cI, 24, .inl (fun z9 => nI ((apU U n op x y) z9)))), (o6, .inl (cI, 24, .inl (fun z9 => nI ((apP P n op x y dp) z9))))] _ := (by rw [eE, eU, eP, eV]; exact hP.sub [0, 1, 2, 3, 4, 5, 6] rfl)
        have hD9 : va_D A [(h, .inr (1, [.ref o1, .ref o2, .ref o3, .ref o4, .ref o5, .ref o6, .int (nI (n + 1)), .int (nI (apV vc op))])), (o1, .inl (cI, 24, .inl (upd ops n op))), (o2, .inl (cI, 24, .inl (upd lf n x))), (o3, .inl (cI, 24, .inl (upd rg n y))), (o4, .inl (cI, 24, .inl (fun z9 => nI ((apE E n op x y) z9)))), (o5, .inl (cI, 24, .inl (fun z9 => nI ((apU U n op x y) z9)))), (o6, .inl (cI, 24, .inl (fun z9 => nI ((apP P n op x y dp) z9))))] := (by rw [eE, eU, eP, eV]; exact hD.sub [0, 1, 2, 3, 4, 5, 6] (by decide) rfl)
        exact W.vret hx hb hr (fun t ht hW => ⟨⟨(), rfl, trivial, by rw [ht]; exact hP9, va_K.moved hW.alike hK, hD9⟩, hS.F ht⟩) hS.2.2 d_Co_append_116
      · refine lv_aload_n hx hb d_Co_append_96 rfl (lv_at hl 1 rfl) ?_
        refine lv_dup hx hb d_Co_append_97 rfl ?_
        refine va_get (D := (dC, dI)) (ci := 1) (v := .int (nI vc)) (C := R_Co) (T := T_Co) (N := 8) hx hb hg in_Co hown hK hP 0 rfl rfl 7 (by decide) (hg _ tw_36) (fun _ h9 => h9) rfl d_Co_append_98 ?_
        refine lv_iconst (v := 1) hx hb d_Co_append_101 (by decide) ?_
        refine wb_iadd hx hb vc 1 rfl rfl d_Co_append_102 ?_
        refine va_put (D := (dC, dI)) (ci := 1) (v := .int (nI (vc + 1))) (ty := .int) (C := R_Co) (T := T_Co) (N := 8) hx hb hg in_Co ty_Co tyok_Co nm_Co hown hK hP hD hS 0 rfl rfl 7 (by decide) (hg _ tw_36) (fun _ h9 => h9) rfl (by decide +kernel) rfl rfl (Nat.le_of_ble_eq_true rfl) d_Co_append_103 (fun H locs hP hD hS => ?_)
        have hP : va_P (dC, dI) vwCl [(h, .inr (1, [.ref o1, .ref o2, .ref o3, .ref o4, .ref o5, .ref o6, .int (nI n), .int (nI (vc + 1))])), (o1, .inl (cI, 24, .inl (upd ops n op))), (o2, .inl (cI, 24, .inl (upd lf n x))), (o3, .inl (cI, 24, .inl (upd rg n y))), (o4, .inl (cI, 24, .inl (fun z9 => nI ((uN E n (n + 1)) z9)))), (o5, .inl (cI, 24, .inl (fun z9 => nI ((uN U n 0) z9)))), (o6, .inl (cI, 24, .inl (fun z9 => nI ((uN P n (prc dp)) z9))))] H := hP
        have hD : va_D A [(h, .inr (1, [.ref o1, .ref o2, .ref o3, .ref o4, .ref o5, .ref o6, .int (nI n), .int (nI (vc + 1))])), (o1, .inl (cI, 24, .inl (upd ops n op))), (o2, .inl (cI, 24, .inl (upd lf n x))), (o3, .inl (cI, 24, .inl (upd rg n y))), (o4, .inl (cI, 24, .inl (fun z9 => nI ((uN E n (n + 1)) z9)))), (o5, .inl (cI, 24, .inl (fun z9 => nI ((uN U n 0) z9)))), (o6, .inl (cI, 24, .inl (fun z9 => nI ((uN P n (prc dp)) z9))))] := hD
        refine lv_aload_n hx hb d_Co_append_106 rfl (lv_at hl 1 rfl) ?_
        refine lv_dup hx hb d_Co_append_107 rfl ?_
        refine va_get (D := (dC, dI)) (ci := 1) (v := .int (nI n)) (C := R_Co) (T := T_Co) (N := 8) hx hb hg in_Co hown hK hP 0 rfl rfl 6 (by decide) (hg _ tw_35) (fun _ h9 => h9) rfl d_Co_append_108 ?_
        refine lv_iconst (v := 1) hx hb d_Co_append_111 (by decide) ?_
        refine wb_iadd hx hb n 1 rfl rfl d_Co_append_112 ?_
        refine va_put (D := (dC, dI)) (ci := 1) (v := .int (nI (n + 1))) (ty := .int) (C := R_Co) (T := T_Co) (N := 8) hx hb hg in_Co ty_Co tyok_Co nm_Co hown hK hP hD hS 0 rfl rfl 6 (by decide) (hg _ tw_35) (fun _ h9 => h9) rfl (by decide +kernel) rfl rfl (Nat.le_of_ble_eq_true rfl) d_Co_append_113 (fun H locs hP hD hS => ?_)
        have hP : va_P (dC, dI) vwCl [(h, .inr (1, [.ref o1, .ref o2, .ref o3, .ref o4, .ref o5, .ref o6, .int (nI (n + 1)), .int (nI (vc + 1))])), (o1, .inl (cI, 24, .inl (upd ops n op))), (o2, .inl (cI, 24, .inl (upd lf n x))), (o3, .inl (cI, 24, .inl (upd rg n y))), (o4, .inl (cI, 24, .inl (fun z9 => nI ((uN E n (n + 1)) z9)))), (o5, .inl (cI, 24, .inl (fun z9 => nI ((uN U n 0) z9)))), (o6, .inl (cI, 24, .inl (fun z9 => nI ((uN P n (prc dp)) z9))))] H := hP
        have hD : va_D A [(h, .inr (1, [.ref o1, .ref o2, .ref o3, .ref o4, .ref o5, .ref o6, .int (nI (n + 1)), .int (nI (vc + 1))])), (o1, .inl (cI, 24, .inl (upd ops n op))), (o2, .inl (cI, 24, .inl (upd lf n x))), (o3, .inl (cI, 24, .inl (upd rg n y))), (o4, .inl (cI, 24, .inl (fun z9 => nI ((uN E n (n + 1)) z9)))), (o5, .inl (cI, 24, .inl (fun z9 => nI ((uN U n 0) z9)))), (o6, .inl (cI, 24, .inl (fun z9 => nI ((uN P n (prc dp)) z9))))] := hD
        have eE := show apE E n op (x) (y) = _ from (by unfold apE; rw [nuE_f c2, nuE_f c1])
        have eU := show apU U n op (x) (y) = _ from (by unfold apU; rw [nuU_f c2, nuU_f c1])
        have eP := show apP P n op (x) (y) dp = _ from (by unfold apP; rw [nuP_f c2, nuP_f c1])
        have eV : apV vc op = vc + 1 := if_neg c3
        have hP9 : va_P (dC, dI) vwCl [(h, .inr (1, [.ref o1, .ref o2, .ref o3, .ref o4, .ref o5, .ref o6, .int (nI (n + 1)), .int (nI (apV vc op))])), (o1, .inl (cI, 24, .inl (upd ops n op))), (o2, .inl (cI, 24, .inl (upd lf n x))), (o3, .inl (cI, 24, .inl (upd rg n y))), (o4, .inl (cI, 24, .inl (fun z9 => nI ((apE E n op x y) z9)))), (o5, .inl (cI, 24, .inl (fun z9 => nI ((apU U n op x y) z9)))), (o6, .inl (cI, 24, .inl (fun z9 => nI ((apP P n op x y dp) z9))))] _ := (by rw [eE, eU, eP, eV]; exact hP.sub [0, 1, 2, 3, 4, 5, 6] rfl)
        have hD9 : va_D A [(h, .inr (1, [.ref o1, .ref o2, .ref o3, .ref o4, .ref o5, .ref o6, .int (nI (n + 1)), .int (nI (apV vc op))])), (o1, .inl (cI, 24, .inl (upd ops n op))), (o2, .inl (cI, 24, .inl (upd lf n x))), (o3, .inl (cI, 24, .inl (upd rg n y))), (o4, .inl (cI, 24, .inl (fun z9 => nI ((apE E n op x y) z9)))), (o5, .inl (cI, 24, .inl (fun z9 => nI ((apU U n op x y) z9)))), (o6, .inl (cI, 24, .inl (fun z9 => nI ((apP P n op x y dp) z9))))] := (by rw [eE, eU, eP, eV]; exact hD.sub [0, 1, 2, 3, 4, 5, 6] (by decide) rfl)
        exact W.vret hx hb hr (fun t ht hW => ⟨⟨(), rfl, trivial, by rw [ht]; exact hP9, va_K.moved hW.alike hK, hD9⟩, hS.F ht⟩) hS.2.2 d_Co_append_116
    · obtain ⟨k, hk, rfl⟩ := hya c2
      refine lv_aload_n hx hb d_Co_append_83 rfl (lv_at hl 1 rfl) ?_
      refine lv_iload_n hx hb d_Co_append_84 rfl (lv_at hl 4 rfl) ?_
      refine lv_iload hx hb d_Co_append_85 (lv_at hl 0 rfl) ?_
      refine chVv (ci := 1) (q0 := 0) (wr := []) (As := [.int (nI k), .int (nI n)]) (rest := []) ⟨hx, hb, hml, hown, hg⟩ (c_Co_noteUse l dC dI cI h o1 o2 o3 o4 o5 o6 n vc (upd ops n op) (upd lf n x) (upd rg n (nI k)) (uN E n (n + 1)) (uN U n 0) (uN P n (prc dp)) k n _ (Nat.lt_trans hk hn1) hn1) (cwV 2 hg (tg_V tw_251 tw_253 sp_Co_noteUse tw_2 tw_254) rfl rfl rfl (by decide +kernel) ⟨Nat.le_of_ble_eq_true rfl, Nat.le_of_ble_eq_true rfl⟩) (hK.sub [0] rfl) hP hD hS hA [0, 1, 2, 3, 4, 5, 6] [] rfl rfl (by decide) (by decide) (by decide) rfl rfl rfl hl.1 rfl (lv_room (Nat.le_of_ble_eq_true rfl)) d_Co_append_87 ⟨Nat.le_of_ble_eq_true rfl, Nat.le_of_ble_eq_true rfl⟩ (fun u4 H locs w5 hP hD hS => ?_)
      have hP : va_P (dC, dI) vwCl [(h, .inr (1, [.ref o1, .ref o2, .ref o3, .ref o4, .ref o5, .ref o6, .int (nI n), .int (nI vc)])), (o1, .inl (cI, 24, .inl ((upd ops n op)))), (o2, .inl (cI, 24, .inl ((upd lf n x)))), (o3, .inl (cI, 24, .inl ((upd rg n (nI k))))), (o4, .inl (cI, 24, .inl (fun z9 => nI ((uN (uN E n (n + 1)) k n) z9)))), (o5, .inl (cI, 24, .inl (fun z9 => nI ((uN (uN U n 0) k ((uN U n 0) k + 1)) z9)))), (o6, .inl (cI, 24, .inl (fun z9 => nI ((uN (uN P n (prc dp)) k ((uN P n (prc dp)) k + (uN P n (prc dp)) n)) z9))))] H := hP
      have hD : va_D A [(h, .inr (1, [.ref o1, .ref o2, .ref o3, .ref o4, .ref o5, .ref o6, .int (nI n), .int (nI vc)])), (o1, .inl (cI, 24, .inl ((upd ops n op)))), (o2, .inl (cI, 24, .inl ((upd lf n x)))), (o3, .inl (cI, 24, .inl ((upd rg n (nI k))))), (o4, .inl (cI, 24, .inl (fun z9 => nI ((uN (uN E n (n + 1)) k n) z9)))), (o5, .inl (cI, 24, .inl (fun z9 => nI ((uN (uN U n 0) k ((uN U n 0) k + 1)) z9)))), (o6, .inl (cI, 24, .inl (fun z9 => nI ((uN (uN P n (prc dp)) k ((uN P n (prc dp)) k + (uN P n (prc dp)) n)) z9))))] := hD
      refine lv_iload_n hx hb d_Co_append_90 rfl (lv_at hl 2 rfl) ?_
      refine lv_bipush (v := 6) hx hb d_Co_append_91 (by decide) ?_
      refine lv_icmp_eq (tgt := 106) hx hb d_Co_append_93 (by decide) (fun c6 => ?_) (fun c6 => ?_)
      · refine lv_aload_n hx hb d_Co_append_106 rfl (lv_at hl 1 rfl) ?_
        refine lv_dup hx hb d_Co_append_107 rfl ?_
        refine va_get (D := (dC, dI)) (ci := 1) (v := .int (nI n)) (C := R_Co) (T := T_Co) (N := 8) hx hb hg in_Co hown hK hP 0 rfl rfl 6 (by decide) (hg _ tw_35) (fun _ h9 => h9) rfl d_Co_append_108 ?_
        refine lv_iconst (v := 1) hx hb d_Co_append_111 (by decide) ?_
        refine wb_iadd hx hb n 1 rfl rfl d_Co_append_112 ?_
        refine va_put (D := (dC, dI)) (ci := 1) (v := .int (nI (n + 1))) (ty := .int) (C := R_Co) (T := T_Co) (N := 8) hx hb hg in_Co ty_Co tyok_Co nm_Co hown hK hP hD hS 0 rfl rfl 6 (by decide) (hg _ tw_35) (fun _ h9 => h9) rfl (by decide +kernel) rfl rfl (Nat.le_of_ble_eq_true rfl) d_Co_append_113 (fun H locs hP hD hS => ?_)
        have hP : va_P (dC, dI) vwCl [(h, .inr (1, [.ref o1, .ref o2, .ref o3, .ref o4, .ref o5, .ref o6, .int (nI (n + 1)), .int (nI vc)])), (o1, .inl (cI, 24, .inl ((upd ops n op)))), (o2, .inl (cI, 24, .inl ((upd lf n x)))), (o3, .inl (cI, 24, .inl ((upd rg n (nI k))))), (o4, .inl (cI, 24, .inl (fun z9 => nI ((uN (uN E n (n + 1)) k n) z9)))), (o5, .inl (cI, 24, .inl (fun z9 => nI ((uN (uN U n 0) k ((uN U n 0) k + 1)) z9)))), (o6, .inl (cI, 24, .inl (fun z9 => nI ((uN (uN P n (prc dp)) k ((uN P n (prc dp)) k + (uN P n (prc dp)) n)) z9))))] H := hP
        have hD : va_D A [(h, .inr (1, [.ref o1, .ref o2, .ref o3, .ref o4, .ref o5, .ref o6, .int (nI (n + 1)), .int (nI vc)])), (o1, .inl (cI, 24, .inl ((upd ops n op)))), (o2, .inl (cI, 24, .inl ((upd lf n x)))), (o3, .inl (cI, 24, .inl ((upd rg n (nI k))))), (o4, .inl (cI, 24, .inl (fun z9 => nI ((uN (uN E n (n + 1)) k n) z9)))), (o5, .inl (cI, 24, .inl (fun z9 => nI ((uN (uN U n 0) k ((uN U n 0) k + 1)) z9)))), (o6, .inl (cI, 24, .inl (fun z9 => nI ((uN (uN P n (prc dp)) k ((uN P n (prc dp)) k + (uN P n (prc dp)) n)) z9))))] := hD
        have eE := show apE E n op (x) (nI k) = _ from (by unfold apE; rw [nuE_t (j := k) c2 (nI_clamp (by omega)), nuE_f c1])
        have eU := show apU U n op (x) (nI k) = _ from (by unfold apU; rw [nuU_t (j := k) c2 (nI_clamp (by omega)), nuU_f c1])
        have eP := show apP P n op (x) (nI k) dp = _ from (by unfold apP; rw [nuP_t (j := k) c2 (nI_clamp (by omega)), nuP_f c1])
        have eV : apV vc op = vc := if_pos c6
        have hP9 : va_P (dC, dI) vwCl [(h, .inr (1, [.ref o1, .ref o2, .ref o3, .ref o4, .ref o5, .ref o6, .int (nI (n + 1)), .int (nI (apV vc op))])), (o1, .inl (cI, 24, .inl (upd ops n op))), (o2, .inl (cI, 24, .inl (upd lf n x))), (o3, .inl (cI, 24, .inl (upd rg n (nI k)))), (o4, .inl (cI, 24, .inl (fun z9 => nI ((apE E n op x (nI k)) z9)))), (o5, .inl (cI, 24, .inl (fun z9 => nI ((apU U n op x (nI k)) z9)))), (o6, .inl (cI, 24, .inl (fun z9 => nI ((apP P n op x (nI k) dp) z9))))] _ := (by rw [eE, eU, eP, eV]; exact hP.sub [0, 1, 2, 3, 4, 5, 6] rfl)
        have hD9 : va_D A [(h, .inr (1, [.ref o1, .ref o2, .ref o3, .ref o4, .ref o5, .ref o6, .int (nI (n + 1)), .int (nI (apV vc op))])), (o1, .inl (cI, 24, .inl (upd ops n op))), (o2, .inl (cI, 24, .inl (upd lf n x))), (o3, .inl (cI, 24, .inl (upd rg n (nI k)))), (o4, .inl (cI, 24, .inl (fun z9 => nI ((apE E n op x (nI k)) z9)))), (o5, .inl (cI, 24, .inl (fun z9 => nI ((apU U n op x (nI k)) z9)))), (o6, .inl (cI, 24, .inl (fun z9 => nI ((apP P n op x (nI k) dp) z9))))] := (by rw [eE, eU, eP, eV]; exact hD.sub [0, 1, 2, 3, 4, 5, 6] (by decide) rfl)
        exact W.vret hx hb hr (fun t ht hW => ⟨⟨(), rfl, trivial, by rw [ht]; exact hP9, va_K.moved hW.alike hK, hD9⟩, hS.F ht⟩) hS.2.2 d_Co_append_116
      · refine lv_aload_n hx hb d_Co_append_96 rfl (lv_at hl 1 rfl) ?_
        refine lv_dup hx hb d_Co_append_97 rfl ?_
        refine va_get (D := (dC, dI)) (ci := 1) (v := .int (nI vc)) (C := R_Co) (T := T_Co) (N := 8) hx hb hg in_Co hown hK hP 0 rfl rfl 7 (by decide) (hg _ tw_36) (fun _ h9 => h9) rfl d_Co_append_98 ?_
        refine lv_iconst (v := 1) hx hb d_Co_append_101 (by decide) ?_
        refine wb_iadd hx hb vc 1 rfl rfl d_Co_append_102 ?_
        refine va_put (D := (dC, dI)) (ci := 1) (v := .int (nI (vc + 1))) (ty := .int) (C := R_Co) (T := T_Co) (N := 8) hx hb hg in_Co ty_Co tyok_Co nm_Co hown hK hP hD hS 0 rfl rfl 7 (by decide) (hg _ tw_36) (fun _ h9 => h9) rfl (by decide +kernel) rfl rfl (Nat.le_of_ble_eq_true rfl) d_Co_append_103 (fun H locs hP hD hS => ?_)
        have hP : va_P (dC, dI) vwCl [(h, .inr (1, [.ref o1, .ref o2, .ref o3, .ref o4, .ref o5, .ref o6, .int (nI n), .int (nI (vc + 1))])), (o1, .inl (cI, 24, .inl ((upd ops n op)))), (o2, .inl (cI, 24, .inl ((upd lf n x)))), (o3, .inl (cI, 24, .inl ((upd rg n (nI k))))), (o4, .inl (cI, 24, .inl (fun z9 => nI ((uN (uN E n (n + 1)) k n) z9)))), (o5, .inl (cI, 24, .inl (fun z9 => nI ((uN (uN U n 0) k ((uN U n 0) k + 1)) z9)))), (o6, .inl (cI, 24, .inl (fun z9 => nI ((uN (uN P n (prc dp)) k ((uN P n (prc dp)) k + (uN P n (prc dp)) n)) z9))))] H := hP
        have hD : va_D A [(h, .inr (1, [.ref o1, .ref o2, .ref o3, .ref o4, .ref o5, .ref o6, .int (nI n), .int (nI (vc + 1))])), (o1, .inl (cI, 24, .inl ((upd ops n op)))), (o2, .inl (cI, 24, .inl ((upd lf n x)))), (o3, .inl (cI, 24, .inl ((upd rg n (nI k))))), (o4, .inl (cI, 24, .inl (fun z9 => nI ((uN (uN E n (n + 1)) k n) z9)))), (o5, .inl (cI, 24, .inl (fun z9 => nI ((uN (uN U n 0) k ((uN U n 0) k + 1)) z9)))), (o6, .inl (cI, 24, .inl (fun z9 => nI ((uN (uN P n (prc dp)) k ((uN P n (prc dp)) k + (uN P n (prc dp)) n)) z9))))] := hD
        refine lv_aload_n hx hb d_Co_append_106 rfl (lv_at hl 1 rfl) ?_
        refine lv_dup hx hb d_Co_append_107 rfl ?_
        refine va_get (D := (dC, dI)) (ci := 1) (v := .int (nI n)) (C := R_Co) (T := T_Co) (N := 8) hx hb hg in_Co hown hK hP 0 rfl rfl 6 (by decide) (hg _ tw_35) (fun _ h9 => h9) rfl d_Co_append_108 ?_
        refine lv_iconst (v := 1) hx hb d_Co_append_111 (by decide) ?_
        refine wb_iadd hx hb n 1 rfl rfl d_Co_append_112 ?_
        refine va_put (D := (dC, dI)) (ci := 1) (v := .int (nI (n + 1))) (ty := .int) (C := R_Co) (T := T_Co) (N := 8) hx hb hg in_Co ty_Co tyok_Co nm_Co hown hK hP hD hS 0 rfl rfl 6 (by decide) (hg _ tw_35) (fun _ h9 => h9) rfl (by decide +kernel) rfl rfl (Nat.le_of_ble_eq_true rfl) d_Co_append_113 (fun H locs hP hD hS => ?_)
        have hP : va_P (dC, dI) vwCl [(h, .inr (1, [.ref o1, .ref o2, .ref o3, .ref o4, .ref o5, .ref o6, .int (nI (n + 1)), .int (nI (vc + 1))])), (o1, .inl (cI, 24, .inl ((upd ops n op)))), (o2, .inl (cI, 24, .inl ((upd lf n x)))), (o3, .inl (cI, 24, .inl ((upd rg n (nI k))))), (o4, .inl (cI, 24, .inl (fun z9 => nI ((uN (uN E n (n + 1)) k n) z9)))), (o5, .inl (cI, 24, .inl (fun z9 => nI ((uN (uN U n 0) k ((uN U n 0) k + 1)) z9)))), (o6, .inl (cI, 24, .inl (fun z9 => nI ((uN (uN P n (prc dp)) k ((uN P n (prc dp)) k + (uN P n (prc dp)) n)) z9))))] H := hP
        have hD : va_D A [(h, .inr (1, [.ref o1, .ref o2, .ref o3, .ref o4, .ref o5, .ref o6, .int (nI (n + 1)), .int (nI (vc + 1))])), (o1, .inl (cI, 24, .inl ((upd ops n op)))), (o2, .inl (cI, 24, .inl ((upd lf n x)))), (o3, .inl (cI, 24, .inl ((upd rg n (nI k))))), (o4, .inl (cI, 24, .inl (fun z9 => nI ((uN (uN E n (n + 1)) k n) z9)))), (o5, .inl (cI, 24, .inl (fun z9 => nI ((uN (uN U n 0) k ((uN U n 0) k + 1)) z9)))), (o6, .inl (cI, 24, .inl (fun z9 => nI ((uN (uN P n (prc dp)) k ((uN P n (prc dp)) k + (uN P n (prc dp)) n)) z9))))] := hD
        have eE := show apE E n op (x) (nI k) = _ from (by unfold apE; rw [nuE_t (j := k) c2 (nI_clamp (by omega)), nuE_f c1])
        have eU := show apU U n op (x) (nI k) = _ from (by unfold apU; rw [nuU_t (j := k) c2 (nI_clamp (by omega)), nuU_f c1])
        have eP := show apP P n op (x) (nI k) dp = _ from (by unfold apP; rw [nuP_t (j := k) c2 (nI_clamp (by omega)), nuP_f c1])
        have eV : apV vc op = vc + 1 := if_neg c6
        have hP9 : va_P (dC, dI) vwCl [(h, .inr (1, [.ref o1, .ref o2, .ref o3, .ref o4, .ref o5, .ref o6, .int (nI (n + 1)), .int (nI (apV vc op))])), (o1, .inl (cI, 24, .inl (upd ops n op))), (o2, .inl (cI, 24, .inl (upd lf n x))), (o3, .inl (cI, 24, .inl (upd rg n (nI k)))), (o4, .inl (cI, 24, .inl (fun z9 => nI ((apE E n op x (nI k)) z9)))), (o5, .inl (cI, 24, .inl (fun z9 => nI ((apU U n op x (nI k)) z9)))), (o6, .inl (cI, 24, .inl (fun z9 => nI ((apP P n op x (nI k) dp) z9))))] _ := (by rw [eE, eU, eP, eV]; exact hP.sub [0, 1, 2, 3, 4, 5, 6] rfl)
        have hD9 : va_D A [(h, .inr (1, [.ref o1, .ref o2, .ref o3, .ref o4, .ref o5, .ref o6, .int (nI (n + 1)), .int (nI (apV vc op))])), (o1, .inl (cI, 24, .inl (upd ops n op))), (o2, .inl (cI, 24, .inl (upd lf n x))), (o3, .inl (cI, 24, .inl (upd rg n (nI k)))), (o4, .inl (cI, 24, .inl (fun z9 => nI ((apE E n op x (nI k)) z9)))), (o5, .inl (cI, 24, .inl (fun z9 => nI ((apU U n op x (nI k)) z9)))), (o6, .inl (cI, 24, .inl (fun z9 => nI ((apP P n op x (nI k) dp) z9))))] := (by rw [eE, eU, eP, eV]; exact hD.sub [0, 1, 2, 3, 4, 5, 6] (by decide) rfl)
        exact W.vret hx hb hr (fun t ht hW => ⟨⟨(), rfl, trivial, by rw [ht]; exact hP9, va_K.moved hW.alike hK, hD9⟩, hS.F ht⟩) hS.2.2 d_Co_append_116
  · obtain ⟨j, hj, rfl⟩ := hxa c1
    refine lv_aload_n hx hb d_Co_append_69 rfl (lv_at hl 1 rfl) ?_
    refine lv_iload_n hx hb d_Co_append_70 rfl (lv_at hl 3 rfl) ?_
    refine lv_iload hx hb d_Co_append_71 (lv_at hl 0 rfl) ?_
    refine chVv (ci := 1) (q0 := 0) (wr := []) (As := [.int (nI j), .int (nI n)]) (rest := []) ⟨hx, hb, hml, hown, hg⟩ (c_Co_noteUse l dC dI cI h o1 o2 o3 o4 o5 o6 n vc (upd ops n op) (upd lf n (nI j)) (upd rg n y) (uN E n (n + 1)) (uN U n 0) (uN P n (prc dp)) j n _ (Nat.lt_trans hj hn1) hn1) (cwV 2 hg (tg_V tw_251 tw_253 sp_Co_noteUse tw_2 tw_254) rfl rfl rfl (by decide +kernel) ⟨Nat.le_of_ble_eq_true rfl, Nat.le_of_ble_eq_true rfl⟩) (hK.sub [0] rfl) hP hD hS hA [0, 1, 2, 3, 4, 5, 6] [] rfl rfl (by decide) (by decide) (by decide) rfl rfl rfl hl.1 rfl (lv_room (Nat.le_of_ble_eq_true rfl)) d_Co_append_73 ⟨Nat.le_of_ble_eq_true rfl, Nat.le_of_ble_eq_true rfl⟩ (fun u7 H locs w8 hP hD hS => ?_)
    have hP : va_P (dC, dI) vwCl [(h, .inr (1, [.ref o1, .ref o2, .ref o3, .ref o4, .ref o5, .ref o6, .int (nI n), .int (nI vc)])), (o1, .inl (cI, 24, .inl ((upd ops n op)))), (o2, .inl (cI, 24, .inl ((upd lf n (nI j))))), (o3, .inl (cI, 24, .inl ((upd rg n y)))), (o4, .inl (cI, 24, .inl (fun z9 => nI ((uN (uN E n (n + 1)) j n) z9)))), (o5, .inl (cI, 24, .inl (fun z9 => nI ((uN (uN U n 0) j ((uN U n 0) j + 1)) z9)))), (o6, .inl (cI, 24, .inl (fun z9 => nI ((uN (uN P n (prc dp)) j ((uN P n (prc dp)) j + (uN P n (prc dp)) n)) z9))))] H := hP
    have hD : va_D A [(h, .inr (1, [.ref o1, .ref o2, .ref o3, .ref o4, .ref o5, .ref o6, .int (nI n), .int (nI vc)])), (o1, .inl (cI, 24, .inl ((upd ops n op)))), (o2, .inl (cI, 24, .inl ((upd lf n (nI j))))), (o3, .inl (cI, 24, .inl ((upd rg n y)))), (o4, .inl (cI, 24, .inl (fun z9 => nI ((uN (uN E n (n + 1)) j n) z9)))), (o5, .inl (cI, 24, .inl (fun z9 => nI ((uN (uN U n 0) j ((uN U n 0) j + 1)) z9)))), (o6, .inl (cI, 24, .inl (fun z9 => nI ((uN (uN P n (prc dp)) j ((uN P n (prc dp)) j + (uN P n (prc dp)) n)) z9))))] := hD
    refine lv_iload_n hx hb d_Co_append_76 rfl (lv_at hl 2 rfl) ?_
    refine rdS (As := [.int op]) (rest := []) ⟨hx, hb, hml, hown, hg⟩ (c_Co_usesRight l dC dI cI op) (va_cwS 1 hg (tg_S tw_159 tw_160 tw_2 tw_161) rfl rfl rfl (by decide +kernel) ⟨Nat.le_of_ble_eq_true rfl, Nat.le_of_ble_eq_true rfl⟩) (hK.sub [0] rfl) (hP.sub [] rfl) rfl hl.1 rfl (lv_room (Nat.le_of_ble_eq_true rfl)) d_Co_append_77 ⟨Nat.le_of_ble_eq_true rfl, Nat.le_of_ble_eq_true rfl⟩ ?_
    refine wb_if_eqb (tgt := 90) hx hb (uR op) rfl d_Co_append_80 (by decide) (fun c9 => ?_) (fun c9 => ?_)
    · refine lv_iload_n hx hb d_Co_append_90 rfl (lv_at hl 2 rfl) ?_
      refine lv_bipush (v := 6) hx hb d_Co_append_91 (by decide) ?_
      refine lv_icmp_eq (tgt := 106) hx hb d_Co_append_93 (by decide) (fun c10 => ?_) (fun c10 => ?_)
      · refine lv_aload_n hx hb d_Co_append_106 rfl (lv_at hl 1 rfl) ?_
        refine lv_dup hx hb d_Co_append_107 rfl ?_
        refine va_get (D := (dC, dI)) (ci := 1) (v := .int (nI n)) (C := R_Co) (T := T_Co) (N := 8) hx hb hg in_Co hown hK hP 0 rfl rfl 6 (by decide) (hg _ tw_35) (fun _ h9 => h9) rfl d_Co_append_108 ?_
        refine lv_iconst (v := 1) hx hb d_Co_append_111 (by decide) ?_
        refine wb_iadd hx hb n 1 rfl rfl d_Co_append_112 ?_
        refine va_put (D := (dC, dI)) (ci := 1) (v := .int (nI (n + 1))) (ty := .int) (C := R_Co) (T := T_Co) (N := 8) hx hb hg in_Co ty_Co tyok_Co nm_Co hown hK hP hD hS 0 rfl rfl 6 (by decide) (hg _ tw_35) (fun _ h9 => h9) rfl (by decide +kernel) rfl rfl (Nat.le_of_ble_eq_true rfl) d_Co_append_113 (fun H locs hP hD hS => ?_)
        have hP : va_P (dC, dI) vwCl [(h, .inr (1, [.ref o1, .ref o2, .ref o3, .ref o4, .ref o5, .ref o6, .int (nI (n + 1)), .int (nI vc)])), (o1, .inl (cI, 24, .inl ((upd ops n op)))), (o2, .inl (cI, 24, .inl ((upd lf n (nI j))))), (o3, .inl (cI, 24, .inl ((upd rg n y)))), (o4, .inl (cI, 24, .inl (fun z9 => nI ((uN (uN E n (n + 1)) j n) z9)))), (o5, .inl (cI, 24, .inl (fun z9 => nI ((uN (uN U n 0) j ((uN U n 0) j + 1)) z9)))), (o6, .inl (cI, 24, .inl (fun z9 => nI ((uN (uN P n (prc dp)) j ((uN P n (prc dp)) j + (uN P n (prc dp)) n)) z9))))] H := hP
        have hD : va_D A [(h, .inr (1, [.ref o1, .ref o2, .ref o3, .ref o4, .ref o5, .ref o6, .int (nI (n + 1)), .int (nI vc)])), (o1, .inl (cI, 24, .inl ((upd ops n op)))), (o2, .inl (cI, 24, .inl ((upd lf n (nI j))))), (o3, .inl (cI, 24, .inl ((upd rg n y)))), (o4, .inl (cI, 24, .inl (fun z9 => nI ((uN (uN E n (n + 1)) j n) z9)))), (o5, .inl (cI, 24, .inl (fun z9 => nI ((uN (uN U n 0) j ((uN U n 0) j + 1)) z9)))), (o6, .inl (cI, 24, .inl (fun z9 => nI ((uN (uN P n (prc dp)) j ((uN P n (prc dp)) j + (uN P n (prc dp)) n)) z9))))] := hD
        have eE := show apE E n op (nI j) (y) = _ from (by unfold apE; rw [nuE_f c9, nuE_t (j := j) c1 (nI_clamp (by omega))])
        have eU := show apU U n op (nI j) (y) = _ from (by unfold apU; rw [nuU_f c9, nuU_t (j := j) c1 (nI_clamp (by omega))])
        have eP := show apP P n op (nI j) (y) dp = _ from (by unfold apP; rw [nuP_f c9, nuP_t (j := j) c1 (nI_clamp (by omega))])
        have eV : apV vc op = vc := if_pos c10
        have hP9 : va_P (dC, dI) vwCl [(h, .inr (1, [.ref o1, .ref o2, .ref o3, .ref o4, .ref o5, .ref o6, .int (nI (n + 1)), .int (nI (apV vc op))])), (o1, .inl (cI, 24, .inl (upd ops n op))), (o2, .inl (cI, 24, .inl (upd lf n (nI j)))), (o3, .inl (cI, 24, .inl (upd rg n y))), (o4, .inl (cI, 24, .inl (fun z9 => nI ((apE E n op (nI j) y) z9)))), (o5, .inl (cI, 24, .inl (fun z9 => nI ((apU U n op (nI j) y) z9)))), (o6, .inl (cI, 24, .inl (fun z9 => nI ((apP P n op (nI j) y dp) z9))))] _ := (by rw [eE, eU, eP, eV]; exact hP.sub [0, 1, 2, 3, 4, 5, 6] rfl)
        have hD9 : va_D A [(h, .inr (1, [.ref o1, .ref o2, .ref o3, .ref o4, .ref o5, .ref o6, .int (nI (n + 1)), .int (nI (apV vc op))])), (o1, .inl (cI, 24, .inl (upd ops n op))), (o2, .inl (cI, 24, .inl (upd lf n (nI j)))), (o3, .inl (cI, 24, .inl (upd rg n y))), (o4, .inl (cI, 24, .inl (fun z9 => nI ((apE E n op (nI j) y) z9)))), (o5, .inl (cI, 24, .inl (fun z9 => nI ((apU U n op (nI j) y) z9)))), (o6, .inl (cI, 24, .inl (fun z9 => nI ((apP P n op (nI j) y dp) z9))))] := (by rw [eE, eU, eP, eV]; exact hD.sub [0, 1, 2, 3, 4, 5, 6] (by decide) rfl)
        exact W.vret hx hb hr (fun t ht hW => ⟨⟨(), rfl, trivial, by rw [ht]; exact hP9, va_K.moved hW.alike hK, hD9⟩, hS.F ht⟩) hS.2.2 d_Co_append_116
      · refine lv_aload_n hx hb d_Co_append_96 rfl (lv_at hl 1 rfl) ?_
        refine lv_dup hx hb d_Co_append_97 rfl ?_
        refine va_get (D := (dC, dI)) (ci := 1) (v := .int (nI vc)) (C := R_Co) (T := T_Co) (N := 8) hx hb hg in_Co hown hK hP 0 rfl rfl 7 (by decide) (hg _ tw_36) (fun _ h9 => h9) rfl d_Co_append_98 ?_
        refine lv_iconst (v := 1) hx hb d_Co_append_101 (by decide) ?_
        refine wb_iadd hx hb vc 1 rfl rfl d_Co_append_102 ?_
        refine va_put (D := (dC, dI)) (ci := 1) (v := .int (nI (vc + 1))) (ty := .int) (C := R_Co) (T := T_Co) (N := 8) hx hb hg in_Co ty_Co tyok_Co nm_Co hown hK hP hD hS 0 rfl rfl 7 (by decide) (hg _ tw_36) (fun _ h9 => h9) rfl (by decide +kernel) rfl rfl (Nat.le_of_ble_eq_true rfl) d_Co_append_103 (fun H locs hP hD hS => ?_)
        have hP : va_P (dC, dI) vwCl [(h, .inr (1, [.ref o1, .ref o2, .ref o3, .ref o4, .ref o5, .ref o6, .int (nI n), .int (nI (vc + 1))])), (o1, .inl (cI, 24, .inl ((upd ops n op)))), (o2, .inl (cI, 24, .inl ((upd lf n (nI j))))), (o3, .inl (cI, 24, .inl ((upd rg n y)))), (o4, .inl (cI, 24, .inl (fun z9 => nI ((uN (uN E n (n + 1)) j n) z9)))), (o5, .inl (cI, 24, .inl (fun z9 => nI ((uN (uN U n 0) j ((uN U n 0) j + 1)) z9)))), (o6, .inl (cI, 24, .inl (fun z9 => nI ((uN (uN P n (prc dp)) j ((uN P n (prc dp)) j + (uN P n (prc dp)) n)) z9))))] H := hP
        have hD : va_D A [(h, .inr (1, [.ref o1, .ref o2, .ref o3, .ref o4, .ref o5, .ref o6, .int (nI n), .int (nI (vc + 1))])), (o1, .inl (cI, 24, .inl ((upd ops n op)))), (o2, .inl (cI, 24, .inl ((upd lf n (nI j))))), (o3, .inl (cI, 24, .inl ((upd rg n y)))), (o4, .inl (cI, 24, .inl (fun z9 => nI ((uN (uN E n (n + 1)) j n) z9)))), (o5, .inl (cI, 24, .inl (fun z9 => nI ((uN (uN U n 0) j ((uN U n 0) j + 1)) z9)))), (o6, .inl (cI, 24, .inl (fun z9 => nI ((uN (uN P n (prc dp)) j ((uN P n (prc dp)) j + (uN P n (prc dp)) n)) z9))))] := hD
        refine lv_aload_n hx hb d_Co_append_106 rfl (lv_at hl 1 rfl) ?_
        refine lv_dup hx hb d_Co_append_107 rfl ?_
        refine va_get (D := (dC, dI)) (ci := 1) (v := .int (nI n)) (C := R_Co) (T := T_Co) (N := 8) hx hb hg in_Co hown hK hP 0 rfl rfl 6 (by decide) (hg _ tw_35) (fun _ h9 => h9) rfl d_Co_append_108 ?_
        refine lv_iconst (v := 1) hx hb d_Co_append_111 (by decide) ?_
        refine wb_iadd hx hb n 1 rfl rfl d_Co_append_112 ?_
        refine va_put (D := (dC, dI)) (ci := 1) (v := .int (nI (n + 1))) (ty := .int) (C := R_Co) (T := T_Co) (N := 8) hx hb hg in_Co ty_Co tyok_Co nm_Co hown hK hP hD hS 0 rfl rfl 6 (by decide) (hg _ tw_35) (fun _ h9 => h9) rfl (by decide +kernel) rfl rfl (Nat.le_of_ble_eq_true rfl) d_Co_append_113 (fun H locs hP hD hS => ?_)
        have hP : va_P (dC, dI) vwCl [(h, .inr (1, [.ref o1, .ref o2, .ref o3, .ref o4, .ref o5, .ref o6, .int (nI (n + 1)), .int (nI (vc + 1))])), (o1, .inl (cI, 24, .inl ((upd ops n op)))), (o2, .inl (cI, 24, .inl ((upd lf n (nI j))))), (o3, .inl (cI, 24, .inl ((upd rg n y)))), (o4, .inl (cI, 24, .inl (fun z9 => nI ((uN (uN E n (n + 1)) j n) z9)))), (o5, .inl (cI, 24, .inl (fun z9 => nI ((uN (uN U n 0) j ((uN U n 0) j + 1)) z9)))), (o6, .inl (cI, 24, .inl (fun z9 => nI ((uN (uN P n (prc dp)) j ((uN P n (prc dp)) j + (uN P n (prc dp)) n)) z9))))] H := hP
        have hD : va_D A [(h, .inr (1, [.ref o1, .ref o2, .ref o3, .ref o4, .ref o5, .ref o6, .int (nI (n + 1)), .int (nI (vc + 1))])), (o1, .inl (cI, 24, .inl ((upd ops n op)))), (o2, .inl (cI, 24, .inl ((upd lf n (nI j))))), (o3, .inl (cI, 24, .inl ((upd rg n y)))), (o4, .inl (cI, 24, .inl (fun z9 => nI ((uN (uN E n (n + 1)) j n) z9)))), (o5, .inl (cI, 24, .inl (fun z9 => nI ((uN (uN U n 0) j ((uN U n 0) j + 1)) z9)))), (o6, .inl (cI, 24, .inl (fun z9 => nI ((uN (uN P n (prc dp)) j ((uN P n (prc dp)) j + (uN P n (prc dp)) n)) z9))))] := hD
        have eE := show apE E n op (nI j) (y) = _ from (by unfold apE; rw [nuE_f c9, nuE_t (j := j) c1 (nI_clamp (by omega))])
        have eU := show apU U n op (nI j) (y) = _ from (by unfold apU; rw [nuU_f c9, nuU_t (j := j) c1 (nI_clamp (by omega))])
        have eP := show apP P n op (nI j) (y) dp = _ from (by unfold apP; rw [nuP_f c9, nuP_t (j := j) c1 (nI_clamp (by omega))])
        have eV : apV vc op = vc + 1 := if_neg c10
        have hP9 : va_P (dC, dI) vwCl [(h, .inr (1, [.ref o1, .ref o2, .ref o3, .ref o4, .ref o5, .ref o6, .int (nI (n + 1)), .int (nI (apV vc op))])), (o1, .inl (cI, 24, .inl (upd ops n op))), (o2, .inl (cI, 24, .inl (upd lf n (nI j)))), (o3, .inl (cI, 24, .inl (upd rg n y))), (o4, .inl (cI, 24, .inl (fun z9 => nI ((apE E n op (nI j) y) z9)))), (o5, .inl (cI, 24, .inl (fun z9 => nI ((apU U n op (nI j) y) z9)))), (o6, .inl (cI, 24, .inl (fun z9 => nI ((apP P n op (nI j) y dp) z9))))] _ := (by rw [eE, eU, eP, eV]; exact hP.sub [0, 1, 2, 3, 4, 5, 6] rfl)
        have hD9 : va_D A [(h, .inr (1, [.ref o1, .ref o2, .ref o3, .ref o4, .ref o5, .ref o6, .int (nI (n + 1)), .int (nI (apV vc op))])), (o1, .inl (cI, 24, .inl (upd ops n op))), (o2, .inl (cI, 24, .inl (upd lf n (nI j)))), (o3, .inl (cI, 24, .inl (upd rg n y))), (o4, .inl (cI, 24, .inl (fun z9 => nI ((apE E n op (nI j) y) z9)))), (o5, .inl (cI, 24, .inl (fun z9 => nI ((apU U n op (nI j) y) z9)))), (o6, .inl (cI, 24, .inl (fun z9 => nI ((apP P n op (nI j) y dp) z9))))] := (by rw [eE, eU, eP, eV]; exact hD.sub [0, 1, 2, 3, 4, 5, 6] (by decide) rfl)
        exact W.vret hx hb hr (fun t ht hW => ⟨⟨(), rfl, trivial, by rw [ht]; exact hP9, va_K.moved hW.alike hK, hD9⟩, hS.F ht⟩) hS.2.2 d_Co_append_116
    · obtain ⟨k, hk, rfl⟩ := hya c9
      refine lv_aload_n hx hb d_Co_append_83 rfl (lv_at hl 1 rfl) ?_
      refine lv_iload_n hx hb d_Co_append_84 rfl (lv_at hl 4 rfl) ?_
      refine lv_iload hx hb d_Co_append_85 (lv_at hl 0 rfl) ?_
      refine chVv (ci := 1) (q0 := 0) (wr := []) (As := [.int (nI k), .int (nI n)]) (rest := []) ⟨hx, hb, hml, hown, hg⟩ (c_Co_noteUse l dC dI cI h o1 o2 o3 o4 o5 o6 n vc ((upd ops n op)) ((upd lf n (nI j))) ((upd rg n (nI k))) (uN (uN E n (n + 1)) j n) (uN (uN U n 0) j ((uN U n 0) j + 1)) (uN (uN P n (prc dp)) j ((uN P n (prc dp)) j + (uN P n (prc dp)) n)) k n _ (Nat.lt_trans hk hn1) hn1) (cwV 2 hg (tg_V tw_251 tw_253 sp_Co_noteUse tw_2 tw_254) rfl rfl rfl (by decide +kernel) ⟨Nat.le_of_ble_eq_true rfl, Nat.le_of_ble_eq_true rfl⟩) (hK.sub [0] rfl) hP hD hS hA [0, 1, 2, 3, 4, 5, 6] [] rfl rfl (by decide) (by decide) (by decide) rfl rfl rfl hl.1 rfl (lv_room (Nat.le_of_ble_eq_true rfl)) d_Co_append_87 ⟨Nat.le_of_ble_eq_true rfl, Nat.le_of_ble_eq_true rfl⟩ (fun u11 H locs w12 hP hD hS => ?_)
      have hP : va_P (dC, dI) vwCl [(h, .inr (1, [.ref o1, .ref o2, .ref o3, .ref o4, .ref o5, .ref o6, .int (nI n), .int (nI vc)])), (o1, .inl (cI, 24, .inl (((upd ops n op))))), (o2, .inl (cI, 24, .inl (((upd lf n (nI j)))))), (o3, .inl (cI, 24, .inl (((upd rg n (nI k)))))), (o4, .inl (cI, 24, .inl (fun z9 => nI ((uN (uN (uN E n (n + 1)) j n) k n) z9)))), (o5, .inl (cI, 24, .inl (fun z9 => nI ((uN (uN (uN U n 0) j ((uN U n 0) j + 1)) k ((uN (uN U n 0) j ((uN U n 0) j + 1)) k + 1)) z9)))), (o6, .inl (cI, 24, .inl (fun z9 => nI ((uN (uN (uN P n (prc dp)) j ((uN P n (prc dp)) j + (uN P n (prc dp)) n)) k ((uN (uN P n (prc dp)) j ((uN P n (prc dp)) j + (uN P n (prc dp)) n)) k + (uN (uN P n (prc dp)) j ((uN P n (prc dp)) j + (uN P n (prc dp)) n)) n)) z9))))] H := hP
      have hD : va_D A [(h, .inr (1, [.ref o1, .ref o2, .ref o3, .ref o4, .ref o5, .ref o6, .int (nI n), .int (nI vc)])), (o1, .inl (cI, 24, .inl (((upd ops n op))))), (o2, .inl (cI, 24, .inl (((upd lf n (nI j)))))), (o3, .inl (cI, 24, .inl (((upd rg n (nI k)))))), (o4, .inl (cI, 24, .inl (fun z9 => nI ((uN (uN (uN E n (n + 1)) j n) k n) z9)))), (o5, .inl (cI, 24, .inl (fun z9 => nI ((uN (uN (uN U n 0) j ((uN U n 0) j + 1)) k ((uN (uN U n 0) j ((uN U n 0) j + 1)) k + 1)) z9)))), (o6, .inl (cI, 24, .inl (fun z9 => nI ((uN (uN (uN P n (prc dp)) j ((uN P n (prc dp)) j + (uN P n (prc dp)) n)) k ((uN (uN P n (prc dp)) j ((uN P n (prc dp)) j + (uN P n (prc dp)) n)) k + (uN (uN P n (prc dp)) j ((uN P n (prc dp)) j + (uN P n (prc dp)) n)) n)) z9))))] := hD
      refine lv_iload_n hx hb d_Co_append_90 rfl (lv_at hl 2 rfl) ?_
      refine lv_bipush (v := 6) hx hb d_Co_append_91 (by decide) ?_
      refine lv_icmp_eq (tgt := 106) hx hb d_Co_append_93 (by decide) (fun c13 => ?_) (fun c13 => ?_)
      · refine lv_aload_n hx hb d_Co_append_106 rfl (lv_at hl 1 rfl) ?_
        refine lv_dup hx hb d_Co_append_107 rfl ?_
        refine va_get (D := (dC, dI)) (ci := 1) (v := .int (nI n)) (C := R_Co) (T := T_Co) (N := 8) hx hb hg in_Co hown hK hP 0 rfl rfl 6 (by decide) (hg _ tw_35) (fun _ h9 => h9) rfl d_Co_append_108 ?_
        refine lv_iconst (v := 1) hx hb d_Co_append_111 (by decide) ?_
        refine wb_iadd hx hb n 1 rfl rfl d_Co_append_112 ?_
        refine va_put (D := (dC, dI)) (ci := 1) (v := .int (nI (n + 1))) (ty := .int) (C := R_Co) (T := T_Co) (N := 8) hx hb hg in_Co ty_Co tyok_Co nm_Co hown hK hP hD hS 0 rfl rfl 6 (by decide) (hg _ tw_35) (fun _ h9 => h9) rfl (by decide +kernel) rfl rfl (Nat.le_of_ble_eq_true rfl) d_Co_append_113 (fun H locs hP hD hS => ?_)
        have hP : va_P (dC, dI) vwCl [(h, .inr (1, [.ref o1, .ref o2, .ref o3, .ref o4, .ref o5, .ref o6, .int (nI (n + 1)), .int (nI vc)])), (o1, .inl (cI, 24, .inl (((upd ops n op))))), (o2, .inl (cI, 24, .inl (((upd lf n (nI j)))))), (o3, .inl (cI, 24, .inl (((upd rg n (nI k)))))), (o4, .inl (cI, 24, .inl (fun z9 => nI ((uN (uN (uN E n (n + 1)) j n) k n) z9)))), (o5, .inl (cI, 24, .inl (fun z9 => nI ((uN (uN (uN U n 0) j ((uN U n 0) j + 1)) k ((uN (uN U n 0) j ((uN U n 0) j + 1)) k + 1)) z9)))), (o6, .inl (cI, 24, .inl (fun z9 => nI ((uN (uN (uN P n (prc dp)) j ((uN P n (prc dp)) j + (uN P n (prc dp)) n)) k ((uN (uN P n (prc dp)) j ((uN P n (prc dp)) j + (uN P n (prc dp)) n)) k + (uN (uN P n (prc dp)) j ((uN P n (prc dp)) j + (uN P n (prc dp)) n)) n)) z9))))] H := hP
        have hD : va_D A [(h, .inr (1, [.ref o1, .ref o2, .ref o3, .ref o4, .ref o5, .ref o6, .int (nI (n + 1)), .int (nI vc)])), (o1, .inl (cI, 24, .inl (((upd ops n op))))), (o2, .inl (cI, 24, .inl (((upd lf n (nI j)))))), (o3, .inl (cI, 24, .inl (((upd rg n (nI k)))))), (o4, .inl (cI, 24, .inl (fun z9 => nI ((uN (uN (uN E n (n + 1)) j n) k n) z9)))), (o5, .inl (cI, 24, .inl (fun z9 => nI ((uN (uN (uN U n 0) j ((uN U n 0) j + 1)) k ((uN (uN U n 0) j ((uN U n 0) j + 1)) k + 1)) z9)))), (o6, .inl (cI, 24, .inl (fun z9 => nI ((uN (uN (uN P n (prc dp)) j ((uN P n (prc dp)) j + (uN P n (prc dp)) n)) k ((uN (uN P n (prc dp)) j ((uN P n (prc dp)) j + (uN P n (prc dp)) n)) k + (uN (uN P n (prc dp)) j ((uN P n (prc dp)) j + (uN P n (prc dp)) n)) n)) z9))))] := hD
        have eE := show apE E n op (nI j) (nI k) = _ from (by unfold apE; rw [nuE_t (j := k) c9 (nI_clamp (by omega)), nuE_t (j := j) c1 (nI_clamp (by omega))])
        have eU := show apU U n op (nI j) (nI k) = _ from (by unfold apU; rw [nuU_t (j := k) c9 (nI_clamp (by omega)), nuU_t (j := j) c1 (nI_clamp (by omega))])
        have eP := show apP P n op (nI j) (nI k) dp = _ from (by unfold apP; rw [nuP_t (j := k) c9 (nI_clamp (by omega)), nuP_t (j := j) c1 (nI_clamp (by omega))])
        have eV : apV vc op = vc := if_pos c13
        have hP9 : va_P (dC, dI) vwCl [(h, .inr (1, [.ref o1, .ref o2, .ref o3, .ref o4, .ref o5, .ref o6, .int (nI (n + 1)), .int (nI (apV vc op))])), (o1, .inl (cI, 24, .inl (upd ops n op))), (o2, .inl (cI, 24, .inl (upd lf n (nI j)))), (o3, .inl (cI, 24, .inl (upd rg n (nI k)))), (o4, .inl (cI, 24, .inl (fun z9 => nI ((apE E n op (nI j) (nI k)) z9)))), (o5, .inl (cI, 24, .inl (fun z9 => nI ((apU U n op (nI j) (nI k)) z9)))), (o6, .inl (cI, 24, .inl (fun z9 => nI ((apP P n op (nI j) (nI k) dp) z9))))] _ := (by rw [eE, eU, eP, eV]; exact hP.sub [0, 1, 2, 3, 4, 5, 6] rfl)
        have hD9 : va_D A [(h, .inr (1, [.ref o1, .ref o2, .ref o3, .ref o4, .ref o5, .ref o6, .int (nI (n + 1)), .int (nI (apV vc op))])), (o1, .inl (cI, 24, .inl (upd ops n op))), (o2, .inl (cI, 24, .inl (upd lf n (nI j)))), (o3, .inl (cI, 24, .inl (upd rg n (nI k)))), (o4, .inl (cI, 24, .inl (fun z9 => nI ((apE E n op (nI j) (nI k)) z9)))), (o5, .inl (cI, 24, .inl (fun z9 => nI ((apU U n op (nI j) (nI k)) z9)))), (o6, .inl (cI, 24, .inl (fun z9 => nI ((apP P n op (nI j) (nI k) dp) z9))))] := (by rw [eE, eU, eP, eV]; exact hD.sub [0, 1, 2, 3, 4, 5, 6] (by decide) rfl)
        exact W.vret hx hb hr (fun t ht hW => ⟨⟨(), rfl, trivial, by rw [ht]; exact hP9, va_K.moved hW.alike hK, hD9⟩, hS.F ht⟩) hS.2.2 d_Co_append_116
      · refine lv_aload_n hx hb d_Co_append_96 rfl (lv_at hl 1 rfl) ?_
        refine lv_dup hx hb d_Co_append_97 rfl ?_
        refine va_get (D := (dC, dI)) (ci := 1) (v := .int (nI vc)) (C := R_Co) (T := T_Co) (N := 8) hx hb hg in_Co hown hK hP 0 rfl rfl 7 (by decide) (hg _ tw_36) (fun _ h9 => h9) rfl d_Co_append_98 ?_
        refine lv_iconst (v := 1) hx hb d_Co_append_101 (by decide) ?_
        refine wb_iadd hx hb vc 1 rfl rfl d_Co_append_102 ?_
        refine va_put (D := (dC, dI)) (ci := 1) (v := .int (nI (vc + 1))) (ty := .int) (C := R_Co) (T := T_Co) (N := 8) hx hb hg in_Co ty_Co tyok_Co nm_Co hown hK hP hD hS 0 rfl rfl 7 (by decide) (hg _ tw_36) (fun _ h9 => h9) rfl (by decide +kernel) rfl rfl (Nat.le_of_ble_eq_true rfl) d_Co_append_103 (fun H locs hP hD hS => ?_)
        have hP : va_P (dC, dI) vwCl [(h, .inr (1, [.ref o1, .ref o2, .ref o3, .ref o4, .ref o5, .ref o6, .int (nI n), .int (nI (vc + 1))])), (o1, .inl (cI, 24, .inl (((upd ops n op))))), (o2, .inl (cI, 24, .inl (((upd lf n (nI j)))))), (o3, .inl (cI, 24, .inl (((upd rg n (nI k)))))), (o4, .inl (cI, 24, .inl (fun z9 => nI ((uN (uN (uN E n (n + 1)) j n) k n) z9)))), (o5, .inl (cI, 24, .inl (fun z9 => nI ((uN (uN (uN U n 0) j ((uN U n 0) j + 1)) k ((uN (uN U n 0) j ((uN U n 0) j + 1)) k + 1)) z9)))), (o6, .inl (cI, 24, .inl (fun z9 => nI ((uN (uN (uN P n (prc dp)) j ((uN P n (prc dp)) j + (uN P n (prc dp)) n)) k ((uN (uN P n (prc dp)) j ((uN P n (prc dp)) j + (uN P n (prc dp)) n)) k + (uN (uN P n (prc dp)) j ((uN P n (prc dp)) j + (uN P n (prc dp)) n)) n)) z9))))] H := hP
        have hD : va_D A [(h, .inr (1, [.ref o1, .ref o2, .ref o3, .ref o4, .ref o5, .ref o6, .int (nI n), .int (nI (vc + 1))])), (o1, .inl (cI, 24, .inl (((upd ops n op))))), (o2, .inl (cI, 24, .inl (((upd lf n (nI j)))))), (o3, .inl (cI, 24, .inl (((upd rg n (nI k)))))), (o4, .inl (cI, 24, .inl (fun z9 => nI ((uN (uN (uN E n (n + 1)) j n) k n) z9)))), (o5, .inl (cI, 24, .inl (fun z9 => nI ((uN (uN (uN U n 0) j ((uN U n 0) j + 1)) k ((uN (uN U n 0) j ((uN U n 0) j + 1)) k + 1)) z9)))), (o6, .inl (cI, 24, .inl (fun z9 => nI ((uN (uN (uN P n (prc dp)) j ((uN P n (prc dp)) j + (uN P n (prc dp)) n)) k ((uN (uN P n (prc dp)) j ((uN P n (prc dp)) j + (uN P n (prc dp)) n)) k + (uN (uN P n (prc dp)) j ((uN P n (prc dp)) j + (uN P n (prc dp)) n)) n)) z9))))] := hD
        refine lv_aload_n hx hb d_Co_append_106 rfl (lv_at hl 1 rfl) ?_
        refine lv_dup hx hb d_Co_append_107 rfl ?_
        refine va_get (D := (dC, dI)) (ci := 1) (v := .int (nI n)) (C := R_Co) (T := T_Co) (N := 8) hx hb hg in_Co hown hK hP 0 rfl rfl 6 (by decide) (hg _ tw_35) (fun _ h9 => h9) rfl d_Co_append_108 ?_
        refine lv_iconst (v := 1) hx hb d_Co_append_111 (by decide) ?_
        refine wb_iadd hx hb n 1 rfl rfl d_Co_append_112 ?_
        refine va_put (D := (dC, dI)) (ci := 1) (v := .int (nI (n + 1))) (ty := .int) (C := R_Co) (T := T_Co) (N := 8) hx hb hg in_Co ty_Co tyok_Co nm_Co hown hK hP hD hS 0 rfl rfl 6 (by decide) (hg _ tw_35) (fun _ h9 => h9) rfl (by decide +kernel) rfl rfl (Nat.le_of_ble_eq_true rfl) d_Co_append_113 (fun H locs hP hD hS => ?_)
        have hP : va_P (dC, dI) vwCl [(h, .inr (1, [.ref o1, .ref o2, .ref o3, .ref o4, .ref o5, .ref o6, .int (nI (n + 1)), .int (nI (vc + 1))])), (o1, .inl (cI, 24, .inl (((upd ops n op))))), (o2, .inl (cI, 24, .inl (((upd lf n (nI j)))))), (o3, .inl (cI, 24, .inl (((upd rg n (nI k)))))), (o4, .inl (cI, 24, .inl (fun z9 => nI ((uN (uN (uN E n (n + 1)) j n) k n) z9)))), (o5, .inl (cI, 24, .inl (fun z9 => nI ((uN (uN (uN U n 0) j ((uN U n 0) j + 1)) k ((uN (uN U n 0) j ((uN U n 0) j + 1)) k + 1)) z9)))), (o6, .inl (cI, 24, .inl (fun z9 => nI ((uN (uN (uN P n (prc dp)) j ((uN P n (prc dp)) j + (uN P n (prc dp)) n)) k ((uN (uN P n (prc dp)) j ((uN P n (prc dp)) j + (uN P n (prc dp)) n)) k + (uN (uN P n (prc dp)) j ((uN P n (prc dp)) j + (uN P n (prc dp)) n)) n)) z9))))] H := hP
        have hD : va_D A [(h, .inr (1, [.ref o1, .ref o2, .ref o3, .ref o4, .ref o5, .ref o6, .int (nI (n + 1)), .int (nI (vc + 1))])), (o1, .inl (cI, 24, .inl (((upd ops n op))))), (o2, .inl (cI, 24, .inl (((upd lf n (nI j)))))), (o3, .inl (cI, 24, .inl (((upd rg n (nI k)))))), (o4, .inl (cI, 24, .inl (fun z9 => nI ((uN (uN (uN E n (n + 1)) j n) k n) z9)))), (o5, .inl (cI, 24, .inl (fun z9 => nI ((uN (uN (uN U n 0) j ((uN U n 0) j + 1)) k ((uN (uN U n 0) j ((uN U n 0) j + 1)) k + 1)) z9)))), (o6, .inl (cI, 24, .inl (fun z9 => nI ((uN (uN (uN P n (prc dp)) j ((uN P n (prc dp)) j + (uN P n (prc dp)) n)) k ((uN (uN P n (prc dp)) j ((uN P n (prc dp)) j + (uN P n (prc dp)) n)) k + (uN (uN P n (prc dp)) j ((uN P n (prc dp)) j + (uN P n (prc dp)) n)) n)) z9))))] := hD
        have eE := show apE E n op (nI j) (nI k) = _ from (by unfold apE; rw [nuE_t (j := k) c9 (nI_clamp (by omega)), nuE_t (j := j) c1 (nI_clamp (by omega))])
        have eU := show apU U n op (nI j) (nI k) = _ from (by unfold apU; rw [nuU_t (j := k) c9 (nI_clamp (by omega)), nuU_t (j := j) c1 (nI_clamp (by omega))])
        have eP := show apP P n op (nI j) (nI k) dp = _ from (by unfold apP; rw [nuP_t (j := k) c9 (nI_clamp (by omega)), nuP_t (j := j) c1 (nI_clamp (by omega))])
        have eV : apV vc op = vc + 1 := if_neg c13
        have hP9 : va_P (dC, dI) vwCl [(h, .inr (1, [.ref o1, .ref o2, .ref o3, .ref o4, .ref o5, .ref o6, .int (nI (n + 1)), .int (nI (apV vc op))])), (o1, .inl (cI, 24, .inl (upd ops n op))), (o2, .inl (cI, 24, .inl (upd lf n (nI j)))), (o3, .inl (cI, 24, .inl (upd rg n (nI k)))), (o4, .inl (cI, 24, .inl (fun z9 => nI ((apE E n op (nI j) (nI k)) z9)))), (o5, .inl (cI, 24, .inl (fun z9 => nI ((apU U n op (nI j) (nI k)) z9)))), (o6, .inl (cI, 24, .inl (fun z9 => nI ((apP P n op (nI j) (nI k) dp) z9))))] _ := (by rw [eE, eU, eP, eV]; exact hP.sub [0, 1, 2, 3, 4, 5, 6] rfl)
        have hD9 : va_D A [(h, .inr (1, [.ref o1, .ref o2, .ref o3, .ref o4, .ref o5, .ref o6, .int (nI (n + 1)), .int (nI (apV vc op))])), (o1, .inl (cI, 24, .inl (upd ops n op))), (o2, .inl (cI, 24, .inl (upd lf n (nI j)))), (o3, .inl (cI, 24, .inl (upd rg n (nI k)))), (o4, .inl (cI, 24, .inl (fun z9 => nI ((apE E n op (nI j) (nI k)) z9)))), (o5, .inl (cI, 24, .inl (fun z9 => nI ((apU U n op (nI j) (nI k)) z9)))), (o6, .inl (cI, 24, .inl (fun z9 => nI ((apP P n op (nI j) (nI k) dp) z9))))] := (by rw [eE, eU, eP, eV]; exact hD.sub [0, 1, 2, 3, 4, 5, 6] (by decide) rfl)
        exact W.vret hx hb hr (fun t ht hW => ⟨⟨(), rfl, trivial, by rw [ht]; exact hP9, va_K.moved hW.alike hK, hD9⟩, hS.F ht⟩) hS.2.2 d_Co_append_116
end
section
/-! static calls that change cells; calls that answer a reference; words for an allocation -/
section WCS
variable {p : Program} {l : Launch} {e : Env} {R : Room} {s : State} {m : MethodId} {args : Array Value} {below : List Frame} {meth : Method} {c : Code} {H : Heap} {locs : List Loc} {cells slots : Nat} {Q : State → Prop}
variable {y : MethodName} {bytes cc : ByteArray} {maxL nL mc ms n index : Nat} {ret : Option FieldType} {ws : List Cond} {rm : Room} {Ts : List Cond} {own C : String} {b : Addr} {As rest st0 : List Value} {pc : Nat} {ls : Array Slot}
variable {D : va_G} {cl : List vw_C} {wc : va_W} {tc : List (ClassId × FieldType)}
theorem rdVr {x : Nat} {ci q0 : Nat} {fs : List Value} {T : u_T} {N : Nat} (S : CallFix p m c cc nL s args Ts own) (hM : Met l y ws rm (va_Pc (.ref b :: As) (PB D cl wc tc)) (k2_QcV (.ref x)) 0 0 (fun _ => False)) (cw : CallW R s args own C index y bytes maxL ret ws rm 0 0 n)
    (hK : va_K D cl tc s) (hP : va_P D cl wc H) (hc : cl[ci]? = some (C, T, N)) (he : wc[q0]? = some (b, .inr (ci, fs))) (hn : As.length = n) (hsize : ls.size = nL) (hst : st0 = As.reverse ++ .ref b :: rest) (hW : 2 * (F0 m pc ls rest).monitorRoom + (rest.map fun v => v.category).sum ≤ 8) (hdg : decode cc pc = .ok (.invokevirtual index, 3)) (hf : cells + 0 ≤ R.cells ∧ slots + 0 ≤ R.slots)
    (kk : W p l e R s m args below meth c H locs cells slots Q (F0 m (pc + 3) ls (.ref x :: rest))) : W p l e R s m args below meth c H locs cells slots Q (F0 m pc ls st0) :=
  W.callV (W.runV (g := F0 m pc ls st0) S hM cw (PB_V hK hP hc he) rfl hn hsize hst hW hdg hf) (W.eq (g2 := F0 m (pc + 3) ls (.ref x :: rest)) rfl kk)
variable {S' : Type} {post : S' → Prop} {wp : S' → va_W} {w0 wr : va_W} {A : Nat → Prop} {H0 : Heap}
theorem chSv (S : CallFix p m c cc nL s args Ts own)
    (hM : Met l y ws rm (va_Pc As (PM D cl wc tc H.size)) (va_Qv post (MB D cl wp tc (va_A wc H.size)) (va_A wc H.size)) mc ms (va_A wc H.size)) (cw : CallB R s args own index y bytes maxL ret ws rm mc ms n ∧ (Cond.static y).before args s = true)
    (hK : va_K D cl tc s) (hP : va_P D cl w0 H) (hD : va_D A w0) (hS : va_S A H0 H locs) (hA : ∀ q, H0.size ≤ q → A q) (isC isR : List Nat) (hC : isC.map (fun i => w0[i]?) = wc.map some) (hR : isR.map (fun i => w0[i]?) = wr.map some) (hnc : va_nd isC = true) (hnr : va_nd isR = true) (hdis : ∀ i ∈ isR, i ∉ isC)
    (hn : As.length = n) (hsize : ls.size = nL) (hst : st0 = As.reverse ++ rest) (hW : 2 * (F0 m pc ls rest).monitorRoom + (rest.map fun v => v.category).sum ≤ 8) (hdg : decode cc pc = .ok (.invokestatic index, 3)) (hf : cells + mc ≤ R.cells ∧ slots + ms ≤ R.slots)
    (kk : ∀ (u : S') (H1 : Heap) (locs1 : List Loc), post u → va_P D cl (wr ++ wp u) H1 → va_D A (wr ++ wp u) → va_S A H0 H1 locs1 → W p l e R s m args below meth c H1 locs1 (cells + mc) (slots + ms) Q (F0 m (pc + 3) ls rest)) :
    W p l e R s m args below meth c H locs cells slots Q (F0 m pc ls st0) := by
  have hPc := hP.sub isC (sub_of isC hC)
  have hDc := hD.sub isC hnc hC
  have hFc := va_free (wc := wc) hD hS hA isC hC
  refine va_callv (va_runS (g := F0 m pc ls st0) S hM cw (PM_S hK hPc hDc) rfl hn hsize hst hW hdg hf) hS (fun q _ h => hFc q h) hFc (fun u t H1 locs1 ht hvm hw hB hz1 hk1 hS1 => ?_)
  obtain ⟨hP1, -, hD1⟩ := hB
  rw [ht] at hP1
  obtain ⟨hP2, hD2⟩ := va_join (wr := wr) (w1 := wp u) hP hD isC isR hC hR hnr hdis hk1 hFc hP1 hD1
  exact kk u H1 locs1 hw hP2 hD2 hS1
end WCS
def filF (f : Nat → Int32) (v : Int32) (n : Nat) : Nat → Int32 := fun j => if j < n then v else f j
theorem filF_0 (f : Nat → Int32) (v : Int32) : filF f v 0 = f := funext fun j => if_neg (Nat.not_lt_zero j)
theorem filF_s (f : Nat → Int32) (v : Int32) (i : Nat) : upd (filF f v i) i v = filF f v (i + 1) := by
  funext j
  unfold upd filF
  by_cases h : j = i
  · rw [if_pos h, if_pos (by omega)]
  · rw [if_neg h]
    by_cases h2 : j < i
    · rw [if_pos h2, if_pos (by omega)]
    · rw [if_neg h2, if_neg (by omega)]
theorem filF_lt {f : Nat → Int32} {v : Int32} {n j : Nat} (h : j < n) : filF f v n j = v := if_pos h
/-- how many of the first k homes are this one -/
def cnt (hm : Nat → Int32) (x : Int32) : Nat → Nat
  | 0 => 0
  | k + 1 => cnt hm x k + if hm k = x then 1 else 0
theorem cnt_y {hm : Nat → Int32} {x : Int32} {k a : Nat} (ha : a = cnt hm x k) (h : hm k = x) : a + 1 = cnt hm x (k + 1) := by
  rw [ha]; show _ = cnt hm x k + _; rw [if_pos h]
theorem cnt_n {hm : Nat → Int32} {x : Int32} {k a : Nat} (ha : a = cnt hm x k) (h : ¬ hm k = x) : a = cnt hm x (k + 1) := by
  rw [ha]; show _ = cnt hm x k + _; rw [if_neg h]; rfl
theorem cnt_le (hm : Nat → Int32) (x : Int32) (k : Nat) : cnt hm x k ≤ k := by
  induction k with
  | zero => exact Nat.le_refl 0
  | succ k ih =>
    show cnt hm x k + _ ≤ k + 1
    split <;> omega
/-- values in the homes from first on, k of them -/
def vF (hm : Nat → Int32) (first : Nat) : Nat → Nat
  | 0 => 0
  | k + 1 => vF hm first k + cnt hm (nI (first + k)) 24
/-- homes in use -/
def hU (hm : Nat → Int32) (first : Nat) : Nat → Nat
  | 0 => 0
  | k + 1 => hU hm first k + if 0 < cnt hm (nI (first + k)) 24 then 1 else 0
theorem hU_y {hm : Nat → Int32} {f k a : Nat} (ha : a = hU hm f k) (h : 0 < cnt hm (nI (f + k)) 24) : a + 1 = hU hm f (k + 1) := by
  rw [ha]; show _ = hU hm f k + _; rw [if_pos h]
theorem hU_n {hm : Nat → Int32} {f k a : Nat} (ha : a = hU hm f k) (h : ¬ 0 < cnt hm (nI (f + k)) 24) : a = hU hm f (k + 1) := by
  rw [ha]; show _ = hU hm f k + _; rw [if_neg h]; rfl
/-! doubles compared -/
abbrev dlt (x y : UInt64) : Prop := FP.dcmp x y = some .lt
abbrev dgt (x y : UInt64) : Prop := FP.dcmp x y = some .gt
abbrev deq (x y : UInt64) : Prop := FP.dcmp x y = some .eq
theorem dlt_of {x y : UInt64} (h : ¬ 0 ≤ Op.cmpValue (FP.dcmp x y) .g) : dlt x y := by
  unfold dlt
  cases hd : FP.dcmp x y with
  | none => rw [hd] at h; exact absurd (by decide) h
  | some o => cases o with
    | lt => rfl
    | eq => rw [hd] at h; exact absurd (by decide) h
    | gt => rw [hd] at h; exact absurd (by decide) h
theorem dlt_n {x y : UInt64} (h : 0 ≤ Op.cmpValue (FP.dcmp x y) .g) : ¬ dlt x y := by
  intro q
  unfold dlt at q
  rw [q] at h
  exact absurd h (by decide)
theorem dgt_of {x y : UInt64} (h : ¬ Op.cmpValue (FP.dcmp x y) .l ≤ 0) : dgt x y := by
  unfold dgt
  cases hd : FP.dcmp x y with
  | none => rw [hd] at h; exact absurd (by decide) h
  | some o => cases o with
    | gt => rfl
    | eq => rw [hd] at h; exact absurd (by decide) h
    | lt => rw [hd] at h; exact absurd (by decide) h
theorem dgt_n {x y : UInt64} (h : Op.cmpValue (FP.dcmp x y) .l ≤ 0) : ¬ dgt x y := by
  intro q
  unfold dgt at q
  rw [q] at h
  exact absurd h (by decide)
theorem deq_of {x y : UInt64} (h : Op.cmpValue (FP.dcmp x y) .l = 0) : deq x y := by
  unfold deq
  cases hd : FP.dcmp x y with
  | none => rw [hd] at h; exact absurd h (by decide)
  | some o => cases o with
    | eq => rfl
    | gt => rw [hd] at h; exact absurd h (by decide)
    | lt => rw [hd] at h; exact absurd h (by decide)
theorem deq_n {x y : UInt64} (h : ¬ Op.cmpValue (FP.dcmp x y) .l = 0) : ¬ deq x y := by
  intro q
  unfold deq at q
  rw [q] at h
  exact h (by decide)
/-- the heaviest of the first k values that live in a home and meet v -/
def hv (E P : Nat → Nat) (hm : Nat → Int32) (v : Nat) (x : Int32) : Nat → UInt64
  | 0 => FP.dconst0
  | k + 1 => if hm k = x ∧ mt E v k = true ∧ dgt (wt P E k) (hv E P hm v x k) then wt P E k else hv E P hm v x k
theorem hv_y {E P : Nat → Nat} {hm : Nat → Int32} {v k : Nat} {x : Int32} {a : UInt64} (ha : a = hv E P hm v x k) (h1 : hm k = x) (h2 : mt E v k = true) (h3 : dgt (wt P E k) a) : wt P E k = hv E P hm v x (k + 1) := by
  subst ha
  exact (if_pos ⟨h1, h2, h3⟩).symm
theorem hv_n {E P : Nat → Nat} {hm : Nat → Int32} {v k : Nat} {x : Int32} {a : UInt64} (ha : a = hv E P hm v x k) (h : ¬ hm k = x ∨ mt E v k = false ∨ ¬ dgt (wt P E k) a) : a = hv E P hm v x (k + 1) := by
  subst ha
  refine (if_neg ?_).symm
  rintro ⟨h1, h2, h3⟩
  rcases h with h | h | h
  · exact h h1
  · rw [h] at h2; cases h2
  · exact h h3
/-- the homes with those put out that live in x and meet v, of the first k; and how many they are -/
def evH (E : Nat → Nat) (hm : Nat → Int32) (v : Nat) (x : Int32) : Nat → Nat → Int32
  | 0 => hm
  | k + 1 => if evH E hm v x k k = x ∧ mt E v k = true then upd (evH E hm v x k) k (-1) else evH E hm v x k
def evC (E : Nat → Nat) (hm : Nat → Int32) (v : Nat) (x : Int32) : Nat → Nat
  | 0 => 0
  | k + 1 => evC E hm v x k + if evH E hm v x k k = x ∧ mt E v k = true then 1 else 0
theorem ev_y {E : Nat → Nat} {hm f : Nat → Int32} {v k a : Nat} {x : Int32} (hf : f = evH E hm v x k) (h1 : f k = x) (h2 : mt E v k = true) : upd f k (-1) = evH E hm v x (k + 1) := by
  subst hf
  exact (if_pos ⟨h1, h2⟩).symm
theorem ev_n {E : Nat → Nat} {hm f : Nat → Int32} {v k : Nat} {x : Int32} (hf : f = evH E hm v x k) (h : ¬ f k = x ∨ mt E v k = false) : f = evH E hm v x (k + 1) := by
  subst hf
  refine (if_neg ?_).symm
  rintro ⟨h1, h2⟩
  rcases h with h | h
  · exact h h1
  · rw [h] at h2; cases h2
theorem evC_y {E : Nat → Nat} {hm f : Nat → Int32} {v k b a : Nat} {x : Int32} (hf : f = evH E hm v x k) (ha : a = b + evC E hm v x k) (h1 : f k = x) (h2 : mt E v k = true) : a + 1 = b + evC E hm v x (k + 1) := by
  subst hf; subst ha
  show _ = b + (evC E hm v x k + _)
  rw [if_pos ⟨h1, h2⟩]
  omega
theorem evC_n {E : Nat → Nat} {hm f : Nat → Int32} {v k b a : Nat} {x : Int32} (hf : f = evH E hm v x k) (ha : a = b + evC E hm v x k) (h : ¬ f k = x ∨ mt E v k = false) : a = b + evC E hm v x (k + 1) := by
  subst hf; subst ha
  show _ = b + (evC E hm v x k + _)
  rw [if_neg]
  · omega
  · rintro ⟨h1, h2⟩
    rcases h with h | h
    · exact h h1
    · rw [h] at h2; cases h2
/-- the one that waits longest, of the first k -/
def oI : Option Nat → Int32
  | none => -1
  | some b => nI b
theorem oI_m1 {o : Option Nat} (h : oI o = -1) (hb : ∀ b, o = some b → b < 2 ^ 31) : o = none := by
  cases o with
  | none => rfl
  | some b =>
    have h0 : ¬ nI b < 0 := nI_pos (hb b rfl)
    have h1 : nI b = -1 := h
    rw [h1] at h0
    exact absurd (by decide) h0
theorem oI_some {o : Option Nat} (h : ¬ oI o = -1) : ∃ b, o = some b := by
  cases o with
  | none => exact absurd rfl h
  | some b => exact ⟨b, rfl⟩
def wts (ops : Nat → Int32) (n : Nat) (hm : Nat → Int32) (w : Nat) : Prop := iv ops n (nI w) = true ∧ hm w = -1
def lwB (E : Nat → Nat) (o : Option Nat) (w : Nat) : Bool := match o with
  | none => true
  | some b => decide (E b - b < E w - w)
def lw (ops : Nat → Int32) (E : Nat → Nat) (n : Nat) (hm : Nat → Int32) : Nat → Option Nat
  | 0 => none
  | k + 1 => if iv ops n (nI k) = true ∧ hm k = -1 ∧ lwB E (lw ops E n hm k) k = true then some k else lw ops E n hm k
theorem lw_lt {ops : Nat → Int32} {E : Nat → Nat} {n : Nat} {hm : Nat → Int32} {k b : Nat} (h : lw ops E n hm k = some b) : b < k := by
  induction k with
  | zero => cases h
  | succ k ih =>
    unfold lw at h
    split at h
    · cases h; omega
    · have := ih h; omega
theorem lw_y {ops : Nat → Int32} {E : Nat → Nat} {n : Nat} {hm : Nat → Int32} {k : Nat} {o : Option Nat} (ho : o = lw ops E n hm k) (h1 : iv ops n (nI k) = true) (h2 : hm k = -1) (h3 : lwB E o k = true) : some k = lw ops E n hm (k + 1) := by
  subst ho
  exact (if_pos ⟨h1, h2, h3⟩).symm
theorem lw_n {ops : Nat → Int32} {E : Nat → Nat} {n : Nat} {hm : Nat → Int32} {k : Nat} {o : Option Nat} (ho : o = lw ops E n hm k) (h : iv ops n (nI k) = false ∨ ¬ hm k = -1 ∨ lwB E o k = false) : o = lw ops E n hm (k + 1) := by
  subst ho
  refine (if_neg ?_).symm
  rintro ⟨h1, h2, h3⟩
  rcases h with h | h | h
  · rw [h] at h1; cases h1
  · exact h h2
  · rw [h] at h3; cases h3
/-- the sum of the prices of those in slots, of the first k -/
def ps (P : Nat → Nat) (hm : Nat → Int32) : Nat → UInt64
  | 0 => FP.dconst0
  | k + 1 => if hm k < 10 then ps P hm k else FP.dadd (ps P hm k) (FP.i2d (nI (P k)))
theorem ps_n {P : Nat → Nat} {hm : Nat → Int32} {k : Nat} {a : UInt64} (ha : a = ps P hm k) (h : hm k < 10) : a = ps P hm (k + 1) := by
  subst ha; exact (if_pos h).symm
theorem ps_y {P : Nat → Nat} {hm : Nat → Int32} {k : Nat} {a : UInt64} (ha : a = ps P hm k) (h : ¬ hm k < 10) : FP.dadd a (FP.i2d (nI (P k))) = ps P hm (k + 1) := by
  subst ha; exact (if_neg h).symm
end
section
/-! Arrays.fill; AllocForge$Allocation: what only reads its own homes -/
set_option maxHeartbeats 4000000 in
set_option maxRecDepth 100000 in
theorem c_Ar_fill (l : Launch) (dC : Nat → ClassId) (dI : Nat → Nat → Nat) (cI : ClassId) (a : Nat) (q : Nat) (f : Nat → Int32) (v : Int32) (sz : Nat) (hq : q < 2 ^ 31) : Met l y_Ar_fill ws_Ar_fill (lvR 0 0 0) (va_Pc [.ref a, .int v] (PM (dC, dI) vwCl [(a, .inl (cI, q, .inl f))] [(cI, .int)] sz)) (va_Qv (fun _ : Unit => True) (MB (dC, dI) vwCl (fun _ => [(a, .inl (cI, q, .inl (filF f v q)))]) [(cI, .int)] (va_A [(a, .inl (cI, q, .inl f))] sz)) (va_A [(a, .inl (cI, q, .inl f))] sz)) 0 0 (va_A [(a, .inl (cI, q, .inl f))] sz) := by
  refine Met.ofW (cc := b_Ar_fill) (maxL := 4) (ret := none) (by decide) rfl ?_
  intro p e s m args below meth c s₁ B hml hv
  obtain ⟨rfl, hsz, hP, hK, hD0⟩ := hv
  have hx := B.exec
  have hb := B.bytes
  have hr := B.returns
  have hts := atoms_spec (ws := ws_Ar_fill) B.pre
  have hg : ∀ w ∈ TG, w.before ([.ref a, .int v] : List Value).toArray s = true := fun w h => hts w (List.mem_cons_of_mem _ h)
  have hown : s.vm.findClass R_Ar = some m.cls := findClass_of_methodNamed B.named
  have hlocks := B.notSynchronized
  subst hsz
  have hD := hD0.self (sz := s.heap.size)
  generalize hAe : va_A [(a, .inl (cI, q, .inl f))] s.heap.size = A at hD ⊢
  have hA : ∀ q : Nat, s.heap.size ≤ q → A q := fun q h => by rw [← hAe]; exact Or.inr h
  have hS : va_S A s.heap s.heap [] := va_S.rf
  have hl := lv_entry ([.ref a, .int v]) (n := 4) (Nat.le_of_ble_eq_true rfl)
  rw [lg_entry_eq]
  generalize (lg_sl ([.ref a, .int v]) ++ List.replicate (4 - (lg_sl ([.ref a, .int v])).length) Slot.unset).toArray = ls at hl ⊢
  have hl : lv_has ls 4 [(0, .ref a), (1, .int v)] := hl
  refine lv_iconst (v := 0) hx hb d_Ar_fill_0 (by decide) ?_
  refine lv_istore_n (lv' := [(2, .int ((0 : Int32))), (0, .ref a), (1, .int v)]) hx hb d_Ar_fill_1 rfl hl (by decide) rfl (fun ls hl => ?_)
  refine lv_aload_n hx hb d_Ar_fill_2 rfl (lv_at hl 1 rfl) ?_
  refine va_alen (v := nI q) hx hb hK hP 0 0 rfl rfl rfl d_Ar_fill_3 ?_
  refine lv_istore_n (lv' := [(3, .int (nI q)), (2, .int ((0 : Int32))), (0, .ref a), (1, .int v)]) hx hb d_Ar_fill_4 rfl hl (by decide) rfl (fun ls hl => ?_)
  refine wb_loop (σ := Nat) 5 (fun i H locs ls => lv_has ls 4 [(3, .int (nI q)), (2, .int (nI i)), (0, .ref a), (1, .int v)] ∧ va_P (dC, dI) vwCl [(a, .inl (cI, q, .inl (filF f v i)))] H ∧ va_D A [(a, .inl (cI, q, .inl (filF f v i)))] ∧ va_S A s.heap H locs ∧ (i ≤ q)) (fun i => q - i) ?_ (0) _ _ ls ⟨lv_sub hl [0, 1, 2, 3] rfl, (by rw [filF_0]; exact hP), (by rw [filF_0]; exact hD), hS, (Nat.zero_le _)⟩
  clear hP hD hS hl
  intro i H locs ls hI2 ih1
  obtain ⟨hl, hP, hD, hS, hi⟩ := hI2
  refine lv_iload_n hx hb d_Ar_fill_5 rfl (lv_at hl 1 rfl) ?_
  refine lv_iload_n hx hb d_Ar_fill_6 rfl (lv_at hl 0 rfl) ?_
  refine wb_icmp_ge (tgt := 20) hx hb i q rfl rfl (by first | exact hq | exact Nat.lt_of_le_of_lt hi hq) (by first | exact hq | exact Nat.lt_of_le_of_lt hi hq) d_Ar_fill_7 (by decide) (fun c3 => ?_) (fun c3 => ?_)
  · have ei : filF f v q = filF f v i := by rw [Nat.le_antisymm hi c3]
    have hP9 : va_P (dC, dI) vwCl [(a, .inl (cI, q, .inl (filF f v q)))] _ := (by rw [ei]; exact hP.sub [0] rfl)
    have hD9 : va_D A [(a, .inl (cI, q, .inl (filF f v q)))] := (by rw [ei]; exact hD.sub [0] (by decide) rfl)
    exact W.vret hx hb hr (fun t ht hW => ⟨⟨(), rfl, trivial, by rw [ht]; exact hP9, va_K.moved hW.alike hK, hD9⟩, hS.F ht⟩) hS.2.2 d_Ar_fill_20
  · refine lv_aload_n hx hb d_Ar_fill_10 rfl (lv_at hl 2 rfl) ?_
    refine lv_iload_n hx hb d_Ar_fill_11 rfl (lv_at hl 1 rfl) ?_
    refine lv_iload_n hx hb d_Ar_fill_12 rfl (lv_at hl 3 rfl) ?_
    refine wb_iast hx hb hK hP hD hS 0 0 rfl rfl i rfl c3 hq d_Ar_fill_13 (fun H locs hP hD hS => ?_)
    have hP : va_P (dC, dI) vwCl [(a, .inl (cI, q, .inl (upd (filF f v i) i v)))] H := hP
    have hD : va_D A [(a, .inl (cI, q, .inl (upd (filF f v i) i v)))] := hD
    refine lv_iinc (v := (nI (i + 1))) (lv' := [(2, .int (nI (i + 1))), (3, .int (nI q)), (0, .ref a), (1, .int v)]) hx hb d_Ar_fill_14 hl (k := 1) rfl (nI_add _ 1) (by decide) rfl (fun ls hl => ?_)
    refine lv_goto (tgt := 5) hx hb d_Ar_fill_17 (by decide) ?_
    exact ih1 (i + 1) _ _ ls ⟨lv_sub hl [1, 0, 2, 3] rfl, (by rw [← filF_s]; exact hP), (by rw [← filF_s]; exact hD), hS, c3⟩ (by have := c3; omega)

set_option maxHeartbeats 4000000 in
set_option maxRecDepth 100000 in
theorem c_Al_registers (l : Launch) (dC : Nat → ClassId) (dI : Nat → Nat → Nat) (cI : ClassId) (al : Nat) (ah : Nat) (k : Nat) (ev : Nat) (hm : Nat → Int32) : Met l y_Al_registers ws_Al_registers (lvR 0 0 0) (va_Pc [.ref al] (PB (dC, dI) vwCl [(al, .inr (0, [.ref ah, .int (nI k), .int (nI ev)])), (ah, .inl (cI, 24, .inl hm))] [(cI, .int)])) (vp_Si (fun r => r = nI k)) 0 0 (fun _ => False) := by
  refine Met.ofW (cc := b_Al_registers) (maxL := 1) (ret := (some .int)) (by decide) rfl ?_
  intro p e s m args below meth c s₁ B hml hv
  obtain ⟨rfl, hP, hK⟩ := hv
  have hx := B.exec
  have hb := B.bytes
  have hr := B.returns
  have hts := atoms_spec (ws := ws_Al_registers) B.pre
  have hg : ∀ w ∈ TG, w.before ([.ref al] : List Value).toArray s = true := fun w h => hts w (List.mem_cons_of_mem _ h)
  have hown : s.vm.findClass R_Al = some m.cls := findClass_of_methodNamed B.named
  have hlocks := B.notSynchronized
  have hl := lv_entry ([.ref al]) (n := 1) (Nat.le_of_ble_eq_true rfl)
  rw [lg_entry_eq]
  generalize (lg_sl ([.ref al]) ++ List.replicate (1 - (lg_sl ([.ref al])).length) Slot.unset).toArray = ls at hl ⊢
  have hl : lv_has ls 1 [(0, .ref al)] := hl
  refine lv_aload_n hx hb d_Al_registers_0 rfl (lv_at hl 0 rfl) ?_
  refine va_get (D := (dC, dI)) (ci := 0) (v := .int (nI k)) (C := R_Al) (T := T_Al) (N := 3) hx hb hg in_Al hown hK hP 0 rfl rfl 1 (by decide) (hg _ tw_90) (fun _ h9 => h9) rfl d_Al_registers_1 ?_
  exact W.iret (v := nI k) hx hb hr (fun t ht hW => ⟨_, rfl, rfl, ht⟩) (fun q h => by cases h) d_Al_registers_4

set_option maxHeartbeats 4000000 in
set_option maxRecDepth 100000 in
theorem c_Al_evictions (l : Launch) (dC : Nat → ClassId) (dI : Nat → Nat → Nat) (cI : ClassId) (al : Nat) (ah : Nat) (k : Nat) (ev : Nat) (hm : Nat → Int32) : Met l y_Al_evictions ws_Al_evictions (lvR 0 0 0) (va_Pc [.ref al] (PB (dC, dI) vwCl [(al, .inr (0, [.ref ah, .int (nI k), .int (nI ev)])), (ah, .inl (cI, 24, .inl hm))] [(cI, .int)])) (vp_Si (fun r => r = nI ev)) 0 0 (fun _ => False) := by
  refine Met.ofW (cc := b_Al_evictions) (maxL := 1) (ret := (some .int)) (by decide) rfl ?_
  intro p e s m args below meth c s₁ B hml hv
  obtain ⟨rfl, hP, hK⟩ := hv
  have hx := B.exec
  have hb := B.bytes
  have hr := B.returns
  have hts := atoms_spec (ws := ws_Al_evictions) B.pre
  have hg : ∀ w ∈ TG, w.before ([.ref al] : List Value).toArray s = true := fun w h => hts w (List.mem_cons_of_mem _ h)
  have hown : s.vm.findClass R_Al = some m.cls := findClass_of_methodNamed B.named
  have hlocks := B.notSynchronized
  have hl := lv_entry ([.ref al]) (n := 1) (Nat.le_of_ble_eq_true rfl)
  rw [lg_entry_eq]
  generalize (lg_sl ([.ref al]) ++ List.replicate (1 - (lg_sl ([.ref al])).length) Slot.unset).toArray = ls at hl ⊢
  have hl : lv_has ls 1 [(0, .ref al)] := hl
  refine lv_aload_n hx hb d_Al_evictions_0 rfl (lv_at hl 0 rfl) ?_
  refine va_get (D := (dC, dI)) (ci := 0) (v := .int (nI ev)) (C := R_Al) (T := T_Al) (N := 3) hx hb hg in_Al hown hK hP 0 rfl rfl 2 (by decide) (hg _ tw_91) (fun _ h9 => h9) rfl d_Al_evictions_1 ?_
  exact W.iret (v := nI ev) hx hb hr (fun t ht hW => ⟨_, rfl, rfl, ht⟩) (fun q h => by cases h) d_Al_evictions_4

set_option maxHeartbeats 4000000 in
set_option maxRecDepth 100000 in
theorem c_Al_homes (l : Launch) (dC : Nat → ClassId) (dI : Nat → Nat → Nat) (cI : ClassId) (al : Nat) (ah : Nat) (k : Nat) (ev : Nat) (hm : Nat → Int32) : Met l y_Al_homes ws_Al_homes (lvR 0 0 0) (va_Pc [.ref al] (PB (dC, dI) vwCl [(al, .inr (0, [.ref ah, .int (nI k), .int (nI ev)])), (ah, .inl (cI, 24, .inl hm))] [(cI, .int)])) (k2_QcV (.ref ah)) 0 0 (fun _ => False) := by
  refine Met.ofW (cc := b_Al_homes) (maxL := 1) (ret := (some (.array .int))) (by decide) rfl ?_
  intro p e s m args below meth c s₁ B hml hv
  obtain ⟨rfl, hP, hK⟩ := hv
  have hx := B.exec
  have hb := B.bytes
  have hr := B.returns
  have hts := atoms_spec (ws := ws_Al_homes) B.pre
  have hg : ∀ w ∈ TG, w.before ([.ref al] : List Value).toArray s = true := fun w h => hts w (List.mem_cons_of_mem _ h)
  have hown : s.vm.findClass R_Al = some m.cls := findClass_of_methodNamed B.named
  have hlocks := B.notSynchronized
  have hl := lv_entry ([.ref al]) (n := 1) (Nat.le_of_ble_eq_true rfl)
  rw [lg_entry_eq]
  generalize (lg_sl ([.ref al]) ++ List.replicate (1 - (lg_sl ([.ref al])).length) Slot.unset).toArray = ls at hl ⊢
  have hl : lv_has ls 1 [(0, .ref al)] := hl
  refine lv_aload_n hx hb d_Al_homes_0 rfl (lv_at hl 0 rfl) ?_
  refine va_get (D := (dC, dI)) (ci := 0) (v := .ref ah) (C := R_Al) (T := T_Al) (N := 3) hx hb hg in_Al hown hK hP 0 rfl rfl 0 (by decide) (hg _ tw_89) (fun _ h9 => h9) rfl d_Al_homes_1 ?_
  exact W.aret (v := .ref ah) (rt := .array .int) hx hb hr (Or.inr ⟨_, rfl⟩) (Or.inr ⟨_, rfl⟩) (fun t ht hW => ⟨rfl, ht⟩) (fun q h => by cases h) d_Al_homes_4

set_option maxHeartbeats 4000000 in
set_option maxRecDepth 100000 in
theorem c_Al_homeOf (l : Launch) (dC : Nat → ClassId) (dI : Nat → Nat → Nat) (cI : ClassId) (al : Nat) (ah : Nat) (k : Nat) (ev : Nat) (hm : Nat → Int32) (i : Nat) (hi : i < 24) : Met l y_Al_homeOf ws_Al_homeOf (lvR 0 0 0) (va_Pc [.ref al, .int (nI i)] (PB (dC, dI) vwCl [(al, .inr (0, [.ref ah, .int (nI k), .int (nI ev)])), (ah, .inl (cI, 24, .inl hm))] [(cI, .int)])) (vp_Si (fun r => r = hm i)) 0 0 (fun _ => False) := by
  refine Met.ofW (cc := b_Al_homeOf) (maxL := 2) (ret := (some .int)) (by decide) rfl ?_
  intro p e s m args below meth c s₁ B hml hv
  obtain ⟨rfl, hP, hK⟩ := hv
  have hx := B.exec
  have hb := B.bytes
  have hr := B.returns
  have hts := atoms_spec (ws := ws_Al_homeOf) B.pre
  have hg : ∀ w ∈ TG, w.before ([.ref al, .int (nI i)] : List Value).toArray s = true := fun w h => hts w (List.mem_cons_of_mem _ h)
  have hown : s.vm.findClass R_Al = some m.cls := findClass_of_methodNamed B.named
  have hlocks := B.notSynchronized
  have hl := lv_entry ([.ref al, .int (nI i)]) (n := 2) (Nat.le_of_ble_eq_true rfl)
  rw [lg_entry_eq]
  generalize (lg_sl ([.ref al, .int (nI i)]) ++ List.replicate (2 - (lg_sl ([.ref al, .int (nI i)])).length) Slot.unset).toArray = ls at hl ⊢
  have hl : lv_has ls 2 [(0, .ref al), (1, .int (nI i))] := hl
  refine lv_aload_n hx hb d_Al_homeOf_0 rfl (lv_at hl 0 rfl) ?_
  refine va_get (D := (dC, dI)) (ci := 0) (v := .ref ah) (C := R_Al) (T := T_Al) (N := 3) hx hb hg in_Al hown hK hP 0 rfl rfl 0 (by decide) (hg _ tw_89) (fun _ h9 => h9) rfl d_Al_homeOf_1 ?_
  refine lv_iload_n hx hb d_Al_homeOf_4 rfl (lv_at hl 1 rfl) ?_
  refine wb_iald hx hb hK hP 1 0 rfl rfl i rfl hi (by decide) d_Al_homeOf_5 ?_
  exact W.iret (v := hm i) hx hb hr (fun t ht hW => ⟨_, rfl, rfl, ht⟩) (fun q h => by cases h) d_Al_homeOf_6

set_option maxHeartbeats 4000000 in
set_option maxRecDepth 100000 in
theorem c_Al_forget (l : Launch) (dC : Nat → ClassId) (dI : Nat → Nat → Nat) (cI : ClassId) (al : Nat) (ah : Nat) (k : Nat) (ev : Nat) (hm : Nat → Int32) (sz : Nat) : Met l y_Al_forget ws_Al_forget (lvR 1 0 0) (va_Pc [.ref al] (PM (dC, dI) vwCl [(al, .inr (0, [.ref ah, .int (nI k), .int (nI ev)])), (ah, .inl (cI, 24, .inl hm))] [(cI, .int)] sz)) (va_Qv (fun _ : Unit => True) (MB (dC, dI) vwCl (fun _ => [(al, .inr (0, [.ref ah, .int ((0 : Int32)), .int ((0 : Int32))])), (ah, .inl (cI, 24, .inl (filF hm (-1) 24)))]) [(cI, .int)] (va_A [(al, .inr (0, [.ref ah, .int (nI k), .int (nI ev)])), (ah, .inl (cI, 24, .inl hm))] sz)) (va_A [(al, .inr (0, [.ref ah, .int (nI k), .int (nI ev)])), (ah, .inl (cI, 24, .inl hm))] sz)) 0 0 (va_A [(al, .inr (0, [.ref ah, .int (nI k), .int (nI ev)])), (ah, .inl (cI, 24, .inl hm))] sz) := by
  refine Met.ofW (cc := b_Al_forget) (maxL := 1) (ret := none) (by decide) rfl ?_
  intro p e s m args below meth c s₁ B hml hv
  obtain ⟨rfl, hsz, hP, hK, hD0⟩ := hv
  have hx := B.exec
  have hb := B.bytes
  have hr := B.returns
  have hts := atoms_spec (ws := ws_Al_forget) B.pre
  have hg : ∀ w ∈ TG, w.before ([.ref al] : List Value).toArray s = true := fun w h => hts w (List.mem_cons_of_mem _ h)
  have hown : s.vm.findClass R_Al = some m.cls := findClass_of_methodNamed B.named
  have hlocks := B.notSynchronized
  subst hsz
  have hD := hD0.self (sz := s.heap.size)
  generalize hAe : va_A [(al, .inr (0, [.ref ah, .int (nI k), .int (nI ev)])), (ah, .inl (cI, 24, .inl hm))] s.heap.size = A at hD ⊢
  have hA : ∀ q : Nat, s.heap.size ≤ q → A q := fun q h => by rw [← hAe]; exact Or.inr h
  have hS : va_S A s.heap s.heap [] := va_S.rf
  have hl := lv_entry ([.ref al]) (n := 1) (Nat.le_of_ble_eq_true rfl)
  rw [lg_entry_eq]
  generalize (lg_sl ([.ref al]) ++ List.replicate (1 - (lg_sl ([.ref al])).length) Slot.unset).toArray = ls at hl ⊢
  have hl : lv_has ls 1 [(0, .ref al)] := hl
  refine lv_aload_n hx hb d_Al_forget_0 rfl (lv_at hl 0 rfl) ?_
  refine va_get (D := (dC, dI)) (ci := 0) (v := .ref ah) (C := R_Al) (T := T_Al) (N := 3) hx hb hg in_Al hown hK hP 0 rfl rfl 0 (by decide) (hg _ tw_89) (fun _ h9 => h9) rfl d_Al_forget_1 ?_
  refine lv_iconst (v := -1) hx hb d_Al_forget_4 (by decide) ?_
  refine chSv (wr := [(al, .inr (0, [.ref ah, .int (nI k), .int (nI ev)]))]) (As := [.ref ah, .int ((-1 : Int32))]) (rest := []) ⟨hx, hb, hml, hown, hg⟩ (c_Ar_fill l dC dI cI ah 24 hm ((-1 : Int32)) _ (by decide)) (va_cwS 2 hg (tg_S tw_86 tw_87 tw_5 tw_88) rfl rfl rfl (by decide +kernel) ⟨Nat.le_of_ble_eq_true rfl, Nat.le_of_ble_eq_true rfl⟩) (hK.sub [0] rfl) hP hD hS hA [1] [0] rfl rfl (by decide) (by decide) (by decide) rfl hl.1 rfl (lv_room (Nat.le_of_ble_eq_true rfl)) d_Al_forget_5 ⟨Nat.le_of_ble_eq_true rfl, Nat.le_of_ble_eq_true rfl⟩ (fun u1 H locs w2 hP hD hS => ?_)
  have hP : va_P (dC, dI) vwCl [(al, .inr (0, [.ref ah, .int (nI k), .int (nI ev)])), (ah, .inl (cI, 24, .inl (filF hm ((-1 : Int32)) 24)))] H := hP
  have hD : va_D A [(al, .inr (0, [.ref ah, .int (nI k), .int (nI ev)])), (ah, .inl (cI, 24, .inl (filF hm ((-1 : Int32)) 24)))] := hD
  refine lv_aload_n hx hb d_Al_forget_8 rfl (lv_at hl 0 rfl) ?_
  refine lv_iconst (v := 0) hx hb d_Al_forget_9 (by decide) ?_
  refine va_put (D := (dC, dI)) (ci := 0) (v := .int ((0 : Int32))) (ty := .int) (C := R_Al) (T := T_Al) (N := 3) hx hb hg in_Al ty_Al tyok_Al nm_Al hown hK hP hD hS 0 rfl rfl 1 (by decide) (hg _ tw_90) (fun _ h9 => h9) rfl (by decide +kernel) rfl rfl (Nat.le_of_ble_eq_true rfl) d_Al_forget_10 (fun H locs hP hD hS => ?_)
  have hP : va_P (dC, dI) vwCl [(al, .inr (0, [.ref ah, .int ((0 : Int32)), .int (nI ev)])), (ah, .inl (cI, 24, .inl (filF hm ((-1 : Int32)) 24)))] H := hP
  have hD : va_D A [(al, .inr (0, [.ref ah, .int ((0 : Int32)), .int (nI ev)])), (ah, .inl (cI, 24, .inl (filF hm ((-1 : Int32)) 24)))] := hD
  refine lv_aload_n hx hb d_Al_forget_13 rfl (lv_at hl 0 rfl) ?_
  refine lv_iconst (v := 0) hx hb d_Al_forget_14 (by decide) ?_
  refine va_put (D := (dC, dI)) (ci := 0) (v := .int ((0 : Int32))) (ty := .int) (C := R_Al) (T := T_Al) (N := 3) hx hb hg in_Al ty_Al tyok_Al nm_Al hown hK hP hD hS 0 rfl rfl 2 (by decide) (hg _ tw_91) (fun _ h9 => h9) rfl (by decide +kernel) rfl rfl (Nat.le_of_ble_eq_true rfl) d_Al_forget_15 (fun H locs hP hD hS => ?_)
  have hP : va_P (dC, dI) vwCl [(al, .inr (0, [.ref ah, .int ((0 : Int32)), .int ((0 : Int32))])), (ah, .inl (cI, 24, .inl (filF hm ((-1 : Int32)) 24)))] H := hP
  have hD : va_D A [(al, .inr (0, [.ref ah, .int ((0 : Int32)), .int ((0 : Int32))])), (ah, .inl (cI, 24, .inl (filF hm ((-1 : Int32)) 24)))] := hD
  have hP9 : va_P (dC, dI) vwCl [(al, .inr (0, [.ref ah, .int ((0 : Int32)), .int ((0 : Int32))])), (ah, .inl (cI, 24, .inl (filF hm (-1) 24)))] _ := hP.sub [0, 1] rfl
  have hD9 : va_D A [(al, .inr (0, [.ref ah, .int ((0 : Int32)), .int ((0 : Int32))])), (ah, .inl (cI, 24, .inl (filF hm (-1) 24)))] := hD.sub [0, 1] (by decide) rfl
  exact W.vret hx hb hr (fun t ht hW => ⟨⟨(), rfl, trivial, by rw [ht]; exact hP9, va_K.moved hW.alike hK, hD9⟩, hS.F ht⟩) hS.2.2 d_Al_forget_18

set_option maxHeartbeats 4000000 in
set_option maxRecDepth 100000 in
theorem c_Al_init (l : Launch) (dC : Nat → ClassId) (dI : Nat → Nat → Nat) (cI : ClassId) (al : Nat) (sz : Nat) : Met l y_Al_init ws_Al_init (lvR 1 1 24) (va_Pc [.ref al] (PM (dC, dI) vwCl [(al, .inr (0, [.null, .int ((0 : Int32)), .int ((0 : Int32))]))] [(cI, .int)] sz)) (va_Qv (fun _ : Nat => True) (MB (dC, dI) vwCl (fun (u9 : Nat) => [(al, .inr (0, [.ref u9, .int ((0 : Int32)), .int ((0 : Int32))])), (u9, .inl (cI, 24, .inl (filF (fun _ => 0) (-1) 24)))]) [(cI, .int)] (va_A [(al, .inr (0, [.null, .int ((0 : Int32)), .int ((0 : Int32))]))] sz)) (va_A [(al, .inr (0, [.null, .int ((0 : Int32)), .int ((0 : Int32))]))] sz)) 1 24 (va_A [(al, .inr (0, [.null, .int ((0 : Int32)), .int ((0 : Int32))]))] sz) := by
  refine Met.ofW (cc := b_Al_init) (maxL := 1) (ret := none) (by decide) rfl ?_
  intro p e s m args below meth c s₁ B hml hv
  obtain ⟨rfl, hsz, hP, hK, hD0⟩ := hv
  have hx := B.exec
  have hb := B.bytes
  have hr := B.returns
  have hts := atoms_spec (ws := ws_Al_init) B.pre
  have hg : ∀ w ∈ TG, w.before ([.ref al] : List Value).toArray s = true := fun w h => hts w (List.mem_cons_of_mem _ h)
  have hown : s.vm.findClass R_Al = some m.cls := findClass_of_methodNamed B.named
  have hlocks := B.notSynchronized
  have hin : meth.name = "<init>" := (name_of_methodNamed B.named B.method).1
  subst hsz
  have hD := hD0.self (sz := s.heap.size)
  generalize hAe : va_A [(al, .inr (0, [.null, .int ((0 : Int32)), .int ((0 : Int32))]))] s.heap.size = A at hD ⊢
  have hA : ∀ q : Nat, s.heap.size ≤ q → A q := fun q h => by rw [← hAe]; exact Or.inr h
  have hS : va_S A s.heap s.heap [] := va_S.rf
  have hl := lv_entry ([.ref al]) (n := 1) (Nat.le_of_ble_eq_true rfl)
  rw [lg_entry_eq]
  generalize (lg_sl ([.ref al]) ++ List.replicate (1 - (lg_sl ([.ref al])).length) Slot.unset).toArray = ls at hl ⊢
  have hl : lv_has ls 1 [(0, .ref al)] := hl
  refine lv_aload_n hx hb d_Al_init_0 rfl (lv_at hl 0 rfl) ?_
  refine W.objInit hx hb hown (hg _ tw_85) (hg _ tw_21) (hg _ tw_22) rfl (by rw [hml]; exact hl.1) rfl d_Al_init_1 (Nat.le_of_ble_eq_true rfl) (Nat.le_of_ble_eq_true rfl) ?_
  refine W.eq (g2 := F0 m 4 ls []) rfl ?_
  refine lv_aload_n hx hb d_Al_init_4 rfl (lv_at hl 0 rfl) ?_
  refine lv_bipush (v := 24) hx hb d_Al_init_5 (by decide) ?_
  refine wb_newI hx hb (hg _ tw_54) hK hP hD hS hA 24 rfl (by decide) (Nat.le_of_ble_eq_true rfl) (Nat.le_of_ble_eq_true rfl) d_Al_init_7 (fun q1 H hP hD hS => ?_)
  have hP : va_P (dC, dI) vwCl [(al, .inr (0, [.null, .int ((0 : Int32)), .int ((0 : Int32))])), (q1, .inl (cI, 24, .inl (fun _ => 0)))] H := hP
  have hD : va_D A [(al, .inr (0, [.null, .int ((0 : Int32)), .int ((0 : Int32))])), (q1, .inl (cI, 24, .inl (fun _ => 0)))] := hD
  refine W.widen (k := 1) (n := 24) (Nat.le_of_ble_eq_true rfl) (Nat.le_of_ble_eq_true rfl) ?_
  refine va_putF (D := (dC, dI)) (ci := 0) (v := .ref q1) (ty := .array .int) (C := R_Al) (T := T_Al) (N := 3) hx hb hg in_Al ty_Al tyok_Al nm_Al hown hK hP hD hS 0 rfl rfl 0 (by decide) (hg _ tw_89) (fun _ h9 => h9) rfl hin rfl (by decide +kernel) rfl rfl (Nat.le_of_ble_eq_true rfl) d_Al_init_9 (fun H locs hP hD hS => ?_)
  have hP : va_P (dC, dI) vwCl [(al, .inr (0, [.ref q1, .int ((0 : Int32)), .int ((0 : Int32))])), (q1, .inl (cI, 24, .inl (fun _ => 0)))] H := hP
  have hD : va_D A [(al, .inr (0, [.ref q1, .int ((0 : Int32)), .int ((0 : Int32))])), (q1, .inl (cI, 24, .inl (fun _ => 0)))] := hD
  refine lv_aload_n hx hb d_Al_init_12 rfl (lv_at hl 0 rfl) ?_
  refine va_get (D := (dC, dI)) (ci := 0) (v := .ref q1) (C := R_Al) (T := T_Al) (N := 3) hx hb hg in_Al hown hK hP 0 rfl rfl 0 (by decide) (hg _ tw_89) (fun _ h9 => h9) rfl d_Al_init_13 ?_
  refine lv_iconst (v := -1) hx hb d_Al_init_16 (by decide) ?_
  refine chSv (wr := [(al, .inr (0, [.ref q1, .int ((0 : Int32)), .int ((0 : Int32))]))]) (As := [.ref q1, .int ((-1 : Int32))]) (rest := []) ⟨hx, hb, hml, hown, hg⟩ (c_Ar_fill l dC dI cI q1 24 (fun _ => 0) ((-1 : Int32)) _ (by decide)) (va_cwS 2 hg (tg_S tw_86 tw_87 tw_5 tw_88) rfl rfl rfl (by decide +kernel) ⟨Nat.le_of_ble_eq_true rfl, Nat.le_of_ble_eq_true rfl⟩) (hK.sub [0] rfl) hP hD hS hA [1] [0] rfl rfl (by decide) (by decide) (by decide) rfl hl.1 rfl (lv_room (Nat.le_of_ble_eq_true rfl)) d_Al_init_17 ⟨Nat.le_of_ble_eq_true rfl, Nat.le_of_ble_eq_true rfl⟩ (fun u2 H locs w3 hP hD hS => ?_)
  have hP : va_P (dC, dI) vwCl [(al, .inr (0, [.ref q1, .int ((0 : Int32)), .int ((0 : Int32))])), (q1, .inl (cI, 24, .inl (filF (fun _ => 0) ((-1 : Int32)) 24)))] H := hP
  have hD : va_D A [(al, .inr (0, [.ref q1, .int ((0 : Int32)), .int ((0 : Int32))])), (q1, .inl (cI, 24, .inl (filF (fun _ => 0) ((-1 : Int32)) 24)))] := hD
  have hP9 : va_P (dC, dI) vwCl [(al, .inr (0, [.ref q1, .int ((0 : Int32)), .int ((0 : Int32))])), (q1, .inl (cI, 24, .inl (filF (fun _ => 0) (-1) 24)))] _ := hP.sub [0, 1] rfl
  have hD9 : va_D A [(al, .inr (0, [.ref q1, .int ((0 : Int32)), .int ((0 : Int32))])), (q1, .inl (cI, 24, .inl (filF (fun _ => 0) (-1) 24)))] := hD.sub [0, 1] (by decide) rfl
  refine W.widen (k := 1) (n := 24) (Nat.le_of_ble_eq_true rfl) (Nat.le_of_ble_eq_true rfl) ?_
  exact W.vret hx hb hr (fun t ht hW => ⟨⟨q1, rfl, trivial, by rw [ht]; exact hP9, va_K.moved hW.alike hK, hD9⟩, hS.F ht⟩) hS.2.2 d_Al_init_20
end
section
/-! AllocForge$Allocation: counts over the homes, the price of slots -/
set_option maxHeartbeats 4000000 in
set_option maxRecDepth 100000 in
theorem c_Al_valuesAt (l : Launch) (dC : Nat → ClassId) (dI : Nat → Nat → Nat) (cI : ClassId) (al : Nat) (ah : Nat) (k : Nat) (ev : Nat) (hm : Nat → Int32) (x : Int32) : Met l y_Al_valuesAt ws_Al_valuesAt (lvR 0 0 0) (va_Pc [.ref al, .int x] (PB (dC, dI) vwCl [(al, .inr (0, [.ref ah, .int (nI k), .int (nI ev)])), (ah, .inl (cI, 24, .inl hm))] [(cI, .int)])) (vp_Si (fun r => r = nI (cnt hm x 24))) 0 0 (fun _ => False) := by
  refine Met.ofW (cc := b_Al_valuesAt) (maxL := 4) (ret := (some .int)) (by decide) rfl ?_
  intro p e s m args below meth c s₁ B hml hv
  obtain ⟨rfl, hP, hK⟩ := hv
  have hx := B.exec
  have hb := B.bytes
  have hr := B.returns
  have hts := atoms_spec (ws := ws_Al_valuesAt) B.pre
  have hg : ∀ w ∈ TG, w.before ([.ref al, .int x] : List Value).toArray s = true := fun w h => hts w (List.mem_cons_of_mem _ h)
  have hown : s.vm.findClass R_Al = some m.cls := findClass_of_methodNamed B.named
  have hlocks := B.notSynchronized
  have hl := lv_entry ([.ref al, .int x]) (n := 4) (Nat.le_of_ble_eq_true rfl)
  rw [lg_entry_eq]
  generalize (lg_sl ([.ref al, .int x]) ++ List.replicate (4 - (lg_sl ([.ref al, .int x])).length) Slot.unset).toArray = ls at hl ⊢
  have hl : lv_has ls 4 [(0, .ref al), (1, .int x)] := hl
  refine lv_iconst (v := 0) hx hb d_Al_valuesAt_0 (by decide) ?_
  refine lv_istore_n (lv' := [(2, .int ((0 : Int32))), (0, .ref al), (1, .int x)]) hx hb d_Al_valuesAt_1 rfl hl (by decide) rfl (fun ls hl => ?_)
  refine lv_iconst (v := 0) hx hb d_Al_valuesAt_2 (by decide) ?_
  refine lv_istore_n (lv' := [(3, .int ((0 : Int32))), (2, .int ((0 : Int32))), (0, .ref al), (1, .int x)]) hx hb d_Al_valuesAt_3 rfl hl (by decide) rfl (fun ls hl => ?_)
  refine wb_loopP (σ := Nat × Nat) 4 (fun x1 ls => lv_has ls 4 [(3, .int (nI x1.2)), (2, .int (nI x1.1)), (0, .ref al), (1, .int x)] ∧ (x1.2 ≤ 24) ∧ (x1.1 = cnt hm x x1.2)) (fun x1 => 25 - x1.2) ?_ (0, 0) ls ⟨lv_sub hl [0, 1, 2, 3] rfl, (by decide), rfl⟩
  clear hl
  intro x1 ls hI3 ih2
  obtain ⟨a, v⟩ := x1
  obtain ⟨hl, hv, ha⟩ := hI3
  have hl : lv_has ls 4 [(3, .int (nI v)), (2, .int (nI a)), (0, .ref al), (1, .int x)] := hl
  have hv : v ≤ 24 := hv
  have ha : a = cnt hm x v := ha
  refine lv_iload_n hx hb d_Al_valuesAt_4 rfl (lv_at hl 0 rfl) ?_
  refine lv_aload_n hx hb d_Al_valuesAt_5 rfl (lv_at hl 2 rfl) ?_
  refine va_get (D := (dC, dI)) (ci := 0) (v := .ref ah) (C := R_Al) (T := T_Al) (N := 3) hx hb hg in_Al hown hK hP 0 rfl rfl 0 (by decide) (hg _ tw_89) (fun _ h9 => h9) rfl d_Al_valuesAt_6 ?_
  refine va_alen (v := nI 24) hx hb hK hP 1 0 rfl rfl rfl d_Al_valuesAt_9 ?_
  refine wb_icmp_ge (tgt := 32) hx hb v 24 rfl rfl (by first | decide | exact Nat.lt_of_le_of_lt hv (by decide)) (by first | decide | exact Nat.lt_of_le_of_lt hv (by decide)) d_Al_valuesAt_10 (by decide) (fun c4 => ?_) (fun c4 => ?_)
  · refine lv_iload_n hx hb d_Al_valuesAt_32 rfl (lv_at hl 1 rfl) ?_
    exact W.iret (v := nI a) hx hb hr (fun t ht hW => ⟨_, rfl, (congrArg nI (ha.trans (congrArg (cnt hm x) (Nat.le_antisymm hv c4)))), ht⟩) (fun q h => by cases h) d_Al_valuesAt_33
  · refine lv_aload_n hx hb d_Al_valuesAt_13 rfl (lv_at hl 2 rfl) ?_
    refine va_get (D := (dC, dI)) (ci := 0) (v := .ref ah) (C := R_Al) (T := T_Al) (N := 3) hx hb hg in_Al hown hK hP 0 rfl rfl 0 (by decide) (hg _ tw_89) (fun _ h9 => h9) rfl d_Al_valuesAt_14 ?_
    refine lv_iload_n hx hb d_Al_valuesAt_17 rfl (lv_at hl 0 rfl) ?_
    refine wb_iald hx hb hK hP 1 0 rfl rfl v rfl c4 (by decide) d_Al_valuesAt_18 ?_
    refine lv_iload_n hx hb d_Al_valuesAt_19 rfl (lv_at hl 3 rfl) ?_
    refine lv_icmp_ne (tgt := 26) hx hb d_Al_valuesAt_20 (by decide) (fun c5 => ?_) (fun c5 => ?_)
    · refine lv_iinc (v := (nI (v + 1))) (lv' := [(3, .int (nI (v + 1))), (2, .int (nI a)), (0, .ref al), (1, .int x)]) hx hb d_Al_valuesAt_26 hl (k := 0) rfl (nI_add _ 1) (by decide) rfl (fun ls hl => ?_)
      refine lv_goto (tgt := 4) hx hb d_Al_valuesAt_29 (by decide) ?_
      exact ih2 (a, v + 1) ls ⟨lv_sub hl [0, 1, 2, 3] rfl, c4, (cnt_n ha c5)⟩ (by show 25 - (v + 1) < 25 - v; omega)
    · refine lv_iinc (v := (nI (a + 1))) (lv' := [(2, .int (nI (a + 1))), (3, .int (nI v)), (0, .ref al), (1, .int x)]) hx hb d_Al_valuesAt_23 hl (k := 1) rfl (nI_add _ 1) (by decide) rfl (fun ls hl => ?_)
      refine lv_iinc (v := (nI (v + 1))) (lv' := [(3, .int (nI (v + 1))), (2, .int (nI (a + 1))), (0, .ref al), (1, .int x)]) hx hb d_Al_valuesAt_26 hl (k := 1) rfl (nI_add _ 1) (by decide) rfl (fun ls hl => ?_)
      refine lv_goto (tgt := 4) hx hb d_Al_valuesAt_29 (by decide) ?_
      exact ih2 (a + 1, v + 1) ls ⟨lv_sub hl [0, 1, 2, 3] rfl, c4, (cnt_y ha c5)⟩ (by show 25 - (v + 1) < 25 - v; omega)

set_option maxHeartbeats 4000000 in
set_option maxRecDepth 100000 in
theorem c_Al_valuesFrom (l : Launch) (dC : Nat → ClassId) (dI : Nat → Nat → Nat) (cI : ClassId) (al : Nat) (ah : Nat) (k : Nat) (ev : Nat) (hm : Nat → Int32) (f : Nat) (g : Nat) (hfg : f + g ≤ 1000) : Met l y_Al_valuesFrom ws_Al_valuesFrom (lvR 1 0 0) (va_Pc [.ref al, .int (nI f), .int (nI g)] (PB (dC, dI) vwCl [(al, .inr (0, [.ref ah, .int (nI k), .int (nI ev)])), (ah, .inl (cI, 24, .inl hm))] [(cI, .int)])) (vp_Si (fun r => r = nI (vF hm f g))) 0 0 (fun _ => False) := by
  refine Met.ofW (cc := b_Al_valuesFrom) (maxL := 5) (ret := (some .int)) (by decide) rfl ?_
  intro p e s m args below meth c s₁ B hml hv
  obtain ⟨rfl, hP, hK⟩ := hv
  have hx := B.exec
  have hb := B.bytes
  have hr := B.returns
  have hts := atoms_spec (ws := ws_Al_valuesFrom) B.pre
  have hg : ∀ w ∈ TG, w.before ([.ref al, .int (nI f), .int (nI g)] : List Value).toArray s = true := fun w h => hts w (List.mem_cons_of_mem _ h)
  have hown : s.vm.findClass R_Al = some m.cls := findClass_of_methodNamed B.named
  have hlocks := B.notSynchronized
  have hl := lv_entry ([.ref al, .int (nI f), .int (nI g)]) (n := 5) (Nat.le_of_ble_eq_true rfl)
  rw [lg_entry_eq]
  generalize (lg_sl ([.ref al, .int (nI f), .int (nI g)]) ++ List.replicate (5 - (lg_sl ([.ref al, .int (nI f), .int (nI g)])).length) Slot.unset).toArray = ls at hl ⊢
  have hl : lv_has ls 5 [(0, .ref al), (1, .int (nI f)), (2, .int (nI g))] := hl
  refine lv_iconst (v := 0) hx hb d_Al_valuesFrom_0 (by decide) ?_
  refine lv_istore_n (lv' := [(3, .int ((0 : Int32))), (0, .ref al), (1, .int (nI f)), (2, .int (nI g))]) hx hb d_Al_valuesFrom_1 rfl hl (by decide) rfl (fun ls hl => ?_)
  refine lv_iload_n hx hb d_Al_valuesFrom_2 rfl (lv_at hl 2 rfl) ?_
  refine lv_istore (lv' := [(4, .int (nI f)), (3, .int ((0 : Int32))), (0, .ref al), (1, .int (nI f)), (2, .int (nI g))]) hx hb d_Al_valuesFrom_3 hl (by decide) rfl (fun ls hl => ?_)
  refine wb_loopP (σ := Nat × Nat) 5 (fun x1 ls => lv_has ls 5 [(4, .int (nI (f + x1.2))), (3, .int (nI x1.1)), (0, .ref al), (1, .int (nI f)), (2, .int (nI g))] ∧ (x1.2 ≤ g) ∧ (x1.1 = vF hm f x1.2)) (fun x1 => g - x1.2) ?_ (0, 0) ls ⟨lv_sub hl [0, 1, 2, 3, 4] rfl, (Nat.zero_le _), rfl⟩
  clear hl
  intro x1 ls hI3 ih2
  obtain ⟨a, i⟩ := x1
  obtain ⟨hl, hi, ha⟩ := hI3
  have hl : lv_has ls 5 [(4, .int (nI (f + i))), (3, .int (nI a)), (0, .ref al), (1, .int (nI f)), (2, .int (nI g))] := hl
  have hi : i ≤ g := hi
  have ha : a = vF hm f i := ha
  refine lv_iload hx hb d_Al_valuesFrom_5 (lv_at hl 0 rfl) ?_
  refine lv_iload_n hx hb d_Al_valuesFrom_7 rfl (lv_at hl 3 rfl) ?_
  refine lv_iload_n hx hb d_Al_valuesFrom_8 rfl (lv_at hl 4 rfl) ?_
  refine wb_iadd hx hb f g rfl rfl d_Al_valuesFrom_9 ?_
  refine wb_icmp_ge (tgt := 28) hx hb (f + i) (f + g) rfl rfl (by omega) (by omega) d_Al_valuesFrom_10 (by decide) (fun c4 => ?_) (fun c4 => ?_)
  · refine lv_iload_n hx hb d_Al_valuesFrom_28 rfl (lv_at hl 1 rfl) ?_
    exact W.iret (v := nI a) hx hb hr (fun t ht hW => ⟨_, rfl, (congrArg nI (ha.trans (congrArg (vF hm f) (Nat.le_antisymm hi (Nat.le_of_add_le_add_left c4))))), ht⟩) (fun q h => by cases h) d_Al_valuesFrom_29
  · refine lv_iload_n hx hb d_Al_valuesFrom_13 rfl (lv_at hl 1 rfl) ?_
    refine lv_aload_n hx hb d_Al_valuesFrom_14 rfl (lv_at hl 2 rfl) ?_
    refine lv_iload hx hb d_Al_valuesFrom_15 (lv_at hl 0 rfl) ?_
    refine rdV (ci := 0) (q0 := 0) (As := [.int (nI (f + i))]) (rest := [.int (nI a)]) ⟨hx, hb, hml, hown, hg⟩ (c_Al_valuesAt l dC dI cI al ah k ev hm (nI (f + i))) (cwV 1 hg (tg_V tw_320 tw_322 sp_Al_valuesAt tw_4 tw_323) rfl rfl rfl (by decide +kernel) ⟨Nat.le_of_ble_eq_true rfl, Nat.le_of_ble_eq_true rfl⟩) (hK.sub [0] rfl) (hP.sub [0, 1] rfl) rfl rfl rfl hl.1 rfl (lv_room (Nat.le_of_ble_eq_true rfl)) d_Al_valuesFrom_17 ⟨Nat.le_of_ble_eq_true rfl, Nat.le_of_ble_eq_true rfl⟩ ?_
    refine wb_iadd hx hb a (cnt hm (nI (f + i)) 24) rfl rfl d_Al_valuesFrom_20 ?_
    refine lv_istore_n (lv' := [(3, .int (nI (a + (cnt hm (nI (f + i)) 24)))), (4, .int (nI (f + i))), (0, .ref al), (1, .int (nI f)), (2, .int (nI g))]) hx hb d_Al_valuesFrom_21 rfl hl (by decide) rfl (fun ls hl => ?_)
    refine lv_iinc (v := (nI (f + i + 1))) (lv' := [(4, .int (nI (f + i + 1))), (3, .int (nI (a + (cnt hm (nI (f + i)) 24)))), (0, .ref al), (1, .int (nI f)), (2, .int (nI g))]) hx hb d_Al_valuesFrom_22 hl (k := 1) rfl (nI_add _ 1) (by decide) rfl (fun ls hl => ?_)
    refine lv_goto (tgt := 5) hx hb d_Al_valuesFrom_25 (by decide) ?_
    exact ih2 (a + (cnt hm (nI (f + i)) 24), i + 1) ls ⟨lv_sub hl [0, 1, 2, 3, 4] rfl, (Nat.lt_of_add_lt_add_left c4), (by rw [ha]; rfl)⟩ (by show g - (i + 1) < g - i; have := c4; omega)

set_option maxHeartbeats 4000000 in
set_option maxRecDepth 100000 in
theorem c_Al_homesUsed (l : Launch) (dC : Nat → ClassId) (dI : Nat → Nat → Nat) (cI : ClassId) (al : Nat) (ah : Nat) (k : Nat) (ev : Nat) (hm : Nat → Int32) (f : Nat) (g : Nat) (hfg : f + g ≤ 1000) : Met l y_Al_homesUsed ws_Al_homesUsed (lvR 1 0 0) (va_Pc [.ref al, .int (nI f), .int (nI g)] (PB (dC, dI) vwCl [(al, .inr (0, [.ref ah, .int (nI k), .int (nI ev)])), (ah, .inl (cI, 24, .inl hm))] [(cI, .int)])) (vp_Si (fun r => r = nI (hU hm f g))) 0 0 (fun _ => False) := by
  refine Met.ofW (cc := b_Al_homesUsed) (maxL := 5) (ret := (some .int)) (by decide) rfl ?_
  intro p e s m args below meth c s₁ B hml hv
  obtain ⟨rfl, hP, hK⟩ := hv
  have hx := B.exec
  have hb := B.bytes
  have hr := B.returns
  have hts := atoms_spec (ws := ws_Al_homesUsed) B.pre
  have hg : ∀ w ∈ TG, w.before ([.ref al, .int (nI f), .int (nI g)] : List Value).toArray s = true := fun w h => hts w (List.mem_cons_of_mem _ h)
  have hown : s.vm.findClass R_Al = some m.cls := findClass_of_methodNamed B.named
  have hlocks := B.notSynchronized
  have hl := lv_entry ([.ref al, .int (nI f), .int (nI g)]) (n := 5) (Nat.le_of_ble_eq_true rfl)
  rw [lg_entry_eq]
  generalize (lg_sl ([.ref al, .int (nI f), .int (nI g)]) ++ List.replicate (5 - (lg_sl ([.ref al, .int (nI f), .int (nI g)])).length) Slot.unset).toArray = ls at hl ⊢
  have hl : lv_has ls 5 [(0, .ref al), (1, .int (nI f)), (2, .int (nI g))] := hl
  refine lv_iconst (v := 0) hx hb d_Al_homesUsed_0 (by decide) ?_
  refine lv_istore_n (lv' := [(3, .int ((0 : Int32))), (0, .ref al), (1, .int (nI f)), (2, .int (nI g))]) hx hb d_Al_homesUsed_1 rfl hl (by decide) rfl (fun ls hl => ?_)
  refine lv_iload_n hx hb d_Al_homesUsed_2 rfl (lv_at hl 2 rfl) ?_
  refine lv_istore (lv' := [(4, .int (nI f)), (3, .int ((0 : Int32))), (0, .ref al), (1, .int (nI f)), (2, .int (nI g))]) hx hb d_Al_homesUsed_3 hl (by decide) rfl (fun ls hl => ?_)
  refine wb_loopP (σ := Nat × Nat) 5 (fun x1 ls => lv_has ls 5 [(4, .int (nI (f + x1.2))), (3, .int (nI x1.1)), (0, .ref al), (1, .int (nI f)), (2, .int (nI g))] ∧ (x1.2 ≤ g) ∧ (x1.1 = hU hm f x1.2)) (fun x1 => g - x1.2) ?_ (0, 0) ls ⟨lv_sub hl [0, 1, 2, 3, 4] rfl, (Nat.zero_le _), rfl⟩
  clear hl
  intro x1 ls hI3 ih2
  obtain ⟨a, i⟩ := x1
  obtain ⟨hl, hi, ha⟩ := hI3
  have hl : lv_has ls 5 [(4, .int (nI (f + i))), (3, .int (nI a)), (0, .ref al), (1, .int (nI f)), (2, .int (nI g))] := hl
  have hi : i ≤ g := hi
  have ha : a = hU hm f i := ha
  refine lv_iload hx hb d_Al_homesUsed_5 (lv_at hl 0 rfl) ?_
  refine lv_iload_n hx hb d_Al_homesUsed_7 rfl (lv_at hl 3 rfl) ?_
  refine lv_iload_n hx hb d_Al_homesUsed_8 rfl (lv_at hl 4 rfl) ?_
  refine wb_iadd hx hb f g rfl rfl d_Al_homesUsed_9 ?_
  refine wb_icmp_ge (tgt := 31) hx hb (f + i) (f + g) rfl rfl (by omega) (by omega) d_Al_homesUsed_10 (by decide) (fun c4 => ?_) (fun c4 => ?_)
  · refine lv_iload_n hx hb d_Al_homesUsed_31 rfl (lv_at hl 1 rfl) ?_
    exact W.iret (v := nI a) hx hb hr (fun t ht hW => ⟨_, rfl, (congrArg nI (ha.trans (congrArg (hU hm f) (Nat.le_antisymm hi (Nat.le_of_add_le_add_left c4))))), ht⟩) (fun q h => by cases h) d_Al_homesUsed_32
  · refine lv_aload_n hx hb d_Al_homesUsed_13 rfl (lv_at hl 2 rfl) ?_
    refine lv_iload hx hb d_Al_homesUsed_14 (lv_at hl 0 rfl) ?_
    refine rdV (ci := 0) (q0 := 0) (As := [.int (nI (f + i))]) (rest := []) ⟨hx, hb, hml, hown, hg⟩ (c_Al_valuesAt l dC dI cI al ah k ev hm (nI (f + i))) (cwV 1 hg (tg_V tw_320 tw_322 sp_Al_valuesAt tw_4 tw_323) rfl rfl rfl (by decide +kernel) ⟨Nat.le_of_ble_eq_true rfl, Nat.le_of_ble_eq_true rfl⟩) (hK.sub [0] rfl) (hP.sub [0, 1] rfl) rfl rfl rfl hl.1 rfl (lv_room (Nat.le_of_ble_eq_true rfl)) d_Al_homesUsed_16 ⟨Nat.le_of_ble_eq_true rfl, Nat.le_of_ble_eq_true rfl⟩ ?_
    refine lv_if_le (tgt := 25) hx hb d_Al_homesUsed_19 (by decide) (fun c5 => ?_) (fun c5 => ?_)
    · refine lv_iinc (v := (nI (f + i + 1))) (lv' := [(4, .int (nI (f + i + 1))), (3, .int (nI a)), (0, .ref al), (1, .int (nI f)), (2, .int (nI g))]) hx hb d_Al_homesUsed_25 hl (k := 0) rfl (nI_add _ 1) (by decide) rfl (fun ls hl => ?_)
      refine lv_goto (tgt := 5) hx hb d_Al_homesUsed_28 (by decide) ?_
      exact ih2 (a, i + 1) ls ⟨lv_sub hl [0, 1, 2, 3, 4] rfl, (Nat.lt_of_add_lt_add_left c4), (hU_n ha (fun q => absurd c5 (nI_nle q (Nat.lt_of_le_of_lt (cnt_le _ _ _) (by decide)))))⟩ (by show g - (i + 1) < g - i; have := c4; omega)
    · refine lv_iinc (v := (nI (a + 1))) (lv' := [(3, .int (nI (a + 1))), (4, .int (nI (f + i))), (0, .ref al), (1, .int (nI f)), (2, .int (nI g))]) hx hb d_Al_homesUsed_22 hl (k := 1) rfl (nI_add _ 1) (by decide) rfl (fun ls hl => ?_)
      refine lv_iinc (v := (nI (f + i + 1))) (lv' := [(4, .int (nI (f + i + 1))), (3, .int (nI (a + 1))), (0, .ref al), (1, .int (nI f)), (2, .int (nI g))]) hx hb d_Al_homesUsed_25 hl (k := 1) rfl (nI_add _ 1) (by decide) rfl (fun ls hl => ?_)
      refine lv_goto (tgt := 5) hx hb d_Al_homesUsed_28 (by decide) ?_
      exact ih2 (a + 1, i + 1) ls ⟨lv_sub hl [0, 1, 2, 3, 4] rfl, (Nat.lt_of_add_lt_add_left c4), (hU_y ha (Nat.pos_of_ne_zero (fun q => c5 (by rw [q]; decide))))⟩ (by show g - (i + 1) < g - i; have := c4; omega)

set_option maxHeartbeats 4000000 in
set_option maxRecDepth 100000 in
theorem c_Al_valuesInRegisters (l : Launch) (dC : Nat → ClassId) (dI : Nat → Nat → Nat) (cI : ClassId) (al : Nat) (ah : Nat) (k : Nat) (ev : Nat) (hm : Nat → Int32) : Met l y_Al_valuesInRegisters ws_Al_valuesInRegisters (lvR 2 0 0) (va_Pc [.ref al] (PB (dC, dI) vwCl [(al, .inr (0, [.ref ah, .int (nI k), .int (nI ev)])), (ah, .inl (cI, 24, .inl hm))] [(cI, .int)])) (vp_Si (fun r => r = nI (vF hm 0 5))) 0 0 (fun _ => False) := by
  refine Met.ofW (cc := b_Al_valuesInRegisters) (maxL := 1) (ret := (some .int)) (by decide) rfl ?_
  intro p e s m args below meth c s₁ B hml hv
  obtain ⟨rfl, hP, hK⟩ := hv
  have hx := B.exec
  have hb := B.bytes
  have hr := B.returns
  have hts := atoms_spec (ws := ws_Al_valuesInRegisters) B.pre
  have hg : ∀ w ∈ TG, w.before ([.ref al] : List Value).toArray s = true := fun w h => hts w (List.mem_cons_of_mem _ h)
  have hown : s.vm.findClass R_Al = some m.cls := findClass_of_methodNamed B.named
  have hlocks := B.notSynchronized
  have hl := lv_entry ([.ref al]) (n := 1) (Nat.le_of_ble_eq_true rfl)
  rw [lg_entry_eq]
  generalize (lg_sl ([.ref al]) ++ List.replicate (1 - (lg_sl ([.ref al])).length) Slot.unset).toArray = ls at hl ⊢
  have hl : lv_has ls 1 [(0, .ref al)] := hl
  refine lv_aload_n hx hb d_Al_valuesInRegisters_0 rfl (lv_at hl 0 rfl) ?_
  refine lv_iconst (v := 0) hx hb d_Al_valuesInRegisters_1 (by decide) ?_
  refine lv_iconst (v := 5) hx hb d_Al_valuesInRegisters_2 (by decide) ?_
  refine rdV (ci := 0) (q0 := 0) (As := [.int ((0 : Int32)), .int ((5 : Int32))]) (rest := []) ⟨hx, hb, hml, hown, hg⟩ (c_Al_valuesFrom l dC dI cI al ah k ev hm 0 5 (by decide)) (cwV 2 hg (tg_V tw_316 tw_318 sp_Al_valuesFrom tw_4 tw_319) rfl rfl rfl (by decide +kernel) ⟨Nat.le_of_ble_eq_true rfl, Nat.le_of_ble_eq_true rfl⟩) (hK.sub [0] rfl) (hP.sub [0, 1] rfl) rfl rfl rfl hl.1 rfl (lv_room (Nat.le_of_ble_eq_true rfl)) d_Al_valuesInRegisters_3 ⟨Nat.le_of_ble_eq_true rfl, Nat.le_of_ble_eq_true rfl⟩ ?_
  exact W.iret (v := nI (vF hm 0 5)) hx hb hr (fun t ht hW => ⟨_, rfl, rfl, ht⟩) (fun q h => by cases h) d_Al_valuesInRegisters_6

set_option maxHeartbeats 4000000 in
set_option maxRecDepth 100000 in
theorem c_Al_valuesInSlots (l : Launch) (dC : Nat → ClassId) (dI : Nat → Nat → Nat) (cI : ClassId) (al : Nat) (ah : Nat) (k : Nat) (ev : Nat) (hm : Nat → Int32) : Met l y_Al_valuesInSlots ws_Al_valuesInSlots (lvR 2 0 0) (va_Pc [.ref al] (PB (dC, dI) vwCl [(al, .inr (0, [.ref ah, .int (nI k), .int (nI ev)])), (ah, .inl (cI, 24, .inl hm))] [(cI, .int)])) (vp_Si (fun r => r = nI (vF hm 10 6))) 0 0 (fun _ => False) := by
  refine Met.ofW (cc := b_Al_valuesInSlots) (maxL := 1) (ret := (some .int)) (by decide) rfl ?_
  intro p e s m args below meth c s₁ B hml hv
  obtain ⟨rfl, hP, hK⟩ := hv
  have hx := B.exec
  have hb := B.bytes
  have hr := B.returns
  have hts := atoms_spec (ws := ws_Al_valuesInSlots) B.pre
  have hg : ∀ w ∈ TG, w.before ([.ref al] : List Value).toArray s = true := fun w h => hts w (List.mem_cons_of_mem _ h)
  have hown : s.vm.findClass R_Al = some m.cls := findClass_of_methodNamed B.named
  have hlocks := B.notSynchronized
  have hl := lv_entry ([.ref al]) (n := 1) (Nat.le_of_ble_eq_true rfl)
  rw [lg_entry_eq]
  generalize (lg_sl ([.ref al]) ++ List.replicate (1 - (lg_sl ([.ref al])).length) Slot.unset).toArray = ls at hl ⊢
  have hl : lv_has ls 1 [(0, .ref al)] := hl
  refine lv_aload_n hx hb d_Al_valuesInSlots_0 rfl (lv_at hl 0 rfl) ?_
  refine lv_bipush (v := 10) hx hb d_Al_valuesInSlots_1 (by decide) ?_
  refine lv_bipush (v := 6) hx hb d_Al_valuesInSlots_3 (by decide) ?_
  refine rdV (ci := 0) (q0 := 0) (As := [.int ((10 : Int32)), .int ((6 : Int32))]) (rest := []) ⟨hx, hb, hml, hown, hg⟩ (c_Al_valuesFrom l dC dI cI al ah k ev hm 10 6 (by decide)) (cwV 2 hg (tg_V tw_316 tw_318 sp_Al_valuesFrom tw_4 tw_319) rfl rfl rfl (by decide +kernel) ⟨Nat.le_of_ble_eq_true rfl, Nat.le_of_ble_eq_true rfl⟩) (hK.sub [0] rfl) (hP.sub [0, 1] rfl) rfl rfl rfl hl.1 rfl (lv_room (Nat.le_of_ble_eq_true rfl)) d_Al_valuesInSlots_5 ⟨Nat.le_of_ble_eq_true rfl, Nat.le_of_ble_eq_true rfl⟩ ?_
  exact W.iret (v := nI (vF hm 10 6)) hx hb hr (fun t ht hW => ⟨_, rfl, rfl, ht⟩) (fun q h => by cases h) d_Al_valuesInSlots_8

set_option maxHeartbeats 4000000 in
set_option maxRecDepth 100000 in
theorem c_Al_registersUsed (l : Launch) (dC : Nat → ClassId) (dI : Nat → Nat → Nat) (cI : ClassId) (al : Nat) (ah : Nat) (k : Nat) (ev : Nat) (hm : Nat → Int32) : Met l y_Al_registersUsed ws_Al_registersUsed (lvR 2 0 0) (va_Pc [.ref al] (PB (dC, dI) vwCl [(al, .inr (0, [.ref ah, .int (nI k), .int (nI ev)])), (ah, .inl (cI, 24, .inl hm))] [(cI, .int)])) (vp_Si (fun r => r = nI (hU hm 0 5))) 0 0 (fun _ => False) := by
  refine Met.ofW (cc := b_Al_registersUsed) (maxL := 1) (ret := (some .int)) (by decide) rfl ?_
  intro p e s m args below meth c s₁ B hml hv
  obtain ⟨rfl, hP, hK⟩ := hv
  have hx := B.exec
  have hb := B.bytes
  have hr := B.returns
  have hts := atoms_spec (ws := ws_Al_registersUsed) B.pre
  have hg : ∀ w ∈ TG, w.before ([.ref al] : List Value).toArray s = true := fun w h => hts w (List.mem_cons_of_mem _ h)
  have hown : s.vm.findClass R_Al = some m.cls := findClass_of_methodNamed B.named
  have hlocks := B.notSynchronized
  have hl := lv_entry ([.ref al]) (n := 1) (Nat.le_of_ble_eq_true rfl)
  rw [lg_entry_eq]
  generalize (lg_sl ([.ref al]) ++ List.replicate (1 - (lg_sl ([.ref al])).length) Slot.unset).toArray = ls at hl ⊢
  have hl : lv_has ls 1 [(0, .ref al)] := hl
  refine lv_aload_n hx hb d_Al_registersUsed_0 rfl (lv_at hl 0 rfl) ?_
  refine lv_iconst (v := 0) hx hb d_Al_registersUsed_1 (by decide) ?_
  refine lv_iconst (v := 5) hx hb d_Al_registersUsed_2 (by decide) ?_
  refine rdV (ci := 0) (q0 := 0) (As := [.int ((0 : Int32)), .int ((5 : Int32))]) (rest := []) ⟨hx, hb, hml, hown, hg⟩ (c_Al_homesUsed l dC dI cI al ah k ev hm 0 5 (by decide)) (cwV 2 hg (tg_V tw_555 tw_557 sp_Al_homesUsed tw_4 tw_558) rfl rfl rfl (by decide +kernel) ⟨Nat.le_of_ble_eq_true rfl, Nat.le_of_ble_eq_true rfl⟩) (hK.sub [0] rfl) (hP.sub [0, 1] rfl) rfl rfl rfl hl.1 rfl (lv_room (Nat.le_of_ble_eq_true rfl)) d_Al_registersUsed_3 ⟨Nat.le_of_ble_eq_true rfl, Nat.le_of_ble_eq_true rfl⟩ ?_
  exact W.iret (v := nI (hU hm 0 5)) hx hb hr (fun t ht hW => ⟨_, rfl, rfl, ht⟩) (fun q h => by cases h) d_Al_registersUsed_6

set_option maxHeartbeats 4000000 in
set_option maxRecDepth 100000 in
theorem c_Al_slotsUsed (l : Launch) (dC : Nat → ClassId) (dI : Nat → Nat → Nat) (cI : ClassId) (al : Nat) (ah : Nat) (k : Nat) (ev : Nat) (hm : Nat → Int32) : Met l y_Al_slotsUsed ws_Al_slotsUsed (lvR 2 0 0) (va_Pc [.ref al] (PB (dC, dI) vwCl [(al, .inr (0, [.ref ah, .int (nI k), .int (nI ev)])), (ah, .inl (cI, 24, .inl hm))] [(cI, .int)])) (vp_Si (fun r => r = nI (hU hm 10 6))) 0 0 (fun _ => False) := by
  refine Met.ofW (cc := b_Al_slotsUsed) (maxL := 1) (ret := (some .int)) (by decide) rfl ?_
  intro p e s m args below meth c s₁ B hml hv
  obtain ⟨rfl, hP, hK⟩ := hv
  have hx := B.exec
  have hb := B.bytes
  have hr := B.returns
  have hts := atoms_spec (ws := ws_Al_slotsUsed) B.pre
  have hg : ∀ w ∈ TG, w.before ([.ref al] : List Value).toArray s = true := fun w h => hts w (List.mem_cons_of_mem _ h)
  have hown : s.vm.findClass R_Al = some m.cls := findClass_of_methodNamed B.named
  have hlocks := B.notSynchronized
  have hl := lv_entry ([.ref al]) (n := 1) (Nat.le_of_ble_eq_true rfl)
  rw [lg_entry_eq]
  generalize (lg_sl ([.ref al]) ++ List.replicate (1 - (lg_sl ([.ref al])).length) Slot.unset).toArray = ls at hl ⊢
  have hl : lv_has ls 1 [(0, .ref al)] := hl
  refine lv_aload_n hx hb d_Al_slotsUsed_0 rfl (lv_at hl 0 rfl) ?_
  refine lv_bipush (v := 10) hx hb d_Al_slotsUsed_1 (by decide) ?_
  refine lv_bipush (v := 6) hx hb d_Al_slotsUsed_3 (by decide) ?_
  refine rdV (ci := 0) (q0 := 0) (As := [.int ((10 : Int32)), .int ((6 : Int32))]) (rest := []) ⟨hx, hb, hml, hown, hg⟩ (c_Al_homesUsed l dC dI cI al ah k ev hm 10 6 (by decide)) (cwV 2 hg (tg_V tw_555 tw_557 sp_Al_homesUsed tw_4 tw_558) rfl rfl rfl (by decide +kernel) ⟨Nat.le_of_ble_eq_true rfl, Nat.le_of_ble_eq_true rfl⟩) (hK.sub [0] rfl) (hP.sub [0, 1] rfl) rfl rfl rfl hl.1 rfl (lv_room (Nat.le_of_ble_eq_true rfl)) d_Al_slotsUsed_5 ⟨Nat.le_of_ble_eq_true rfl, Nat.le_of_ble_eq_true rfl⟩ ?_
  exact W.iret (v := nI (hU hm 10 6)) hx hb hr (fun t ht hW => ⟨_, rfl, rfl, ht⟩) (fun q h => by cases h) d_Al_slotsUsed_8
end
section
/-! AllocForge$Allocation with a code: longestWaiting, heaviestMeeting, priceOfSlots -/
set_option maxHeartbeats 4000000 in
set_option maxRecDepth 100000 in
theorem c_Al_priceOfSlots (l : Launch) (dC : Nat → ClassId) (dI : Nat → Nat → Nat) (cI : ClassId) (al : Nat) (ah : Nat) (k : Nat) (ev : Nat) (hm : Nat → Int32) (h : Nat) (o1 : Nat) (o2 : Nat) (o3 : Nat) (o4 : Nat) (o5 : Nat) (o6 : Nat) (n : Nat) (vc : Nat) (ops : Nat → Int32) (lf : Nat → Int32) (rg : Nat → Int32) (E : Nat → Nat) (U : Nat → Nat) (P : Nat → Nat) (hn : n ≤ 24) (hnn : ∀ j, j < n → ¬ hm j < 10 → vf_n64 (FP.dadd (ps P hm j) (FP.i2d (nI (P j))))) : Met l y_Al_priceOfSlots ws_Al_priceOfSlots (lvR 1 0 0) (va_Pc [.ref al, .ref h] (PB (dC, dI) vwCl [(al, .inr (0, [.ref ah, .int (nI k), .int (nI ev)])), (ah, .inl (cI, 24, .inl hm)), (h, .inr (1, [.ref o1, .ref o2, .ref o3, .ref o4, .ref o5, .ref o6, .int (nI n), .int (nI vc)])), (o1, .inl (cI, 24, .inl ops)), (o2, .inl (cI, 24, .inl lf)), (o3, .inl (cI, 24, .inl rg)), (o4, .inl (cI, 24, .inl (fun z9 => nI (E z9)))), (o5, .inl (cI, 24, .inl (fun z9 => nI (U z9)))), (o6, .inl (cI, 24, .inl (fun z9 => nI (P z9))))] [(cI, .int)])) (vp_Sd (fun r => r = ps P hm n)) 0 0 (fun _ => False) := by
  refine Met.ofW (cc := b_Al_priceOfSlots) (maxL := 5) (ret := (some .double)) (by decide) rfl ?_
  intro p e s m args below meth c s₁ B hml hv
  obtain ⟨rfl, hP, hK⟩ := hv
  have hx := B.exec
  have hb := B.bytes
  have hr := B.returns
  have hts := atoms_spec (ws := ws_Al_priceOfSlots) B.pre
  have hg : ∀ w ∈ TG, w.before ([.ref al, .ref h] : List Value).toArray s = true := fun w h => hts w (List.mem_cons_of_mem _ h)
  have hown : s.vm.findClass R_Al = some m.cls := findClass_of_methodNamed B.named
  have hlocks := B.notSynchronized
  have hl := lv_entry ([.ref al, .ref h]) (n := 5) (Nat.le_of_ble_eq_true rfl)
  rw [lg_entry_eq]
  generalize (lg_sl ([.ref al, .ref h]) ++ List.replicate (5 - (lg_sl ([.ref al, .ref h])).length) Slot.unset).toArray = ls at hl ⊢
  have hl : lv_has ls 5 [(0, .ref al), (1, .ref h)] := hl
  refine lv_dconst0 hx hb d_Al_priceOfSlots_0 ?_
  refine lv_dstore_n (lv' := [(2, .double FP.dconst0), (0, .ref al), (1, .ref h)]) hx hb d_Al_priceOfSlots_1 rfl hl (by decide) rfl (fun ls hl => ?_)
  refine lv_iconst (v := 0) hx hb d_Al_priceOfSlots_2 (by decide) ?_
  refine lv_istore (lv' := [(4, .int ((0 : Int32))), (2, .double FP.dconst0), (0, .ref al), (1, .ref h)]) hx hb d_Al_priceOfSlots_3 hl (by decide) rfl (fun ls hl => ?_)
  refine wb_loopP (σ := UInt64 × Nat) 5 (fun x1 ls => lv_has ls 5 [(4, .int (nI x1.2)), (2, .double x1.1), (0, .ref al), (1, .ref h)] ∧ (x1.2 ≤ n) ∧ (x1.1 = ps P hm x1.2)) (fun x1 => 25 - x1.2) ?_ (FP.dconst0, 0) ls ⟨lv_sub hl [0, 1, 2, 3] rfl, (Nat.zero_le _), rfl⟩
  clear hl
  intro x1 ls hI3 ih2
  obtain ⟨a, w⟩ := x1
  obtain ⟨hl, hw1, ha⟩ := hI3
  have hl : lv_has ls 5 [(4, .int (nI w)), (2, .double a), (0, .ref al), (1, .ref h)] := hl
  have hw1 : w ≤ n := hw1
  have ha : a = ps P hm w := ha
  refine lv_iload hx hb d_Al_priceOfSlots_5 (lv_at hl 0 rfl) ?_
  refine lv_aload_n hx hb d_Al_priceOfSlots_7 rfl (lv_at hl 3 rfl) ?_
  refine rdV (ci := 1) (q0 := 0) (As := []) (rest := [.int (nI w)]) ⟨hx, hb, hml, hown, hg⟩ (c_Co_size l dC dI cI h o1 o2 o3 o4 o5 o6 n vc ops lf rg E U P) (cwV 0 hg (tg_V tw_273 tw_126 tw_127 tw_2 tw_128) rfl rfl rfl (by decide +kernel) ⟨Nat.le_of_ble_eq_true rfl, Nat.le_of_ble_eq_true rfl⟩) (hK.sub [0] rfl) (hP.sub [2, 3, 4, 5, 6, 7, 8] rfl) rfl rfl rfl hl.1 rfl (lv_room (Nat.le_of_ble_eq_true rfl)) d_Al_priceOfSlots_8 ⟨Nat.le_of_ble_eq_true rfl, Nat.le_of_ble_eq_true rfl⟩ ?_
  refine wb_icmp_ge (tgt := 42) hx hb w n rfl rfl (by omega) (by omega) d_Al_priceOfSlots_11 (by decide) (fun c4 => ?_) (fun c4 => ?_)
  · refine lv_dload_n hx hb d_Al_priceOfSlots_42 rfl (lv_at hl 1 rfl) ?_
    exact W.dret (v := a) hx hb hr (fun t ht hW => ⟨_, rfl, (ha.trans (congrArg (ps P hm) (Nat.le_antisymm hw1 c4))), ht⟩) (fun q h => by cases h) d_Al_priceOfSlots_43
  · refine lv_aload_n hx hb d_Al_priceOfSlots_14 rfl (lv_at hl 2 rfl) ?_
    refine va_get (D := (dC, dI)) (ci := 0) (v := .ref ah) (C := R_Al) (T := T_Al) (N := 3) hx hb hg in_Al hown hK hP 0 rfl rfl 0 (by decide) (hg _ tw_89) (fun _ h9 => h9) rfl d_Al_priceOfSlots_15 ?_
    refine lv_iload hx hb d_Al_priceOfSlots_18 (lv_at hl 0 rfl) ?_
    refine wb_iald hx hb hK hP 1 0 rfl rfl w rfl (Nat.lt_of_lt_of_le c4 hn) (by decide) d_Al_priceOfSlots_20 ?_
    refine lv_bipush (v := 10) hx hb d_Al_priceOfSlots_21 (by decide) ?_
    refine lv_icmp_lt (tgt := 36) hx hb d_Al_priceOfSlots_23 (by decide) (fun c5 => ?_) (fun c5 => ?_)
    · refine lv_iinc (v := (nI (w + 1))) (lv' := [(4, .int (nI (w + 1))), (2, .double a), (0, .ref al), (1, .ref h)]) hx hb d_Al_priceOfSlots_36 hl (k := 0) rfl (nI_add _ 1) (by decide) rfl (fun ls hl => ?_)
      refine lv_goto (tgt := 5) hx hb d_Al_priceOfSlots_39 (by decide) ?_
      exact ih2 (a, w + 1) ls ⟨lv_sub hl [0, 1, 2, 3] rfl, c4, (ps_n ha c5)⟩ (by show 25 - (w + 1) < 25 - w; omega)
    · refine lv_dload_n hx hb d_Al_priceOfSlots_26 rfl (lv_at hl 1 rfl) ?_
      refine lv_aload_n hx hb d_Al_priceOfSlots_27 rfl (lv_at hl 3 rfl) ?_
      refine lv_iload hx hb d_Al_priceOfSlots_28 (lv_at hl 0 rfl) ?_
      refine rdV (ci := 1) (q0 := 0) (As := [.int (nI w)]) (rest := [.double a]) ⟨hx, hb, hml, hown, hg⟩ (c_Co_priceOf l dC dI cI h o1 o2 o3 o4 o5 o6 n vc ops lf rg E U P w (Nat.lt_of_lt_of_le c4 hn)) (cwV 1 hg (tg_V tw_407 tw_408 tw_409 tw_2 tw_410) rfl rfl rfl (by decide +kernel) ⟨Nat.le_of_ble_eq_true rfl, Nat.le_of_ble_eq_true rfl⟩) (hK.sub [0] rfl) (hP.sub [2, 3, 4, 5, 6, 7, 8] rfl) rfl rfl rfl hl.1 rfl (lv_room (Nat.le_of_ble_eq_true rfl)) d_Al_priceOfSlots_30 ⟨Nat.le_of_ble_eq_true rfl, Nat.le_of_ble_eq_true rfl⟩ ?_
      refine lv_i2d hx hb d_Al_priceOfSlots_33 ?_
      refine lv_dadd hx hb d_Al_priceOfSlots_34 (ha ▸ hnn w c4 c5) ?_
      refine lv_dstore_n (lv' := [(2, .double (FP.dadd a (FP.i2d (nI (P w))))), (4, .int (nI w)), (0, .ref al), (1, .ref h)]) hx hb d_Al_priceOfSlots_35 rfl hl (by decide) rfl (fun ls hl => ?_)
      refine lv_iinc (v := (nI (w + 1))) (lv' := [(4, .int (nI (w + 1))), (2, .double (FP.dadd a (FP.i2d (nI (P w))))), (0, .ref al), (1, .ref h)]) hx hb d_Al_priceOfSlots_36 hl (k := 1) rfl (nI_add _ 1) (by decide) rfl (fun ls hl => ?_)
      refine lv_goto (tgt := 5) hx hb d_Al_priceOfSlots_39 (by decide) ?_
      exact ih2 (FP.dadd a (FP.i2d (nI (P w))), w + 1) ls ⟨lv_sub hl [0, 1, 2, 3] rfl, c4, (ps_y ha c5)⟩ (by show 25 - (w + 1) < 25 - w; omega)

set_option maxHeartbeats 4000000 in
set_option maxRecDepth 100000 in
theorem c_Al_heaviestMeeting (l : Launch) (dC : Nat → ClassId) (dI : Nat → Nat → Nat) (cI : ClassId) (al : Nat) (ah : Nat) (k : Nat) (ev : Nat) (hm : Nat → Int32) (h : Nat) (o1 : Nat) (o2 : Nat) (o3 : Nat) (o4 : Nat) (o5 : Nat) (o6 : Nat) (n : Nat) (vc : Nat) (ops : Nat → Int32) (lf : Nat → Int32) (rg : Nat → Int32) (E : Nat → Nat) (U : Nat → Nat) (P : Nat → Nat) (v : Nat) (x : Int32) (hn : n ≤ 24) (hE24 : ∀ j, E j ≤ 24) (hwf : ∀ j, j < n → j < E j) (hv24 : v < 24) (hwn : ∀ j, j < n → hm j = x → vf_n64 (wt P E j)) : Met l y_Al_heaviestMeeting ws_Al_heaviestMeeting (lvR 2 0 0) (va_Pc [.ref al, .ref h, .int (nI v), .int x] (PB (dC, dI) vwCl [(al, .inr (0, [.ref ah, .int (nI k), .int (nI ev)])), (ah, .inl (cI, 24, .inl hm)), (h, .inr (1, [.ref o1, .ref o2, .ref o3, .ref o4, .ref o5, .ref o6, .int (nI n), .int (nI vc)])), (o1, .inl (cI, 24, .inl ops)), (o2, .inl (cI, 24, .inl lf)), (o3, .inl (cI, 24, .inl rg)), (o4, .inl (cI, 24, .inl (fun z9 => nI (E z9)))), (o5, .inl (cI, 24, .inl (fun z9 => nI (U z9)))), (o6, .inl (cI, 24, .inl (fun z9 => nI (P z9))))] [(cI, .int)])) (vp_Sd (fun r => r = hv E P hm v x n)) 0 0 (fun _ => False) := by
  refine Met.ofW (cc := b_Al_heaviestMeeting) (maxL := 7) (ret := (some .double)) (by decide) rfl ?_
  intro p e s m args below meth c s₁ B hml hv
  obtain ⟨rfl, hP, hK⟩ := hv
  have hx := B.exec
  have hb := B.bytes
  have hr := B.returns
  have hts := atoms_spec (ws := ws_Al_heaviestMeeting) B.pre
  have hg : ∀ w ∈ TG, w.before ([.ref al, .ref h, .int (nI v), .int x] : List Value).toArray s = true := fun w h => hts w (List.mem_cons_of_mem _ h)
  have hown : s.vm.findClass R_Al = some m.cls := findClass_of_methodNamed B.named
  have hlocks := B.notSynchronized
  have hl := lv_entry ([.ref al, .ref h, .int (nI v), .int x]) (n := 7) (Nat.le_of_ble_eq_true rfl)
  rw [lg_entry_eq]
  generalize (lg_sl ([.ref al, .ref h, .int (nI v), .int x]) ++ List.replicate (7 - (lg_sl ([.ref al, .ref h, .int (nI v), .int x])).length) Slot.unset).toArray = ls at hl ⊢
  have hl : lv_has ls 7 [(0, .ref al), (1, .ref h), (2, .int (nI v)), (3, .int x)] := hl
  refine lv_dconst0 hx hb d_Al_heaviestMeeting_0 ?_
  refine lv_dstore (lv' := [(4, .double FP.dconst0), (0, .ref al), (1, .ref h), (2, .int (nI v)), (3, .int x)]) hx hb d_Al_heaviestMeeting_1 hl (by decide) rfl (fun ls hl => ?_)
  refine lv_iconst (v := 0) hx hb d_Al_heaviestMeeting_3 (by decide) ?_
  refine lv_istore (lv' := [(6, .int ((0 : Int32))), (4, .double FP.dconst0), (0, .ref al), (1, .ref h), (2, .int (nI v)), (3, .int x)]) hx hb d_Al_heaviestMeeting_4 hl (by decide) rfl (fun ls hl => ?_)
  refine wb_loopP (σ := UInt64 × Nat) 6 (fun x1 ls => lv_has ls 7 [(6, .int (nI x1.2)), (4, .double x1.1), (0, .ref al), (1, .ref h), (2, .int (nI v)), (3, .int x)] ∧ (x1.2 ≤ n) ∧ (x1.1 = hv E P hm v x x1.2)) (fun x1 => 25 - x1.2) ?_ (FP.dconst0, 0) ls ⟨lv_sub hl [0, 1, 2, 3, 4, 5] rfl, (Nat.zero_le _), rfl⟩
  clear hl
  intro x1 ls hI3 ih2
  obtain ⟨a, w⟩ := x1
  obtain ⟨hl, hw1, ha⟩ := hI3
  have hl : lv_has ls 7 [(6, .int (nI w)), (4, .double a), (0, .ref al), (1, .ref h), (2, .int (nI v)), (3, .int x)] := hl
  have hw1 : w ≤ n := hw1
  have ha : a = hv E P hm v x w := ha
  refine lv_iload hx hb d_Al_heaviestMeeting_6 (lv_at hl 0 rfl) ?_
  refine lv_aload_n hx hb d_Al_heaviestMeeting_8 rfl (lv_at hl 3 rfl) ?_
  refine rdV (ci := 1) (q0 := 0) (As := []) (rest := [.int (nI w)]) ⟨hx, hb, hml, hown, hg⟩ (c_Co_size l dC dI cI h o1 o2 o3 o4 o5 o6 n vc ops lf rg E U P) (cwV 0 hg (tg_V tw_273 tw_126 tw_127 tw_2 tw_128) rfl rfl rfl (by decide +kernel) ⟨Nat.le_of_ble_eq_true rfl, Nat.le_of_ble_eq_true rfl⟩) (hK.sub [0] rfl) (hP.sub [2, 3, 4, 5, 6, 7, 8] rfl) rfl rfl rfl hl.1 rfl (lv_room (Nat.le_of_ble_eq_true rfl)) d_Al_heaviestMeeting_9 ⟨Nat.le_of_ble_eq_true rfl, Nat.le_of_ble_eq_true rfl⟩ ?_
  refine wb_icmp_ge (tgt := 62) hx hb w n rfl rfl (by omega) (by omega) d_Al_heaviestMeeting_12 (by decide) (fun c4 => ?_) (fun c4 => ?_)
  · refine lv_dload hx hb d_Al_heaviestMeeting_62 (lv_at hl 1 rfl) ?_
    exact W.dret (v := a) hx hb hr (fun t ht hW => ⟨_, rfl, (ha.trans (congrArg (hv E P hm v x) (Nat.le_antisymm hw1 c4))), ht⟩) (fun q h => by cases h) d_Al_heaviestMeeting_64
  · refine lv_aload_n hx hb d_Al_heaviestMeeting_15 rfl (lv_at hl 2 rfl) ?_
    refine va_get (D := (dC, dI)) (ci := 0) (v := .ref ah) (C := R_Al) (T := T_Al) (N := 3) hx hb hg in_Al hown hK hP 0 rfl rfl 0 (by decide) (hg _ tw_89) (fun _ h9 => h9) rfl d_Al_heaviestMeeting_16 ?_
    refine lv_iload hx hb d_Al_heaviestMeeting_19 (lv_at hl 0 rfl) ?_
    refine wb_iald hx hb hK hP 1 0 rfl rfl w rfl (Nat.lt_of_lt_of_le c4 hn) (by decide) d_Al_heaviestMeeting_21 ?_
    refine lv_iload_n hx hb d_Al_heaviestMeeting_22 rfl (lv_at hl 5 rfl) ?_
    refine lv_icmp_ne (tgt := 56) hx hb d_Al_heaviestMeeting_23 (by decide) (fun c5 => ?_) (fun c5 => ?_)
    · refine lv_iinc (v := (nI (w + 1))) (lv' := [(6, .int (nI (w + 1))), (4, .double a), (0, .ref al), (1, .ref h), (2, .int (nI v)), (3, .int x)]) hx hb d_Al_heaviestMeeting_56 hl (k := 0) rfl (nI_add _ 1) (by decide) rfl (fun ls hl => ?_)
      refine lv_goto (tgt := 6) hx hb d_Al_heaviestMeeting_59 (by decide) ?_
      exact ih2 (a, w + 1) ls ⟨lv_sub hl [0, 1, 2, 3, 4, 5] rfl, c4, (hv_n ha (Or.inl c5))⟩ (by show 25 - (w + 1) < 25 - w; omega)
    · refine lv_aload_n hx hb d_Al_heaviestMeeting_26 rfl (lv_at hl 3 rfl) ?_
      refine lv_iload_n hx hb d_Al_heaviestMeeting_27 rfl (lv_at hl 4 rfl) ?_
      refine lv_iload hx hb d_Al_heaviestMeeting_28 (lv_at hl 0 rfl) ?_
      refine rdV (ci := 1) (q0 := 0) (As := [.int (nI v), .int (nI w)]) (rest := []) ⟨hx, hb, hml, hown, hg⟩ (c_Co_meet l dC dI cI h o1 o2 o3 o4 o5 o6 n vc ops lf rg E U P v w hv24 (Nat.lt_of_lt_of_le c4 hn) (hE24 _) (hE24 _)) (cwV 2 hg (tg_V tw_299 tw_300 tw_301 tw_2 tw_302) rfl rfl rfl (by decide +kernel) ⟨Nat.le_of_ble_eq_true rfl, Nat.le_of_ble_eq_true rfl⟩) (hK.sub [0] rfl) (hP.sub [2, 3, 4, 5, 6, 7, 8] rfl) rfl rfl rfl hl.1 rfl (lv_room (Nat.le_of_ble_eq_true rfl)) d_Al_heaviestMeeting_30 ⟨Nat.le_of_ble_eq_true rfl, Nat.le_of_ble_eq_true rfl⟩ ?_
      refine wb_if_eqb (tgt := 56) hx hb (mt E v w) rfl d_Al_heaviestMeeting_33 (by decide) (fun c6 => ?_) (fun c6 => ?_)
      · refine lv_iinc (v := (nI (w + 1))) (lv' := [(6, .int (nI (w + 1))), (4, .double a), (0, .ref al), (1, .ref h), (2, .int (nI v)), (3, .int x)]) hx hb d_Al_heaviestMeeting_56 hl (k := 0) rfl (nI_add _ 1) (by decide) rfl (fun ls hl => ?_)
        refine lv_goto (tgt := 6) hx hb d_Al_heaviestMeeting_59 (by decide) ?_
        exact ih2 (a, w + 1) ls ⟨lv_sub hl [0, 1, 2, 3, 4, 5] rfl, c4, (hv_n ha (Or.inr (Or.inl c6)))⟩ (by show 25 - (w + 1) < 25 - w; omega)
      · refine lv_aload_n hx hb d_Al_heaviestMeeting_36 rfl (lv_at hl 3 rfl) ?_
        refine lv_iload hx hb d_Al_heaviestMeeting_37 (lv_at hl 0 rfl) ?_
        refine rdVd (ci := 1) (q0 := 0) (As := [.int (nI w)]) (rest := []) ⟨hx, hb, hml, hown, hg⟩ (c_Co_weightOf l dC dI cI h o1 o2 o3 o4 o5 o6 n vc ops lf rg E U P w (Nat.lt_of_lt_of_le c4 hn) (Nat.le_of_lt (hwf w c4)) (hwn w c4 c5)) (cwV 1 hg (tg_V tw_290 tw_291 tw_292 tw_2 tw_293) rfl rfl rfl (by decide +kernel) ⟨Nat.le_of_ble_eq_true rfl, Nat.le_of_ble_eq_true rfl⟩) (hK.sub [0] rfl) (hP.sub [2, 3, 4, 5, 6, 7, 8] rfl) rfl rfl rfl hl.1 rfl (lv_room (Nat.le_of_ble_eq_true rfl)) d_Al_heaviestMeeting_39 ⟨Nat.le_of_ble_eq_true rfl, Nat.le_of_ble_eq_true rfl⟩ ?_
        refine lv_dload hx hb d_Al_heaviestMeeting_42 (lv_at hl 1 rfl) ?_
        refine lv_dcmp hx hb d_Al_heaviestMeeting_44 ?_
        refine lv_if_le (tgt := 56) hx hb d_Al_heaviestMeeting_45 (by decide) (fun c7 => ?_) (fun c7 => ?_)
        · refine lv_iinc (v := (nI (w + 1))) (lv' := [(6, .int (nI (w + 1))), (4, .double a), (0, .ref al), (1, .ref h), (2, .int (nI v)), (3, .int x)]) hx hb d_Al_heaviestMeeting_56 hl (k := 0) rfl (nI_add _ 1) (by decide) rfl (fun ls hl => ?_)
          refine lv_goto (tgt := 6) hx hb d_Al_heaviestMeeting_59 (by decide) ?_
          exact ih2 (a, w + 1) ls ⟨lv_sub hl [0, 1, 2, 3, 4, 5] rfl, c4, (hv_n ha (Or.inr (Or.inr (dgt_n c7))))⟩ (by show 25 - (w + 1) < 25 - w; omega)
        · refine lv_aload_n hx hb d_Al_heaviestMeeting_48 rfl (lv_at hl 3 rfl) ?_
          refine lv_iload hx hb d_Al_heaviestMeeting_49 (lv_at hl 0 rfl) ?_
          refine rdVd (ci := 1) (q0 := 0) (As := [.int (nI w)]) (rest := []) ⟨hx, hb, hml, hown, hg⟩ (c_Co_weightOf l dC dI cI h o1 o2 o3 o4 o5 o6 n vc ops lf rg E U P w (Nat.lt_of_lt_of_le c4 hn) (Nat.le_of_lt (hwf w c4)) (hwn w c4 c5)) (cwV 1 hg (tg_V tw_290 tw_291 tw_292 tw_2 tw_293) rfl rfl rfl (by decide +kernel) ⟨Nat.le_of_ble_eq_true rfl, Nat.le_of_ble_eq_true rfl⟩) (hK.sub [0] rfl) (hP.sub [2, 3, 4, 5, 6, 7, 8] rfl) rfl rfl rfl hl.1 rfl (lv_room (Nat.le_of_ble_eq_true rfl)) d_Al_heaviestMeeting_51 ⟨Nat.le_of_ble_eq_true rfl, Nat.le_of_ble_eq_true rfl⟩ ?_
          refine lv_dstore (lv' := [(4, .double (wt P E w)), (6, .int (nI w)), (0, .ref al), (1, .ref h), (2, .int (nI v)), (3, .int x)]) hx hb d_Al_heaviestMeeting_54 hl (by decide) rfl (fun ls hl => ?_)
          refine lv_iinc (v := (nI (w + 1))) (lv' := [(6, .int (nI (w + 1))), (4, .double (wt P E w)), (0, .ref al), (1, .ref h), (2, .int (nI v)), (3, .int x)]) hx hb d_Al_heaviestMeeting_56 hl (k := 1) rfl (nI_add _ 1) (by decide) rfl (fun ls hl => ?_)
          refine lv_goto (tgt := 6) hx hb d_Al_heaviestMeeting_59 (by decide) ?_
          exact ih2 (wt P E w, w + 1) ls ⟨lv_sub hl [0, 1, 2, 3, 4, 5] rfl, c4, (hv_y ha c5 c6 (dgt_of c7))⟩ (by show 25 - (w + 1) < 25 - w; omega)
end
section
/-! the words for giving registers and slots -/
theorem lwB_n {E : Nat → Nat} {o : Option Nat} {w : Nat} (h : o = none) : lwB E o w = true := by subst h; rfl
theorem lwB_t {E : Nat → Nat} {b w : Nat} (h : E b - b < E w - w) : lwB E (some b) w = true := decide_eq_true h
theorem lwB_f {E : Nat → Nat} {b w : Nat} (h : E w - w ≤ E b - b) : lwB E (some b) w = false := decide_eq_false (Nat.not_lt.mpr h)
/-- the first home from i on, of k, in which nothing meets v -/
def fsl (E P : Nat → Nat) (hm : Nat → Int32) (n v : Nat) : Nat → Nat → Option Nat
  | _, 0 => none
  | i, k + 1 => if deq (hv E P hm v (nI i) n) FP.dconst0 then some i else fsl E P hm n v (i + 1) k
theorem fsl_y {E P : Nat → Nat} {hm : Nat → Int32} {n v i t : Nat} (hi : i < t) (h : deq (hv E P hm v (nI i) n) FP.dconst0) : fsl E P hm n v i (t - i) = some i := by
  have e : t - i = (t - (i + 1)) + 1 := by omega
  rw [e]; exact if_pos h
theorem fsl_n {E P : Nat → Nat} {hm : Nat → Int32} {n v i t : Nat} (hi : i < t) (h : ¬ deq (hv E P hm v (nI i) n) FP.dconst0) : fsl E P hm n v i (t - i) = fsl E P hm n v (i + 1) (t - (i + 1)) := by
  have e : t - i = (t - (i + 1)) + 1 := by omega
  rw [e]; exact if_neg h
theorem fsl_e {E P : Nat → Nat} {hm : Nat → Int32} {n v i t : Nat} (hi : t ≤ i) : fsl E P hm n v i (t - i) = none := by
  rw [Nat.sub_eq_zero_of_le hi]; rfl
/-- the homes once v has found a slot, or not -/
def slH (hm : Nat → Int32) (v : Nat) : Option Nat → Nat → Int32
  | none => hm
  | some i => upd hm v (nI i)
def mayR (ops : Nat → Int32) (E : Nat → Nat) (n v k : Nat) : Nat := if cr ops E n v = true then min k 2 else k
theorem mn2 {k : Nat} (hk : k ≤ 5) : (if (2 : Int32) < nI k then (2 : Int32) else nI k) = nI (min k 2) := by
  have h : k = 0 ∨ k = 1 ∨ k = 2 ∨ k = 3 ∨ k = 4 ∨ k = 5 := by omega
  rcases h with rfl | rfl | rfl | rfl | rfl | rfl <;> decide
/-- the best register of the first r, and the weight to be beaten -/
def trF (E P : Nat → Nat) (hm : Nat → Int32) (n v : Nat) : Nat → Option Nat × UInt64
  | 0 => (none, wt P E v)
  | r + 1 => if dlt (hv E P hm v (nI r) n) (trF E P hm n v r).2 then (some r, hv E P hm v (nI r) n) else trF E P hm n v r
theorem trF_y {E P : Nat → Nat} {hm : Nat → Int32} {n v r : Nat} {b : Option Nat} {d : UInt64} (h : (b, d) = trF E P hm n v r) (hd : dlt (hv E P hm v (nI r) n) d) : (some r, hv E P hm v (nI r) n) = trF E P hm n v (r + 1) := by
  have e : (trF E P hm n v r).2 = d := by rw [← h]
  show _ = if dlt (hv E P hm v (nI r) n) (trF E P hm n v r).2 then _ else _
  rw [e, if_pos hd]
theorem trF_n {E P : Nat → Nat} {hm : Nat → Int32} {n v r : Nat} {b : Option Nat} {d : UInt64} (h : (b, d) = trF E P hm n v r) (hd : ¬ dlt (hv E P hm v (nI r) n) d) : (b, d) = trF E P hm n v (r + 1) := by
  have e : (trF E P hm n v r).2 = d := by rw [← h]
  show _ = if dlt (hv E P hm v (nI r) n) (trF E P hm n v r).2 then _ else _
  rw [e, if_neg hd]; exact h
theorem trF_lt {E P : Nat → Nat} {hm : Nat → Int32} {n v r x : Nat} (h : (trF E P hm n v r).1 = some x) : x < r := by
  induction r with
  | zero => cases h
  | succ r ih =>
    unfold trF at h
    split at h
    · cases h; omega
    · have := ih h; omega
/-- homes and evictions once v has found a register, or not -/
def tkH (E : Nat → Nat) (hm : Nat → Int32) (n v : Nat) : Option Nat → Nat → Int32
  | none => hm
  | some b => upd (evH E hm v (nI b) n) v (nI b)
def tkC (E : Nat → Nat) (hm : Nat → Int32) (n v : Nat) : Option Nat → Nat
  | none => 0
  | some b => evC E hm v (nI b) n
/-- one look: done, no room, or the next state -/
def stp (ops : Nat → Int32) (E P : Nat → Nat) (n k : Nat) (hm : Nat → Int32) (ev : Nat) : Bool ⊕ ((Nat → Int32) × Nat) :=
  match lw ops E n hm n with
  | none => .inl true
  | some v => match (trF E P hm n v (mayR ops E n v k)).1 with
    | some b => .inr (tkH E hm n v (some b), ev + tkC E hm n v (some b))
    | none => match fsl E P hm n v 10 6 with
      | some i => .inr (slH hm v (some i), ev)
      | none => .inl false
def flR (ops : Nat → Int32) (E P : Nat → Nat) (n k : Nat) : Nat → (Nat → Int32) → Nat → Bool × (Nat → Int32) × Nat
  | 0, hm, ev => (false, hm, ev)
  | t + 1, hm, ev => match stp ops E P n k hm ev with
    | .inl b => (b, hm, ev)
    | .inr q => flR ops E P n k t q.1 q.2
theorem flR_s {ops : Nat → Int32} {E P : Nat → Nat} {n k t i ev : Nat} {hm : Nat → Int32} {q : (Nat → Int32) × Nat} (hi : i < t) (h : stp ops E P n k hm ev = .inr q) : flR ops E P n k (t - i) hm ev = flR ops E P n k (t - (i + 1)) q.1 q.2 := by
  have e : t - i = (t - (i + 1)) + 1 := by omega
  rw [e]
  show (match stp ops E P n k hm ev with | .inl b => (b, hm, ev) | .inr q => flR ops E P n k (t - (i + 1)) q.1 q.2) = _
  rw [h]
theorem flR_d {ops : Nat → Int32} {E P : Nat → Nat} {n k t i ev : Nat} {hm : Nat → Int32} {b : Bool} (hi : i < t) (h : stp ops E P n k hm ev = .inl b) : flR ops E P n k (t - i) hm ev = (b, hm, ev) := by
  have e : t - i = (t - (i + 1)) + 1 := by omega
  rw [e]
  show (match stp ops E P n k hm ev with | .inl b => (b, hm, ev) | .inr q => flR ops E P n k (t - (i + 1)) q.1 q.2) = _
  rw [h]
theorem flR_e {ops : Nat → Int32} {E P : Nat → Nat} {n k t i ev : Nat} {hm : Nat → Int32} (hi : t ≤ i) : flR ops E P n k (t - i) hm ev = (false, hm, ev) := by
  rw [Nat.sub_eq_zero_of_le hi]; rfl
theorem stp_done {ops : Nat → Int32} {E P : Nat → Nat} {n k ev : Nat} {hm : Nat → Int32} (h : lw ops E n hm n = none) : stp ops E P n k hm ev = .inl true := by
  unfold stp; rw [h]
theorem stp_reg {ops : Nat → Int32} {E P : Nat → Nat} {n k ev v b : Nat} {hm : Nat → Int32} (h : lw ops E n hm n = some v) (h1 : (trF E P hm n v (mayR ops E n v k)).1 = some b) : stp ops E P n k hm ev = .inr (tkH E hm n v (some b), ev + tkC E hm n v (some b)) := by
  unfold stp; rw [h]; show (match (trF E P hm n v (mayR ops E n v k)).1 with | some b => _ | none => _) = _; rw [h1]
theorem stp_slot {ops : Nat → Int32} {E P : Nat → Nat} {n k ev v i : Nat} {hm : Nat → Int32} (h : lw ops E n hm n = some v) (h1 : (trF E P hm n v (mayR ops E n v k)).1 = none) (h2 : fsl E P hm n v 10 6 = some i) : stp ops E P n k hm ev = .inr (slH hm v (some i), ev) := by
  unfold stp; rw [h]; show (match (trF E P hm n v (mayR ops E n v k)).1 with | some b => _ | none => _) = _; rw [h1]; show (match fsl E P hm n v 10 6 with | some i => _ | none => _) = _; rw [h2]
theorem stp_no {ops : Nat → Int32} {E P : Nat → Nat} {n k ev v : Nat} {hm : Nat → Int32} (h : lw ops E n hm n = some v) (h1 : (trF E P hm n v (mayR ops E n v k)).1 = none) (h2 : fsl E P hm n v 10 6 = none) : stp ops E P n k hm ev = .inl false := by
  unfold stp; rw [h]; show (match (trF E P hm n v (mayR ops E n v k)).1 with | some b => _ | none => _) = _; rw [h1]; show (match fsl E P hm n v 10 6 with | some i => _ | none => _) = _; rw [h2]
def LIM : Nat := 1000000
end
section
/-! AllocForge$Allocation: longestWaiting -/
set_option maxHeartbeats 4000000 in
set_option maxRecDepth 100000 in
theorem c_Al_longestWaiting (l : Launch) (dC : Nat → ClassId) (dI : Nat → Nat → Nat) (cI : ClassId) (al : Nat) (ah : Nat) (k : Nat) (ev : Nat) (hm : Nat → Int32) (h : Nat) (o1 : Nat) (o2 : Nat) (o3 : Nat) (o4 : Nat) (o5 : Nat) (o6 : Nat) (n : Nat) (vc : Nat) (ops : Nat → Int32) (lf : Nat → Int32) (rg : Nat → Int32) (E : Nat → Nat) (U : Nat → Nat) (P : Nat → Nat) (hn : n ≤ 24) (hE24 : ∀ j, E j ≤ 24) (hwf : ∀ j, j < n → j < E j) : Met l y_Al_longestWaiting ws_Al_longestWaiting (lvR 1 0 0) (va_Pc [.ref al, .ref h] (PB (dC, dI) vwCl [(al, .inr (0, [.ref ah, .int (nI k), .int (nI ev)])), (ah, .inl (cI, 24, .inl hm)), (h, .inr (1, [.ref o1, .ref o2, .ref o3, .ref o4, .ref o5, .ref o6, .int (nI n), .int (nI vc)])), (o1, .inl (cI, 24, .inl ops)), (o2, .inl (cI, 24, .inl lf)), (o3, .inl (cI, 24, .inl rg)), (o4, .inl (cI, 24, .inl (fun z9 => nI (E z9)))), (o5, .inl (cI, 24, .inl (fun z9 => nI (U z9)))), (o6, .inl (cI, 24, .inl (fun z9 => nI (P z9))))] [(cI, .int)])) (vp_Si (fun r => r = oI (lw ops E n hm n))) 0 0 (fun _ => False) := by
  refine Met.ofW (cc := b_Al_longestWaiting) (maxL := 5) (ret := (some .int)) (by decide) rfl ?_
  intro p e s m args below meth c s₁ B hml hv
  obtain ⟨rfl, hP, hK⟩ := hv
  have hx := B.exec
  have hb := B.bytes
  have hr := B.returns
  have hts := atoms_spec (ws := ws_Al_longestWaiting) B.pre
  have hg : ∀ w ∈ TG, w.before ([.ref al, .ref h] : List Value).toArray s = true := fun w h => hts w (List.mem_cons_of_mem _ h)
  have hown : s.vm.findClass R_Al = some m.cls := findClass_of_methodNamed B.named
  have hlocks := B.notSynchronized
  have hl := lv_entry ([.ref al, .ref h]) (n := 5) (Nat.le_of_ble_eq_true rfl)
  rw [lg_entry_eq]
  generalize (lg_sl ([.ref al, .ref h]) ++ List.replicate (5 - (lg_sl ([.ref al, .ref h])).length) Slot.unset).toArray = ls at hl ⊢
  have hl : lv_has ls 5 [(0, .ref al), (1, .ref h)] := hl
  refine lv_iconst (v := -1) hx hb d_Al_longestWaiting_0 (by decide) ?_
  refine lv_istore_n (lv' := [(2, .int ((-1 : Int32))), (0, .ref al), (1, .ref h)]) hx hb d_Al_longestWaiting_1 rfl hl (by decide) rfl (fun ls hl => ?_)
  refine lv_iconst (v := 0) hx hb d_Al_longestWaiting_2 (by decide) ?_
  refine lv_istore_n (lv' := [(3, .int ((0 : Int32))), (2, .int ((-1 : Int32))), (0, .ref al), (1, .ref h)]) hx hb d_Al_longestWaiting_3 rfl hl (by decide) rfl (fun ls hl => ?_)
  refine wb_loopP (σ := (Option Nat) × Nat) 4 (fun x1 ls => lv_has ls 5 [(3, .int (nI x1.2)), (2, .int (oI x1.1)), (0, .ref al), (1, .ref h)] ∧ (x1.2 ≤ n) ∧ (x1.1 = lw ops E n hm x1.2)) (fun x1 => 25 - x1.2) ?_ (none, 0) ls ⟨lv_sub hl [0, 1, 2, 3] rfl, (Nat.zero_le _), rfl⟩
  clear hl
  intro x1 ls hI3 ih2
  obtain ⟨o, w⟩ := x1
  obtain ⟨hl, hw1, ho⟩ := hI3
  have hl : lv_has ls 5 [(3, .int (nI w)), (2, .int (oI o)), (0, .ref al), (1, .ref h)] := hl
  have hw1 : w ≤ n := hw1
  have ho : o = lw ops E n hm w := ho
  refine lv_iload_n hx hb d_Al_longestWaiting_4 rfl (lv_at hl 0 rfl) ?_
  refine lv_aload_n hx hb d_Al_longestWaiting_5 rfl (lv_at hl 3 rfl) ?_
  refine rdV (ci := 1) (q0 := 0) (As := []) (rest := [.int (nI w)]) ⟨hx, hb, hml, hown, hg⟩ (c_Co_size l dC dI cI h o1 o2 o3 o4 o5 o6 n vc ops lf rg E U P) (cwV 0 hg (tg_V tw_273 tw_126 tw_127 tw_2 tw_128) rfl rfl rfl (by decide +kernel) ⟨Nat.le_of_ble_eq_true rfl, Nat.le_of_ble_eq_true rfl⟩) (hK.sub [0] rfl) (hP.sub [2, 3, 4, 5, 6, 7, 8] rfl) rfl rfl rfl hl.1 rfl (lv_room (Nat.le_of_ble_eq_true rfl)) d_Al_longestWaiting_6 ⟨Nat.le_of_ble_eq_true rfl, Nat.le_of_ble_eq_true rfl⟩ ?_
  refine wb_icmp_ge (tgt := 68) hx hb w n rfl rfl (by first | omega | (have h1 := hE24 w; have h2 := hE24 b; omega)) (by first | omega | (have h1 := hE24 w; have h2 := hE24 b; omega)) d_Al_longestWaiting_9 (by decide) (fun c4 => ?_) (fun c4 => ?_)
  · refine lv_iload_n hx hb d_Al_longestWaiting_68 rfl (lv_at hl 1 rfl) ?_
    exact W.iret (v := oI o) hx hb hr (fun t ht hW => ⟨_, rfl, (congrArg oI (ho.trans (congrArg (lw ops E n hm) (Nat.le_antisymm hw1 c4)))), ht⟩) (fun q h => by cases h) d_Al_longestWaiting_69
  · refine lv_aload_n hx hb d_Al_longestWaiting_12 rfl (lv_at hl 3 rfl) ?_
    refine lv_iload_n hx hb d_Al_longestWaiting_13 rfl (lv_at hl 0 rfl) ?_
    refine rdV (ci := 1) (q0 := 0) (As := [.int (nI w)]) (rest := []) ⟨hx, hb, hml, hown, hg⟩ (c_Co_isValue l dC dI cI h o1 o2 o3 o4 o5 o6 n vc ops lf rg E U P (nI w) hn) (cwV 1 hg (tg_V tw_274 tw_156 tw_157 tw_2 tw_158) rfl rfl rfl (by decide +kernel) ⟨Nat.le_of_ble_eq_true rfl, Nat.le_of_ble_eq_true rfl⟩) (hK.sub [0] rfl) (hP.sub [2, 3, 4, 5, 6, 7, 8] rfl) rfl rfl rfl hl.1 rfl (lv_room (Nat.le_of_ble_eq_true rfl)) d_Al_longestWaiting_14 ⟨Nat.le_of_ble_eq_true rfl, Nat.le_of_ble_eq_true rfl⟩ ?_
    refine wb_if_eqb (tgt := 34) hx hb (iv ops n (nI w)) rfl d_Al_longestWaiting_17 (by decide) (fun c5 => ?_) (fun c5 => ?_)
    · refine lv_iconst (v := 0) hx hb d_Al_longestWaiting_34 (by decide) ?_
      refine lv_istore (lv' := [(4, .int ((0 : Int32))), (3, .int (nI w)), (2, .int (oI o)), (0, .ref al), (1, .ref h)]) hx hb d_Al_longestWaiting_35 hl (by decide) rfl (fun ls hl => ?_)
      refine lv_iload hx hb d_Al_longestWaiting_37 (lv_at hl 0 rfl) ?_
      refine wb_if_eqb (tgt := 62) hx hb false rfl d_Al_longestWaiting_39 (by decide) (fun _ => ?_) (fun c6 => by cases c6)
      refine lv_iinc (v := (nI (w + 1))) (lv' := [(3, .int (nI (w + 1))), (4, .int ((0 : Int32))), (2, .int (oI o)), (0, .ref al), (1, .ref h)]) hx hb d_Al_longestWaiting_62 hl (k := 1) rfl (nI_add _ 1) (by decide) rfl (fun ls hl => ?_)
      refine lv_goto (tgt := 4) hx hb d_Al_longestWaiting_65 (by decide) ?_
      exact ih2 (o, w + 1) ls ⟨lv_sub hl [0, 2, 3, 4] rfl, c4, (lw_n ho (Or.inl c5))⟩ (by show 25 - (w + 1) < 25 - w; omega)
    · refine lv_aload_n hx hb d_Al_longestWaiting_20 rfl (lv_at hl 2 rfl) ?_
      refine va_get (D := (dC, dI)) (ci := 0) (v := .ref ah) (C := R_Al) (T := T_Al) (N := 3) hx hb hg in_Al hown hK hP 0 rfl rfl 0 (by decide) (hg _ tw_89) (fun _ h9 => h9) rfl d_Al_longestWaiting_21 ?_
      refine lv_iload_n hx hb d_Al_longestWaiting_24 rfl (lv_at hl 0 rfl) ?_
      refine wb_iald hx hb hK hP 1 0 rfl rfl w rfl (Nat.lt_of_lt_of_le c4 hn) (by decide) d_Al_longestWaiting_25 ?_
      refine lv_iconst (v := -1) hx hb d_Al_longestWaiting_26 (by decide) ?_
      refine lv_icmp_ne (tgt := 34) hx hb d_Al_longestWaiting_27 (by decide) (fun c7 => ?_) (fun c7 => ?_)
      · refine lv_iconst (v := 0) hx hb d_Al_longestWaiting_34 (by decide) ?_
        refine lv_istore (lv' := [(4, .int ((0 : Int32))), (3, .int (nI w)), (2, .int (oI o)), (0, .ref al), (1, .ref h)]) hx hb d_Al_longestWaiting_35 hl (by decide) rfl (fun ls hl => ?_)
        refine lv_iload hx hb d_Al_longestWaiting_37 (lv_at hl 0 rfl) ?_
        refine wb_if_eqb (tgt := 62) hx hb false rfl d_Al_longestWaiting_39 (by decide) (fun _ => ?_) (fun c8 => by cases c8)
        refine lv_iinc (v := (nI (w + 1))) (lv' := [(3, .int (nI (w + 1))), (4, .int ((0 : Int32))), (2, .int (oI o)), (0, .ref al), (1, .ref h)]) hx hb d_Al_longestWaiting_62 hl (k := 1) rfl (nI_add _ 1) (by decide) rfl (fun ls hl => ?_)
        refine lv_goto (tgt := 4) hx hb d_Al_longestWaiting_65 (by decide) ?_
        exact ih2 (o, w + 1) ls ⟨lv_sub hl [0, 2, 3, 4] rfl, c4, (lw_n ho (Or.inr (Or.inl c7)))⟩ (by show 25 - (w + 1) < 25 - w; omega)
      · refine lv_iconst (v := 1) hx hb d_Al_longestWaiting_30 (by decide) ?_
        refine lv_goto (tgt := 35) hx hb d_Al_longestWaiting_31 (by decide) ?_
        refine lv_istore (lv' := [(4, .int ((1 : Int32))), (3, .int (nI w)), (2, .int (oI o)), (0, .ref al), (1, .ref h)]) hx hb d_Al_longestWaiting_35 hl (by decide) rfl (fun ls hl => ?_)
        refine lv_iload hx hb d_Al_longestWaiting_37 (lv_at hl 0 rfl) ?_
        refine wb_if_eqb (tgt := 62) hx hb true rfl d_Al_longestWaiting_39 (by decide) (fun c9 => by cases c9) (fun _ => ?_)
        refine lv_iload_n hx hb d_Al_longestWaiting_42 rfl (lv_at hl 2 rfl) ?_
        refine lv_iconst (v := -1) hx hb d_Al_longestWaiting_43 (by decide) ?_
        refine lv_icmp_eq (tgt := 60) hx hb d_Al_longestWaiting_44 (by decide) (fun c10 => ?_) (fun c10 => ?_)
        · refine lv_iload_n hx hb d_Al_longestWaiting_60 rfl (lv_at hl 1 rfl) ?_
          refine lv_istore_n (lv' := [(2, .int (nI w)), (4, .int ((1 : Int32))), (3, .int (nI w)), (0, .ref al), (1, .ref h)]) hx hb d_Al_longestWaiting_61 rfl hl (by decide) rfl (fun ls hl => ?_)
          refine lv_iinc (v := (nI (w + 1))) (lv' := [(3, .int (nI (w + 1))), (2, .int (nI w)), (4, .int ((1 : Int32))), (0, .ref al), (1, .ref h)]) hx hb d_Al_longestWaiting_62 hl (k := 2) rfl (nI_add _ 1) (by decide) rfl (fun ls hl => ?_)
          refine lv_goto (tgt := 4) hx hb d_Al_longestWaiting_65 (by decide) ?_
          exact ih2 (some w, w + 1) ls ⟨lv_sub hl [0, 1, 3, 4] rfl, c4, (lw_y ho c5 c7 (lwB_n (oI_m1 c10 (fun b q => Nat.lt_of_lt_of_le (lw_lt (ho.symm.trans q)) (Nat.le_trans hw1 (Nat.le_trans hn (by decide)))))))⟩ (by show 25 - (w + 1) < 25 - w; omega)
        · obtain ⟨b, rfl⟩ := oI_some c10
          have hbw := lw_lt ho.symm
          have hl : lv_has ls 5 [(4, .int ((1 : Int32))), (3, .int (nI w)), (2, .int (nI b)), (0, .ref al), (1, .ref h)] := hl
          refine lv_aload_n hx hb d_Al_longestWaiting_47 rfl (lv_at hl 4 rfl) ?_
          refine lv_iload_n hx hb d_Al_longestWaiting_48 rfl (lv_at hl 1 rfl) ?_
          refine rdV (ci := 1) (q0 := 0) (As := [.int (nI w)]) (rest := []) ⟨hx, hb, hml, hown, hg⟩ (c_Co_lengthOf l dC dI cI h o1 o2 o3 o4 o5 o6 n vc ops lf rg E U P w (Nat.lt_of_lt_of_le c4 hn) (Nat.le_of_lt (hwf w c4))) (cwV 1 hg (tg_V tw_275 tw_276 tw_277 tw_2 tw_278) rfl rfl rfl (by decide +kernel) ⟨Nat.le_of_ble_eq_true rfl, Nat.le_of_ble_eq_true rfl⟩) (hK.sub [0] rfl) (hP.sub [2, 3, 4, 5, 6, 7, 8] rfl) rfl rfl rfl hl.1 rfl (lv_room (Nat.le_of_ble_eq_true rfl)) d_Al_longestWaiting_49 ⟨Nat.le_of_ble_eq_true rfl, Nat.le_of_ble_eq_true rfl⟩ ?_
          refine lv_aload_n hx hb d_Al_longestWaiting_52 rfl (lv_at hl 4 rfl) ?_
          refine lv_iload_n hx hb d_Al_longestWaiting_53 rfl (lv_at hl 2 rfl) ?_
          refine rdV (ci := 1) (q0 := 0) (As := [.int (nI b)]) (rest := [.int (nI (E w - w))]) ⟨hx, hb, hml, hown, hg⟩ (c_Co_lengthOf l dC dI cI h o1 o2 o3 o4 o5 o6 n vc ops lf rg E U P b (Nat.lt_trans hbw (Nat.lt_of_lt_of_le c4 hn)) (Nat.le_of_lt (hwf b (Nat.lt_trans hbw c4)))) (cwV 1 hg (tg_V tw_275 tw_276 tw_277 tw_2 tw_278) rfl rfl rfl (by decide +kernel) ⟨Nat.le_of_ble_eq_true rfl, Nat.le_of_ble_eq_true rfl⟩) (hK.sub [0] rfl) (hP.sub [2, 3, 4, 5, 6, 7, 8] rfl) rfl rfl rfl hl.1 rfl (lv_room (Nat.le_of_ble_eq_true rfl)) d_Al_longestWaiting_54 ⟨Nat.le_of_ble_eq_true rfl, Nat.le_of_ble_eq_true rfl⟩ ?_
          refine wb_icmp_le (tgt := 62) hx hb (E w - w) (E b - b) rfl rfl (by first | omega | (have h1 := hE24 w; have h2 := hE24 b; omega)) (by first | omega | (have h1 := hE24 w; have h2 := hE24 b; omega)) d_Al_longestWaiting_57 (by decide) (fun c11 => ?_) (fun c11 => ?_)
          · refine lv_iinc (v := (nI (w + 1))) (lv' := [(3, .int (nI (w + 1))), (4, .int ((1 : Int32))), (2, .int (nI b)), (0, .ref al), (1, .ref h)]) hx hb d_Al_longestWaiting_62 hl (k := 1) rfl (nI_add _ 1) (by decide) rfl (fun ls hl => ?_)
            refine lv_goto (tgt := 4) hx hb d_Al_longestWaiting_65 (by decide) ?_
            exact ih2 (some b, w + 1) ls ⟨lv_sub hl [0, 2, 3, 4] rfl, c4, (lw_n ho (Or.inr (Or.inr (lwB_f c11))))⟩ (by show 25 - (w + 1) < 25 - w; omega)
          · refine lv_iload_n hx hb d_Al_longestWaiting_60 rfl (lv_at hl 1 rfl) ?_
            refine lv_istore_n (lv' := [(2, .int (nI w)), (4, .int ((1 : Int32))), (3, .int (nI w)), (0, .ref al), (1, .ref h)]) hx hb d_Al_longestWaiting_61 rfl hl (by decide) rfl (fun ls hl => ?_)
            refine lv_iinc (v := (nI (w + 1))) (lv' := [(3, .int (nI (w + 1))), (2, .int (nI w)), (4, .int ((1 : Int32))), (0, .ref al), (1, .ref h)]) hx hb d_Al_longestWaiting_62 hl (k := 2) rfl (nI_add _ 1) (by decide) rfl (fun ls hl => ?_)
            refine lv_goto (tgt := 4) hx hb d_Al_longestWaiting_65 (by decide) ?_
            exact ih2 (some w, w + 1) ls ⟨lv_sub hl [0, 1, 3, 4] rfl, c4, (lw_y ho c5 c7 (lwB_t c11))⟩ (by show 25 - (w + 1) < 25 - w; omega)
end
section
/-! AllocForge$Allocation: evictMeeting, takeSlot -/
set_option maxHeartbeats 4000000 in
set_option maxRecDepth 100000 in
theorem c_Al_evictMeeting (l : Launch) (dC : Nat → ClassId) (dI : Nat → Nat → Nat) (cI : ClassId) (al : Nat) (ah : Nat) (k : Nat) (ev : Nat) (hm : Nat → Int32) (h : Nat) (o1 : Nat) (o2 : Nat) (o3 : Nat) (o4 : Nat) (o5 : Nat) (o6 : Nat) (n : Nat) (vc : Nat) (ops : Nat → Int32) (lf : Nat → Int32) (rg : Nat → Int32) (E : Nat → Nat) (U : Nat → Nat) (P : Nat → Nat) (v : Nat) (x : Int32) (sz : Nat) (hn : n ≤ 24) (hE24 : ∀ j, E j ≤ 24) (hv24 : v < 24) : Met l y_Al_evictMeeting ws_Al_evictMeeting (lvR 1 0 0) (va_Pc [.ref al, .ref h, .int (nI v), .int x] (PM (dC, dI) vwCl [(al, .inr (0, [.ref ah, .int (nI k), .int (nI ev)])), (ah, .inl (cI, 24, .inl hm)), (h, .inr (1, [.ref o1, .ref o2, .ref o3, .ref o4, .ref o5, .ref o6, .int (nI n), .int (nI vc)])), (o1, .inl (cI, 24, .inl ops)), (o2, .inl (cI, 24, .inl lf)), (o3, .inl (cI, 24, .inl rg)), (o4, .inl (cI, 24, .inl (fun z9 => nI (E z9)))), (o5, .inl (cI, 24, .inl (fun z9 => nI (U z9)))), (o6, .inl (cI, 24, .inl (fun z9 => nI (P z9))))] [(cI, .int)] sz)) (va_Qv (fun _ : Unit => True) (MB (dC, dI) vwCl (fun _ => [(al, .inr (0, [.ref ah, .int (nI k), .int (nI (ev + evC E hm v x n))])), (ah, .inl (cI, 24, .inl (evH E hm v x n))), (h, .inr (1, [.ref o1, .ref o2, .ref o3, .ref o4, .ref o5, .ref o6, .int (nI n), .int (nI vc)])), (o1, .inl (cI, 24, .inl ops)), (o2, .inl (cI, 24, .inl lf)), (o3, .inl (cI, 24, .inl rg)), (o4, .inl (cI, 24, .inl (fun z9 => nI (E z9)))), (o5, .inl (cI, 24, .inl (fun z9 => nI (U z9)))), (o6, .inl (cI, 24, .inl (fun z9 => nI (P z9))))]) [(cI, .int)] (va_A [(al, .inr (0, [.ref ah, .int (nI k), .int (nI ev)])), (ah, .inl (cI, 24, .inl hm)), (h, .inr (1, [.ref o1, .ref o2, .ref o3, .ref o4, .ref o5, .ref o6, .int (nI n), .int (nI vc)])), (o1, .inl (cI, 24, .inl ops)), (o2, .inl (cI, 24, .inl lf)), (o3, .inl (cI, 24, .inl rg)), (o4, .inl (cI, 24, .inl (fun z9 => nI (E z9)))), (o5, .inl (cI, 24, .inl (fun z9 => nI (U z9)))), (o6, .inl (cI, 24, .inl (fun z9 => nI (P z9))))] sz)) (va_A [(al, .inr (0, [.ref ah, .int (nI k), .int (nI ev)])), (ah, .inl (cI, 24, .inl hm)), (h, .inr (1, [.ref o1, .ref o2, .ref o3, .ref o4, .ref o5, .ref o6, .int (nI n), .int (nI vc)])), (o1, .inl (cI, 24, .inl ops)), (o2, .inl (cI, 24, .inl lf)), (o3, .inl (cI, 24, .inl rg)), (o4, .inl (cI, 24, .inl (fun z9 => nI (E z9)))), (o5, .inl (cI, 24, .inl (fun z9 => nI (U z9)))), (o6, .inl (cI, 24, .inl (fun z9 => nI (P z9))))] sz)) 0 0 (va_A [(al, .inr (0, [.ref ah, .int (nI k), .int (nI ev)])), (ah, .inl (cI, 24, .inl hm)), (h, .inr (1, [.ref o1, .ref o2, .ref o3, .ref o4, .ref o5, .ref o6, .int (nI n), .int (nI vc)])), (o1, .inl (cI, 24, .inl ops)), (o2, .inl (cI, 24, .inl lf)), (o3, .inl (cI, 24, .inl rg)), (o4, .inl (cI, 24, .inl (fun z9 => nI (E z9)))), (o5, .inl (cI, 24, .inl (fun z9 => nI (U z9)))), (o6, .inl (cI, 24, .inl (fun z9 => nI (P z9))))] sz) := by
  refine Met.ofW (cc := b_Al_evictMeeting) (maxL := 5) (ret := none) (by decide) rfl ?_
  intro p e s m args below meth c s₁ B hml hv
  obtain ⟨rfl, hsz, hP, hK, hD0⟩ := hv
  have hx := B.exec
  have hb := B.bytes
  have hr := B.returns
  have hts := atoms_spec (ws := ws_Al_evictMeeting) B.pre
  have hg : ∀ w ∈ TG, w.before ([.ref al, .ref h, .int (nI v), .int x] : List Value).toArray s = true := fun w h => hts w (List.mem_cons_of_mem _ h)
  have hown : s.vm.findClass R_Al = some m.cls := findClass_of_methodNamed B.named
  have hlocks := B.notSynchronized
  subst hsz
  have hD := hD0.self (sz := s.heap.size)
  generalize hAe : va_A [(al, .inr (0, [.ref ah, .int (nI k), .int (nI ev)])), (ah, .inl (cI, 24, .inl hm)), (h, .inr (1, [.ref o1, .ref o2, .ref o3, .ref o4, .ref o5, .ref o6, .int (nI n), .int (nI vc)])), (o1, .inl (cI, 24, .inl ops)), (o2, .inl (cI, 24, .inl lf)), (o3, .inl (cI, 24, .inl rg)), (o4, .inl (cI, 24, .inl (fun z9 => nI (E z9)))), (o5, .inl (cI, 24, .inl (fun z9 => nI (U z9)))), (o6, .inl (cI, 24, .inl (fun z9 => nI (P z9))))] s.heap.size = A at hD ⊢
  have hA : ∀ q : Nat, s.heap.size ≤ q → A q := fun q h => by rw [← hAe]; exact Or.inr h
  have hS : va_S A s.heap s.heap [] := va_S.rf
  have hl := lv_entry ([.ref al, .ref h, .int (nI v), .int x]) (n := 5) (Nat.le_of_ble_eq_true rfl)
  rw [lg_entry_eq]
  generalize (lg_sl ([.ref al, .ref h, .int (nI v), .int x]) ++ List.replicate (5 - (lg_sl ([.ref al, .ref h, .int (nI v), .int x])).length) Slot.unset).toArray = ls at hl ⊢
  have hl : lv_has ls 5 [(0, .ref al), (1, .ref h), (2, .int (nI v)), (3, .int x)] := hl
  refine lv_iconst (v := 0) hx hb d_Al_evictMeeting_0 (by decide) ?_
  refine lv_istore (lv' := [(4, .int ((0 : Int32))), (0, .ref al), (1, .ref h), (2, .int (nI v)), (3, .int x)]) hx hb d_Al_evictMeeting_1 hl (by decide) rfl (fun ls hl => ?_)
  refine wb_loop (σ := (Nat → Int32) × Nat × Nat) 3 (fun x1 H locs ls => lv_has ls 5 [(4, .int (nI x1.2.2)), (0, .ref al), (1, .ref h), (2, .int (nI v)), (3, .int x)] ∧ va_P (dC, dI) vwCl [(al, .inr (0, [.ref ah, .int (nI k), .int (nI x1.2.1)])), (ah, .inl (cI, 24, .inl x1.1)), (h, .inr (1, [.ref o1, .ref o2, .ref o3, .ref o4, .ref o5, .ref o6, .int (nI n), .int (nI vc)])), (o1, .inl (cI, 24, .inl ops)), (o2, .inl (cI, 24, .inl lf)), (o3, .inl (cI, 24, .inl rg)), (o4, .inl (cI, 24, .inl (fun z9 => nI (E z9)))), (o5, .inl (cI, 24, .inl (fun z9 => nI (U z9)))), (o6, .inl (cI, 24, .inl (fun z9 => nI (P z9))))] H ∧ va_D A [(al, .inr (0, [.ref ah, .int (nI k), .int (nI x1.2.1)])), (ah, .inl (cI, 24, .inl x1.1)), (h, .inr (1, [.ref o1, .ref o2, .ref o3, .ref o4, .ref o5, .ref o6, .int (nI n), .int (nI vc)])), (o1, .inl (cI, 24, .inl ops)), (o2, .inl (cI, 24, .inl lf)), (o3, .inl (cI, 24, .inl rg)), (o4, .inl (cI, 24, .inl (fun z9 => nI (E z9)))), (o5, .inl (cI, 24, .inl (fun z9 => nI (U z9)))), (o6, .inl (cI, 24, .inl (fun z9 => nI (P z9))))] ∧ va_S A s.heap H locs ∧ (x1.2.2 ≤ n) ∧ (x1.1 = evH E hm v x x1.2.2) ∧ (x1.2.1 = ev + evC E hm v x x1.2.2)) (fun x1 => 25 - x1.2.2) ?_ (hm, ev, 0) _ _ ls ⟨lv_sub hl [0, 1, 2, 3, 4] rfl, hP, hD, hS, (Nat.zero_le _), rfl, rfl⟩
  clear hP hD hS hl
  intro x1 H locs ls hI3 ih2
  obtain ⟨f, a, w⟩ := x1
  obtain ⟨hl, hP, hD, hS, hw1, hf, ha⟩ := hI3
  have hl : lv_has ls 5 [(4, .int (nI w)), (0, .ref al), (1, .ref h), (2, .int (nI v)), (3, .int x)] := hl
  have hP : va_P (dC, dI) vwCl [(al, .inr (0, [.ref ah, .int (nI k), .int (nI a)])), (ah, .inl (cI, 24, .inl f)), (h, .inr (1, [.ref o1, .ref o2, .ref o3, .ref o4, .ref o5, .ref o6, .int (nI n), .int (nI vc)])), (o1, .inl (cI, 24, .inl ops)), (o2, .inl (cI, 24, .inl lf)), (o3, .inl (cI, 24, .inl rg)), (o4, .inl (cI, 24, .inl (fun z9 => nI (E z9)))), (o5, .inl (cI, 24, .inl (fun z9 => nI (U z9)))), (o6, .inl (cI, 24, .inl (fun z9 => nI (P z9))))] H := hP
  have hD : va_D A [(al, .inr (0, [.ref ah, .int (nI k), .int (nI a)])), (ah, .inl (cI, 24, .inl f)), (h, .inr (1, [.ref o1, .ref o2, .ref o3, .ref o4, .ref o5, .ref o6, .int (nI n), .int (nI vc)])), (o1, .inl (cI, 24, .inl ops)), (o2, .inl (cI, 24, .inl lf)), (o3, .inl (cI, 24, .inl rg)), (o4, .inl (cI, 24, .inl (fun z9 => nI (E z9)))), (o5, .inl (cI, 24, .inl (fun z9 => nI (U z9)))), (o6, .inl (cI, 24, .inl (fun z9 => nI (P z9))))] := hD
  have hw1 : w ≤ n := hw1
  have hf : f = evH E hm v x w := hf
  have ha : a = ev + evC E hm v x w := ha
  refine lv_iload hx hb d_Al_evictMeeting_3 (lv_at hl 0 rfl) ?_
  refine lv_aload_n hx hb d_Al_evictMeeting_5 rfl (lv_at hl 2 rfl) ?_
  refine rdV (ci := 1) (q0 := 0) (As := []) (rest := [.int (nI w)]) ⟨hx, hb, hml, hown, hg⟩ (c_Co_size l dC dI cI h o1 o2 o3 o4 o5 o6 n vc ops lf rg E U P) (cwV 0 hg (tg_V tw_273 tw_126 tw_127 tw_2 tw_128) rfl rfl rfl (by decide +kernel) ⟨Nat.le_of_ble_eq_true rfl, Nat.le_of_ble_eq_true rfl⟩) (hK.sub [0] rfl) (hP.sub [2, 3, 4, 5, 6, 7, 8] rfl) rfl rfl rfl hl.1 rfl (lv_room (Nat.le_of_ble_eq_true rfl)) d_Al_evictMeeting_6 ⟨Nat.le_of_ble_eq_true rfl, Nat.le_of_ble_eq_true rfl⟩ ?_
  refine wb_icmp_ge (tgt := 57) hx hb w n rfl rfl (by omega) (by omega) d_Al_evictMeeting_9 (by decide) (fun c4 => ?_) (fun c4 => ?_)
  · have ew := Nat.le_antisymm hw1 c4
    have ef : evH E hm v x n = f := by rw [hf, ew]
    have ea : ev + evC E hm v x n = a := by rw [ha, ew]
    have hP9 : va_P (dC, dI) vwCl [(al, .inr (0, [.ref ah, .int (nI k), .int (nI (ev + evC E hm v x n))])), (ah, .inl (cI, 24, .inl (evH E hm v x n))), (h, .inr (1, [.ref o1, .ref o2, .ref o3, .ref o4, .ref o5, .ref o6, .int (nI n), .int (nI vc)])), (o1, .inl (cI, 24, .inl ops)), (o2, .inl (cI, 24, .inl lf)), (o3, .inl (cI, 24, .inl rg)), (o4, .inl (cI, 24, .inl (fun z9 => nI (E z9)))), (o5, .inl (cI, 24, .inl (fun z9 => nI (U z9)))), (o6, .inl (cI, 24, .inl (fun z9 => nI (P z9))))] _ := (by rw [ef, ea]; exact hP.sub [0, 1, 2, 3, 4, 5, 6, 7, 8] rfl)
    have hD9 : va_D A [(al, .inr (0, [.ref ah, .int (nI k), .int (nI (ev + evC E hm v x n))])), (ah, .inl (cI, 24, .inl (evH E hm v x n))), (h, .inr (1, [.ref o1, .ref o2, .ref o3, .ref o4, .ref o5, .ref o6, .int (nI n), .int (nI vc)])), (o1, .inl (cI, 24, .inl ops)), (o2, .inl (cI, 24, .inl lf)), (o3, .inl (cI, 24, .inl rg)), (o4, .inl (cI, 24, .inl (fun z9 => nI (E z9)))), (o5, .inl (cI, 24, .inl (fun z9 => nI (U z9)))), (o6, .inl (cI, 24, .inl (fun z9 => nI (P z9))))] := (by rw [ef, ea]; exact hD.sub [0, 1, 2, 3, 4, 5, 6, 7, 8] (by decide) rfl)
    exact W.vret hx hb hr (fun t ht hW => ⟨⟨(), rfl, trivial, by rw [ht]; exact hP9, va_K.moved hW.alike hK, hD9⟩, hS.F ht⟩) hS.2.2 d_Al_evictMeeting_57
  · refine lv_aload_n hx hb d_Al_evictMeeting_12 rfl (lv_at hl 1 rfl) ?_
    refine va_get (D := (dC, dI)) (ci := 0) (v := .ref ah) (C := R_Al) (T := T_Al) (N := 3) hx hb hg in_Al hown hK hP 0 rfl rfl 0 (by decide) (hg _ tw_89) (fun _ h9 => h9) rfl d_Al_evictMeeting_13 ?_
    refine lv_iload hx hb d_Al_evictMeeting_16 (lv_at hl 0 rfl) ?_
    refine wb_iald hx hb hK hP 1 0 rfl rfl w rfl (Nat.lt_of_lt_of_le c4 hn) (by decide) d_Al_evictMeeting_18 ?_
    refine lv_iload_n hx hb d_Al_evictMeeting_19 rfl (lv_at hl 4 rfl) ?_
    refine lv_icmp_ne (tgt := 51) hx hb d_Al_evictMeeting_20 (by decide) (fun c5 => ?_) (fun c5 => ?_)
    · refine lv_iinc (v := (nI (w + 1))) (lv' := [(4, .int (nI (w + 1))), (0, .ref al), (1, .ref h), (2, .int (nI v)), (3, .int x)]) hx hb d_Al_evictMeeting_51 hl (k := 0) rfl (nI_add _ 1) (by decide) rfl (fun ls hl => ?_)
      refine lv_goto (tgt := 3) hx hb d_Al_evictMeeting_54 (by decide) ?_
      have hP : va_P (dC, dI) vwCl [(al, .inr (0, [.ref ah, .int (nI k), .int (nI a)])), (ah, .inl (cI, 24, .inl f)), (h, .inr (1, [.ref o1, .ref o2, .ref o3, .ref o4, .ref o5, .ref o6, .int (nI n), .int (nI vc)])), (o1, .inl (cI, 24, .inl ops)), (o2, .inl (cI, 24, .inl lf)), (o3, .inl (cI, 24, .inl rg)), (o4, .inl (cI, 24, .inl (fun z9 => nI (E z9)))), (o5, .inl (cI, 24, .inl (fun z9 => nI (U z9)))), (o6, .inl (cI, 24, .inl (fun z9 => nI (P z9))))] _ := hP.sub [0, 1, 2, 3, 4, 5, 6, 7, 8] rfl; have hD : va_D A [(al, .inr (0, [.ref ah, .int (nI k), .int (nI a)])), (ah, .inl (cI, 24, .inl f)), (h, .inr (1, [.ref o1, .ref o2, .ref o3, .ref o4, .ref o5, .ref o6, .int (nI n), .int (nI vc)])), (o1, .inl (cI, 24, .inl ops)), (o2, .inl (cI, 24, .inl lf)), (o3, .inl (cI, 24, .inl rg)), (o4, .inl (cI, 24, .inl (fun z9 => nI (E z9)))), (o5, .inl (cI, 24, .inl (fun z9 => nI (U z9)))), (o6, .inl (cI, 24, .inl (fun z9 => nI (P z9))))] := hD.sub [0, 1, 2, 3, 4, 5, 6, 7, 8] (by decide) rfl
      exact ih2 (f, a, w + 1) _ _ ls ⟨lv_sub hl [0, 1, 2, 3, 4] rfl, hP.sub [0, 1, 2, 3, 4, 5, 6, 7, 8] rfl, hD.sub [0, 1, 2, 3, 4, 5, 6, 7, 8] (by decide) rfl, hS, c4, (ev_n hf (Or.inl c5)), (evC_n hf ha (Or.inl c5))⟩ (by show 25 - (w + 1) < 25 - w; omega)
    · refine lv_aload_n hx hb d_Al_evictMeeting_23 rfl (lv_at hl 2 rfl) ?_
      refine lv_iload_n hx hb d_Al_evictMeeting_24 rfl (lv_at hl 3 rfl) ?_
      refine lv_iload hx hb d_Al_evictMeeting_25 (lv_at hl 0 rfl) ?_
      refine rdV (ci := 1) (q0 := 0) (As := [.int (nI v), .int (nI w)]) (rest := []) ⟨hx, hb, hml, hown, hg⟩ (c_Co_meet l dC dI cI h o1 o2 o3 o4 o5 o6 n vc ops lf rg E U P v w hv24 (Nat.lt_of_lt_of_le c4 hn) (hE24 _) (hE24 _)) (cwV 2 hg (tg_V tw_299 tw_300 tw_301 tw_2 tw_302) rfl rfl rfl (by decide +kernel) ⟨Nat.le_of_ble_eq_true rfl, Nat.le_of_ble_eq_true rfl⟩) (hK.sub [0] rfl) (hP.sub [2, 3, 4, 5, 6, 7, 8] rfl) rfl rfl rfl hl.1 rfl (lv_room (Nat.le_of_ble_eq_true rfl)) d_Al_evictMeeting_27 ⟨Nat.le_of_ble_eq_true rfl, Nat.le_of_ble_eq_true rfl⟩ ?_
      refine wb_if_eqb (tgt := 51) hx hb (mt E v w) rfl d_Al_evictMeeting_30 (by decide) (fun c6 => ?_) (fun c6 => ?_)
      · refine lv_iinc (v := (nI (w + 1))) (lv' := [(4, .int (nI (w + 1))), (0, .ref al), (1, .ref h), (2, .int (nI v)), (3, .int x)]) hx hb d_Al_evictMeeting_51 hl (k := 0) rfl (nI_add _ 1) (by decide) rfl (fun ls hl => ?_)
        refine lv_goto (tgt := 3) hx hb d_Al_evictMeeting_54 (by decide) ?_
        have hP : va_P (dC, dI) vwCl [(al, .inr (0, [.ref ah, .int (nI k), .int (nI a)])), (ah, .inl (cI, 24, .inl f)), (h, .inr (1, [.ref o1, .ref o2, .ref o3, .ref o4, .ref o5, .ref o6, .int (nI n), .int (nI vc)])), (o1, .inl (cI, 24, .inl ops)), (o2, .inl (cI, 24, .inl lf)), (o3, .inl (cI, 24, .inl rg)), (o4, .inl (cI, 24, .inl (fun z9 => nI (E z9)))), (o5, .inl (cI, 24, .inl (fun z9 => nI (U z9)))), (o6, .inl (cI, 24, .inl (fun z9 => nI (P z9))))] _ := hP.sub [0, 1, 2, 3, 4, 5, 6, 7, 8] rfl; have hD : va_D A [(al, .inr (0, [.ref ah, .int (nI k), .int (nI a)])), (ah, .inl (cI, 24, .inl f)), (h, .inr (1, [.ref o1, .ref o2, .ref o3, .ref o4, .ref o5, .ref o6, .int (nI n), .int (nI vc)])), (o1, .inl (cI, 24, .inl ops)), (o2, .inl (cI, 24, .inl lf)), (o3, .inl (cI, 24, .inl rg)), (o4, .inl (cI, 24, .inl (fun z9 => nI (E z9)))), (o5, .inl (cI, 24, .inl (fun z9 => nI (U z9)))), (o6, .inl (cI, 24, .inl (fun z9 => nI (P z9))))] := hD.sub [0, 1, 2, 3, 4, 5, 6, 7, 8] (by decide) rfl
        exact ih2 (f, a, w + 1) _ _ ls ⟨lv_sub hl [0, 1, 2, 3, 4] rfl, hP.sub [0, 1, 2, 3, 4, 5, 6, 7, 8] rfl, hD.sub [0, 1, 2, 3, 4, 5, 6, 7, 8] (by decide) rfl, hS, c4, (ev_n hf (Or.inr c6)), (evC_n hf ha (Or.inr c6))⟩ (by show 25 - (w + 1) < 25 - w; omega)
      · refine lv_aload_n hx hb d_Al_evictMeeting_33 rfl (lv_at hl 1 rfl) ?_
        refine va_get (D := (dC, dI)) (ci := 0) (v := .ref ah) (C := R_Al) (T := T_Al) (N := 3) hx hb hg in_Al hown hK hP 0 rfl rfl 0 (by decide) (hg _ tw_89) (fun _ h9 => h9) rfl d_Al_evictMeeting_34 ?_
        refine lv_iload hx hb d_Al_evictMeeting_37 (lv_at hl 0 rfl) ?_
        refine lv_iconst (v := -1) hx hb d_Al_evictMeeting_39 (by decide) ?_
        refine wb_iast hx hb hK hP hD hS 1 0 rfl rfl w rfl (Nat.lt_of_lt_of_le c4 hn) (by decide) d_Al_evictMeeting_40 (fun H locs hP hD hS => ?_)
        have hP : va_P (dC, dI) vwCl [(al, .inr (0, [.ref ah, .int (nI k), .int (nI a)])), (ah, .inl (cI, 24, .inl (upd f w ((-1 : Int32))))), (h, .inr (1, [.ref o1, .ref o2, .ref o3, .ref o4, .ref o5, .ref o6, .int (nI n), .int (nI vc)])), (o1, .inl (cI, 24, .inl ops)), (o2, .inl (cI, 24, .inl lf)), (o3, .inl (cI, 24, .inl rg)), (o4, .inl (cI, 24, .inl (fun z9 => nI (E z9)))), (o5, .inl (cI, 24, .inl (fun z9 => nI (U z9)))), (o6, .inl (cI, 24, .inl (fun z9 => nI (P z9))))] H := hP
        have hD : va_D A [(al, .inr (0, [.ref ah, .int (nI k), .int (nI a)])), (ah, .inl (cI, 24, .inl (upd f w ((-1 : Int32))))), (h, .inr (1, [.ref o1, .ref o2, .ref o3, .ref o4, .ref o5, .ref o6, .int (nI n), .int (nI vc)])), (o1, .inl (cI, 24, .inl ops)), (o2, .inl (cI, 24, .inl lf)), (o3, .inl (cI, 24, .inl rg)), (o4, .inl (cI, 24, .inl (fun z9 => nI (E z9)))), (o5, .inl (cI, 24, .inl (fun z9 => nI (U z9)))), (o6, .inl (cI, 24, .inl (fun z9 => nI (P z9))))] := hD
        refine lv_aload_n hx hb d_Al_evictMeeting_41 rfl (lv_at hl 1 rfl) ?_
        refine lv_dup hx hb d_Al_evictMeeting_42 rfl ?_
        refine va_get (D := (dC, dI)) (ci := 0) (v := .int (nI a)) (C := R_Al) (T := T_Al) (N := 3) hx hb hg in_Al hown hK hP 0 rfl rfl 2 (by decide) (hg _ tw_91) (fun _ h9 => h9) rfl d_Al_evictMeeting_43 ?_
        refine lv_iconst (v := 1) hx hb d_Al_evictMeeting_46 (by decide) ?_
        refine wb_iadd hx hb a 1 rfl rfl d_Al_evictMeeting_47 ?_
        refine va_put (D := (dC, dI)) (ci := 0) (v := .int (nI (a + 1))) (ty := .int) (C := R_Al) (T := T_Al) (N := 3) hx hb hg in_Al ty_Al tyok_Al nm_Al hown hK hP hD hS 0 rfl rfl 2 (by decide) (hg _ tw_91) (fun _ h9 => h9) rfl (by decide +kernel) rfl rfl (Nat.le_of_ble_eq_true rfl) d_Al_evictMeeting_48 (fun H locs hP hD hS => ?_)
        have hP : va_P (dC, dI) vwCl [(al, .inr (0, [.ref ah, .int (nI k), .int (nI (a + 1))])), (ah, .inl (cI, 24, .inl (upd f w ((-1 : Int32))))), (h, .inr (1, [.ref o1, .ref o2, .ref o3, .ref o4, .ref o5, .ref o6, .int (nI n), .int (nI vc)])), (o1, .inl (cI, 24, .inl ops)), (o2, .inl (cI, 24, .inl lf)), (o3, .inl (cI, 24, .inl rg)), (o4, .inl (cI, 24, .inl (fun z9 => nI (E z9)))), (o5, .inl (cI, 24, .inl (fun z9 => nI (U z9)))), (o6, .inl (cI, 24, .inl (fun z9 => nI (P z9))))] H := hP
        have hD : va_D A [(al, .inr (0, [.ref ah, .int (nI k), .int (nI (a + 1))])), (ah, .inl (cI, 24, .inl (upd f w ((-1 : Int32))))), (h, .inr (1, [.ref o1, .ref o2, .ref o3, .ref o4, .ref o5, .ref o6, .int (nI n), .int (nI vc)])), (o1, .inl (cI, 24, .inl ops)), (o2, .inl (cI, 24, .inl lf)), (o3, .inl (cI, 24, .inl rg)), (o4, .inl (cI, 24, .inl (fun z9 => nI (E z9)))), (o5, .inl (cI, 24, .inl (fun z9 => nI (U z9)))), (o6, .inl (cI, 24, .inl (fun z9 => nI (P z9))))] := hD
        refine lv_iinc (v := (nI (w + 1))) (lv' := [(4, .int (nI (w + 1))), (0, .ref al), (1, .ref h), (2, .int (nI v)), (3, .int x)]) hx hb d_Al_evictMeeting_51 hl (k := 0) rfl (nI_add _ 1) (by decide) rfl (fun ls hl => ?_)
        refine lv_goto (tgt := 3) hx hb d_Al_evictMeeting_54 (by decide) ?_
        have hP : va_P (dC, dI) vwCl [(al, .inr (0, [.ref ah, .int (nI k), .int (nI (a + 1))])), (ah, .inl (cI, 24, .inl (upd f w ((-1 : Int32))))), (h, .inr (1, [.ref o1, .ref o2, .ref o3, .ref o4, .ref o5, .ref o6, .int (nI n), .int (nI vc)])), (o1, .inl (cI, 24, .inl ops)), (o2, .inl (cI, 24, .inl lf)), (o3, .inl (cI, 24, .inl rg)), (o4, .inl (cI, 24, .inl (fun z9 => nI (E z9)))), (o5, .inl (cI, 24, .inl (fun z9 => nI (U z9)))), (o6, .inl (cI, 24, .inl (fun z9 => nI (P z9))))] _ := hP.sub [0, 1, 2, 3, 4, 5, 6, 7, 8] rfl; have hD : va_D A [(al, .inr (0, [.ref ah, .int (nI k), .int (nI (a + 1))])), (ah, .inl (cI, 24, .inl (upd f w ((-1 : Int32))))), (h, .inr (1, [.ref o1, .ref o2, .ref o3, .ref o4, .ref o5, .ref o6, .int (nI n), .int (nI vc)])), (o1, .inl (cI, 24, .inl ops)), (o2, .inl (cI, 24, .inl lf)), (o3, .inl (cI, 24, .inl rg)), (o4, .inl (cI, 24, .inl (fun z9 => nI (E z9)))), (o5, .inl (cI, 24, .inl (fun z9 => nI (U z9)))), (o6, .inl (cI, 24, .inl (fun z9 => nI (P z9))))] := hD.sub [0, 1, 2, 3, 4, 5, 6, 7, 8] (by decide) rfl
        exact ih2 (upd f w (-1), a + 1, w + 1) _ _ ls ⟨lv_sub hl [0, 1, 2, 3, 4] rfl, hP.sub [0, 1, 2, 3, 4, 5, 6, 7, 8] rfl, hD.sub [0, 1, 2, 3, 4, 5, 6, 7, 8] (by decide) rfl, hS, c4, (ev_y (a := a) hf c5 c6), (evC_y hf ha c5 c6)⟩ (by show 25 - (w + 1) < 25 - w; omega)

set_option maxHeartbeats 4000000 in
set_option maxRecDepth 100000 in
theorem c_Al_takeSlot (l : Launch) (dC : Nat → ClassId) (dI : Nat → Nat → Nat) (cI : ClassId) (al : Nat) (ah : Nat) (k : Nat) (ev : Nat) (hm : Nat → Int32) (h : Nat) (o1 : Nat) (o2 : Nat) (o3 : Nat) (o4 : Nat) (o5 : Nat) (o6 : Nat) (n : Nat) (vc : Nat) (ops : Nat → Int32) (lf : Nat → Int32) (rg : Nat → Int32) (E : Nat → Nat) (U : Nat → Nat) (P : Nat → Nat) (v : Nat) (sz : Nat) (hn : n ≤ 24) (hE24 : ∀ j, E j ≤ 24) (hwf : ∀ j, j < n → j < E j) (hwa : ∀ j, j < n → vf_n64 (wt P E j)) (hv24 : v < 24) : Met l y_Al_takeSlot ws_Al_takeSlot (lvR 3 0 0) (va_Pc [.ref al, .ref h, .int (nI v)] (PM (dC, dI) vwCl [(al, .inr (0, [.ref ah, .int (nI k), .int (nI ev)])), (ah, .inl (cI, 24, .inl hm)), (h, .inr (1, [.ref o1, .ref o2, .ref o3, .ref o4, .ref o5, .ref o6, .int (nI n), .int (nI vc)])), (o1, .inl (cI, 24, .inl ops)), (o2, .inl (cI, 24, .inl lf)), (o3, .inl (cI, 24, .inl rg)), (o4, .inl (cI, 24, .inl (fun z9 => nI (E z9)))), (o5, .inl (cI, 24, .inl (fun z9 => nI (U z9)))), (o6, .inl (cI, 24, .inl (fun z9 => nI (P z9))))] [(cI, .int)] sz)) (va_Qi (fun (r : Int32) (_ : Unit) => r = bI (fsl E P hm n v 10 6).isSome) (MB (dC, dI) vwCl (fun _ => [(al, .inr (0, [.ref ah, .int (nI k), .int (nI ev)])), (ah, .inl (cI, 24, .inl (slH hm v (fsl E P hm n v 10 6)))), (h, .inr (1, [.ref o1, .ref o2, .ref o3, .ref o4, .ref o5, .ref o6, .int (nI n), .int (nI vc)])), (o1, .inl (cI, 24, .inl ops)), (o2, .inl (cI, 24, .inl lf)), (o3, .inl (cI, 24, .inl rg)), (o4, .inl (cI, 24, .inl (fun z9 => nI (E z9)))), (o5, .inl (cI, 24, .inl (fun z9 => nI (U z9)))), (o6, .inl (cI, 24, .inl (fun z9 => nI (P z9))))]) [(cI, .int)] (va_A [(al, .inr (0, [.ref ah, .int (nI k), .int (nI ev)])), (ah, .inl (cI, 24, .inl hm)), (h, .inr (1, [.ref o1, .ref o2, .ref o3, .ref o4, .ref o5, .ref o6, .int (nI n), .int (nI vc)])), (o1, .inl (cI, 24, .inl ops)), (o2, .inl (cI, 24, .inl lf)), (o3, .inl (cI, 24, .inl rg)), (o4, .inl (cI, 24, .inl (fun z9 => nI (E z9)))), (o5, .inl (cI, 24, .inl (fun z9 => nI (U z9)))), (o6, .inl (cI, 24, .inl (fun z9 => nI (P z9))))] sz)) (va_A [(al, .inr (0, [.ref ah, .int (nI k), .int (nI ev)])), (ah, .inl (cI, 24, .inl hm)), (h, .inr (1, [.ref o1, .ref o2, .ref o3, .ref o4, .ref o5, .ref o6, .int (nI n), .int (nI vc)])), (o1, .inl (cI, 24, .inl ops)), (o2, .inl (cI, 24, .inl lf)), (o3, .inl (cI, 24, .inl rg)), (o4, .inl (cI, 24, .inl (fun z9 => nI (E z9)))), (o5, .inl (cI, 24, .inl (fun z9 => nI (U z9)))), (o6, .inl (cI, 24, .inl (fun z9 => nI (P z9))))] sz)) 0 0 (va_A [(al, .inr (0, [.ref ah, .int (nI k), .int (nI ev)])), (ah, .inl (cI, 24, .inl hm)), (h, .inr (1, [.ref o1, .ref o2, .ref o3, .ref o4, .ref o5, .ref o6, .int (nI n), .int (nI vc)])), (o1, .inl (cI, 24, .inl ops)), (o2, .inl (cI, 24, .inl lf)), (o3, .inl (cI, 24, .inl rg)), (o4, .inl (cI, 24, .inl (fun z9 => nI (E z9)))), (o5, .inl (cI, 24, .inl (fun z9 => nI (U z9)))), (o6, .inl (cI, 24, .inl (fun z9 => nI (P z9))))] sz) := by
  refine Met.ofW (cc := b_Al_takeSlot) (maxL := 4) (ret := (some .boolean)) (by decide) rfl ?_
  intro p e s m args below meth c s₁ B hml hv
  obtain ⟨rfl, hsz, hP, hK, hD0⟩ := hv
  have hx := B.exec
  have hb := B.bytes
  have hr := B.returns
  have hts := atoms_spec (ws := ws_Al_takeSlot) B.pre
  have hg : ∀ w ∈ TG, w.before ([.ref al, .ref h, .int (nI v)] : List Value).toArray s = true := fun w h => hts w (List.mem_cons_of_mem _ h)
  have hown : s.vm.findClass R_Al = some m.cls := findClass_of_methodNamed B.named
  have hlocks := B.notSynchronized
  subst hsz
  have hD := hD0.self (sz := s.heap.size)
  generalize hAe : va_A [(al, .inr (0, [.ref ah, .int (nI k), .int (nI ev)])), (ah, .inl (cI, 24, .inl hm)), (h, .inr (1, [.ref o1, .ref o2, .ref o3, .ref o4, .ref o5, .ref o6, .int (nI n), .int (nI vc)])), (o1, .inl (cI, 24, .inl ops)), (o2, .inl (cI, 24, .inl lf)), (o3, .inl (cI, 24, .inl rg)), (o4, .inl (cI, 24, .inl (fun z9 => nI (E z9)))), (o5, .inl (cI, 24, .inl (fun z9 => nI (U z9)))), (o6, .inl (cI, 24, .inl (fun z9 => nI (P z9))))] s.heap.size = A at hD ⊢
  have hA : ∀ q : Nat, s.heap.size ≤ q → A q := fun q h => by rw [← hAe]; exact Or.inr h
  have hS : va_S A s.heap s.heap [] := va_S.rf
  have hl := lv_entry ([.ref al, .ref h, .int (nI v)]) (n := 4) (Nat.le_of_ble_eq_true rfl)
  rw [lg_entry_eq]
  generalize (lg_sl ([.ref al, .ref h, .int (nI v)]) ++ List.replicate (4 - (lg_sl ([.ref al, .ref h, .int (nI v)])).length) Slot.unset).toArray = ls at hl ⊢
  have hl : lv_has ls 4 [(0, .ref al), (1, .ref h), (2, .int (nI v))] := hl
  refine lv_bipush (v := 10) hx hb d_Al_takeSlot_0 (by decide) ?_
  refine lv_istore_n (lv' := [(3, .int ((10 : Int32))), (0, .ref al), (1, .ref h), (2, .int (nI v))]) hx hb d_Al_takeSlot_2 rfl hl (by decide) rfl (fun ls hl => ?_)
  refine wb_loopP (σ := Nat) 3 (fun i ls => lv_has ls 4 [(3, .int (nI i)), (0, .ref al), (1, .ref h), (2, .int (nI v))] ∧ (i ≤ 16) ∧ (fsl E P hm n v 10 6 = fsl E P hm n v i (16 - i))) (fun i => 16 - i) ?_ (10) ls ⟨lv_sub hl [0, 1, 2, 3] rfl, (by decide), rfl⟩
  clear hl
  intro i ls hI2 ih1
  obtain ⟨hl, hi, hs⟩ := hI2
  refine lv_iload_n hx hb d_Al_takeSlot_3 rfl (lv_at hl 0 rfl) ?_
  refine lv_bipush (v := 16) hx hb d_Al_takeSlot_4 (by decide) ?_
  refine wb_icmp_ge (tgt := 36) hx hb i 16 rfl rfl (by omega) (by omega) d_Al_takeSlot_6 (by decide) (fun c3 => ?_) (fun c3 => ?_)
  · refine lv_iconst (v := 0) hx hb d_Al_takeSlot_36 (by decide) ?_
    have es := hs.trans (fsl_e c3)
    have hP9 : va_P (dC, dI) vwCl [(al, .inr (0, [.ref ah, .int (nI k), .int (nI ev)])), (ah, .inl (cI, 24, .inl (slH hm v (fsl E P hm n v 10 6)))), (h, .inr (1, [.ref o1, .ref o2, .ref o3, .ref o4, .ref o5, .ref o6, .int (nI n), .int (nI vc)])), (o1, .inl (cI, 24, .inl ops)), (o2, .inl (cI, 24, .inl lf)), (o3, .inl (cI, 24, .inl rg)), (o4, .inl (cI, 24, .inl (fun z9 => nI (E z9)))), (o5, .inl (cI, 24, .inl (fun z9 => nI (U z9)))), (o6, .inl (cI, 24, .inl (fun z9 => nI (P z9))))] _ := (by rw [es]; exact hP.sub [0, 1, 2, 3, 4, 5, 6, 7, 8] rfl)
    have hD9 : va_D A [(al, .inr (0, [.ref ah, .int (nI k), .int (nI ev)])), (ah, .inl (cI, 24, .inl (slH hm v (fsl E P hm n v 10 6)))), (h, .inr (1, [.ref o1, .ref o2, .ref o3, .ref o4, .ref o5, .ref o6, .int (nI n), .int (nI vc)])), (o1, .inl (cI, 24, .inl ops)), (o2, .inl (cI, 24, .inl lf)), (o3, .inl (cI, 24, .inl rg)), (o4, .inl (cI, 24, .inl (fun z9 => nI (E z9)))), (o5, .inl (cI, 24, .inl (fun z9 => nI (U z9)))), (o6, .inl (cI, 24, .inl (fun z9 => nI (P z9))))] := (by rw [es]; exact hD.sub [0, 1, 2, 3, 4, 5, 6, 7, 8] (by decide) rfl)
    exact W.zret (v := (0 : Int32)) (ty := .boolean) hx hb hr rfl (fun t ht hW => ⟨⟨_, (), rfl, (by rw [es]; rfl), by rw [ht]; exact hP9, va_K.moved hW.alike hK, hD9⟩, hS.F ht⟩) hS.2.2 d_Al_takeSlot_37
  · refine lv_aload_n hx hb d_Al_takeSlot_9 rfl (lv_at hl 1 rfl) ?_
    refine lv_aload_n hx hb d_Al_takeSlot_10 rfl (lv_at hl 2 rfl) ?_
    refine lv_iload_n hx hb d_Al_takeSlot_11 rfl (lv_at hl 3 rfl) ?_
    refine lv_iload_n hx hb d_Al_takeSlot_12 rfl (lv_at hl 0 rfl) ?_
    refine rdVd (ci := 0) (q0 := 0) (As := [.ref h, .int (nI v), .int (nI i)]) (rest := []) ⟨hx, hb, hml, hown, hg⟩ (c_Al_heaviestMeeting l dC dI cI al ah k ev hm h o1 o2 o3 o4 o5 o6 n vc ops lf rg E U P v (nI i) hn hE24 hwf hv24 (fun j hj _ => hwa j hj)) (cwV 3 hg (tg_V tw_295 tw_297 sp_Al_heaviestMeeting tw_4 tw_298) rfl rfl rfl (by decide +kernel) ⟨Nat.le_of_ble_eq_true rfl, Nat.le_of_ble_eq_true rfl⟩) (hK.sub [0] rfl) (hP.sub [0, 1, 2, 3, 4, 5, 6, 7, 8] rfl) rfl rfl rfl hl.1 rfl (lv_room (Nat.le_of_ble_eq_true rfl)) d_Al_takeSlot_13 ⟨Nat.le_of_ble_eq_true rfl, Nat.le_of_ble_eq_true rfl⟩ ?_
    refine lv_dconst0 hx hb d_Al_takeSlot_16 ?_
    refine lv_dcmp hx hb d_Al_takeSlot_17 ?_
    refine lv_if_ne (tgt := 30) hx hb d_Al_takeSlot_18 (by decide) (fun c4 => ?_) (fun c4 => ?_)
    · refine lv_iinc (v := (nI (i + 1))) (lv' := [(3, .int (nI (i + 1))), (0, .ref al), (1, .ref h), (2, .int (nI v))]) hx hb d_Al_takeSlot_30 hl (k := 0) rfl (nI_add _ 1) (by decide) rfl (fun ls hl => ?_)
      refine lv_goto (tgt := 3) hx hb d_Al_takeSlot_33 (by decide) ?_
      exact ih1 (i + 1) ls ⟨lv_sub hl [0, 1, 2, 3] rfl, c3, (hs.trans (fsl_n c3 (deq_n c4)))⟩ (by have := c3; omega)
    · refine lv_aload_n hx hb d_Al_takeSlot_21 rfl (lv_at hl 1 rfl) ?_
      refine va_get (D := (dC, dI)) (ci := 0) (v := .ref ah) (C := R_Al) (T := T_Al) (N := 3) hx hb hg in_Al hown hK hP 0 rfl rfl 0 (by decide) (hg _ tw_89) (fun _ h9 => h9) rfl d_Al_takeSlot_22 ?_
      refine lv_iload_n hx hb d_Al_takeSlot_25 rfl (lv_at hl 3 rfl) ?_
      refine lv_iload_n hx hb d_Al_takeSlot_26 rfl (lv_at hl 0 rfl) ?_
      refine wb_iast hx hb hK hP hD hS 1 0 rfl rfl v rfl hv24 (by decide) d_Al_takeSlot_27 (fun H locs hP hD hS => ?_)
      have hP : va_P (dC, dI) vwCl [(al, .inr (0, [.ref ah, .int (nI k), .int (nI ev)])), (ah, .inl (cI, 24, .inl (upd hm v (nI i)))), (h, .inr (1, [.ref o1, .ref o2, .ref o3, .ref o4, .ref o5, .ref o6, .int (nI n), .int (nI vc)])), (o1, .inl (cI, 24, .inl ops)), (o2, .inl (cI, 24, .inl lf)), (o3, .inl (cI, 24, .inl rg)), (o4, .inl (cI, 24, .inl (fun z9 => nI (E z9)))), (o5, .inl (cI, 24, .inl (fun z9 => nI (U z9)))), (o6, .inl (cI, 24, .inl (fun z9 => nI (P z9))))] H := hP
      have hD : va_D A [(al, .inr (0, [.ref ah, .int (nI k), .int (nI ev)])), (ah, .inl (cI, 24, .inl (upd hm v (nI i)))), (h, .inr (1, [.ref o1, .ref o2, .ref o3, .ref o4, .ref o5, .ref o6, .int (nI n), .int (nI vc)])), (o1, .inl (cI, 24, .inl ops)), (o2, .inl (cI, 24, .inl lf)), (o3, .inl (cI, 24, .inl rg)), (o4, .inl (cI, 24, .inl (fun z9 => nI (E z9)))), (o5, .inl (cI, 24, .inl (fun z9 => nI (U z9)))), (o6, .inl (cI, 24, .inl (fun z9 => nI (P z9))))] := hD
      refine lv_iconst (v := 1) hx hb d_Al_takeSlot_28 (by decide) ?_
      have es := hs.trans (fsl_y c3 (deq_of c4))
      have hP9 : va_P (dC, dI) vwCl [(al, .inr (0, [.ref ah, .int (nI k), .int (nI ev)])), (ah, .inl (cI, 24, .inl (slH hm v (fsl E P hm n v 10 6)))), (h, .inr (1, [.ref o1, .ref o2, .ref o3, .ref o4, .ref o5, .ref o6, .int (nI n), .int (nI vc)])), (o1, .inl (cI, 24, .inl ops)), (o2, .inl (cI, 24, .inl lf)), (o3, .inl (cI, 24, .inl rg)), (o4, .inl (cI, 24, .inl (fun z9 => nI (E z9)))), (o5, .inl (cI, 24, .inl (fun z9 => nI (U z9)))), (o6, .inl (cI, 24, .inl (fun z9 => nI (P z9))))] _ := (by rw [es]; exact hP.sub [0, 1, 2, 3, 4, 5, 6, 7, 8] rfl)
      have hD9 : va_D A [(al, .inr (0, [.ref ah, .int (nI k), .int (nI ev)])), (ah, .inl (cI, 24, .inl (slH hm v (fsl E P hm n v 10 6)))), (h, .inr (1, [.ref o1, .ref o2, .ref o3, .ref o4, .ref o5, .ref o6, .int (nI n), .int (nI vc)])), (o1, .inl (cI, 24, .inl ops)), (o2, .inl (cI, 24, .inl lf)), (o3, .inl (cI, 24, .inl rg)), (o4, .inl (cI, 24, .inl (fun z9 => nI (E z9)))), (o5, .inl (cI, 24, .inl (fun z9 => nI (U z9)))), (o6, .inl (cI, 24, .inl (fun z9 => nI (P z9))))] := (by rw [es]; exact hD.sub [0, 1, 2, 3, 4, 5, 6, 7, 8] (by decide) rfl)
      exact W.zret (v := (1 : Int32)) (ty := .boolean) hx hb hr rfl (fun t ht hW => ⟨⟨_, (), rfl, (by rw [es]; rfl), by rw [ht]; exact hP9, va_K.moved hW.alike hK, hD9⟩, hS.F ht⟩) hS.2.2 d_Al_takeSlot_29
end
section
theorem mayR_t {ops : Nat → Int32} {E : Nat → Nat} {n v k : Nat} (h : cr ops E n v = true) : nI (min k 2) = nI (mayR ops E n v k) := by unfold mayR; rw [if_pos h]
theorem mayR_f {ops : Nat → Int32} {E : Nat → Nat} {n v k : Nat} (h : cr ops E n v = false) : nI k = nI (mayR ops E n v k) := by unfold mayR; rw [if_neg (by rw [h]; decide)]
theorem mayR_le (ops : Nat → Int32) (E : Nat → Nat) (n v k : Nat) : mayR ops E n v k ≤ k := by
  unfold mayR
  split
  · exact Nat.min_le_left _ _
  · exact Nat.le_refl _
theorem isNone_of {α : Type} {o : Option α} (h : o.isSome = false) : o = none := by
  cases o with
  | none => rfl
  | some a => cases h
theorem isSome_of {α : Type} {o : Option α} (h : o.isSome = true) : ∃ a, o = some a := by
  cases o with
  | none => cases h
  | some a => exact ⟨a, rfl⟩
end
section
/-! AllocForge$Allocation: takeRegister -/
set_option maxHeartbeats 4000000 in
set_option maxRecDepth 100000 in
theorem c_Al_takeRegister (l : Launch) (dC : Nat → ClassId) (dI : Nat → Nat → Nat) (cI : ClassId) (al : Nat) (ah : Nat) (k : Nat) (ev : Nat) (hm : Nat → Int32) (h : Nat) (o1 : Nat) (o2 : Nat) (o3 : Nat) (o4 : Nat) (o5 : Nat) (o6 : Nat) (n : Nat) (vc : Nat) (ops : Nat → Int32) (lf : Nat → Int32) (rg : Nat → Int32) (E : Nat → Nat) (U : Nat → Nat) (P : Nat → Nat) (v : Nat) (sz : Nat) (hn : n ≤ 24) (hE24 : ∀ j, E j ≤ 24) (hwf : ∀ j, j < n → j < E j) (hwa : ∀ j, j < n → vf_n64 (wt P E j)) (hvn : v < n) (hk5 : k ≤ 5) : Met l y_Al_takeRegister ws_Al_takeRegister (lvR 3 0 0) (va_Pc [.ref al, .ref h, .int (nI v)] (PM (dC, dI) vwCl [(al, .inr (0, [.ref ah, .int (nI k), .int (nI ev)])), (ah, .inl (cI, 24, .inl hm)), (h, .inr (1, [.ref o1, .ref o2, .ref o3, .ref o4, .ref o5, .ref o6, .int (nI n), .int (nI vc)])), (o1, .inl (cI, 24, .inl ops)), (o2, .inl (cI, 24, .inl lf)), (o3, .inl (cI, 24, .inl rg)), (o4, .inl (cI, 24, .inl (fun z9 => nI (E z9)))), (o5, .inl (cI, 24, .inl (fun z9 => nI (U z9)))), (o6, .inl (cI, 24, .inl (fun z9 => nI (P z9))))] [(cI, .int)] sz)) (va_Qi (fun (r : Int32) (_ : Unit) => r = bI (trF E P hm n v (mayR ops E n v k)).1.isSome) (MB (dC, dI) vwCl (fun _ => [(al, .inr (0, [.ref ah, .int (nI k), .int (nI (ev + tkC E hm n v (trF E P hm n v (mayR ops E n v k)).1))])), (ah, .inl (cI, 24, .inl (tkH E hm n v (trF E P hm n v (mayR ops E n v k)).1))), (h, .inr (1, [.ref o1, .ref o2, .ref o3, .ref o4, .ref o5, .ref o6, .int (nI n), .int (nI vc)])), (o1, .inl (cI, 24, .inl ops)), (o2, .inl (cI, 24, .inl lf)), (o3, .inl (cI, 24, .inl rg)), (o4, .inl (cI, 24, .inl (fun z9 => nI (E z9)))), (o5, .inl (cI, 24, .inl (fun z9 => nI (U z9)))), (o6, .inl (cI, 24, .inl (fun z9 => nI (P z9))))]) [(cI, .int)] (va_A [(al, .inr (0, [.ref ah, .int (nI k), .int (nI ev)])), (ah, .inl (cI, 24, .inl hm)), (h, .inr (1, [.ref o1, .ref o2, .ref o3, .ref o4, .ref o5, .ref o6, .int (nI n), .int (nI vc)])), (o1, .inl (cI, 24, .inl ops)), (o2, .inl (cI, 24, .inl lf)), (o3, .inl (cI, 24, .inl rg)), (o4, .inl (cI, 24, .inl (fun z9 => nI (E z9)))), (o5, .inl (cI, 24, .inl (fun z9 => nI (U z9)))), (o6, .inl (cI, 24, .inl (fun z9 => nI (P z9))))] sz)) (va_A [(al, .inr (0, [.ref ah, .int (nI k), .int (nI ev)])), (ah, .inl (cI, 24, .inl hm)), (h, .inr (1, [.ref o1, .ref o2, .ref o3, .ref o4, .ref o5, .ref o6, .int (nI n), .int (nI vc)])), (o1, .inl (cI, 24, .inl ops)), (o2, .inl (cI, 24, .inl lf)), (o3, .inl (cI, 24, .inl rg)), (o4, .inl (cI, 24, .inl (fun z9 => nI (E z9)))), (o5, .inl (cI, 24, .inl (fun z9 => nI (U z9)))), (o6, .inl (cI, 24, .inl (fun z9 => nI (P z9))))] sz)) 0 0 (va_A [(al, .inr (0, [.ref ah, .int (nI k), .int (nI ev)])), (ah, .inl (cI, 24, .inl hm)), (h, .inr (1, [.ref o1, .ref o2, .ref o3, .ref o4, .ref o5, .ref o6, .int (nI n), .int (nI vc)])), (o1, .inl (cI, 24, .inl ops)), (o2, .inl (cI, 24, .inl lf)), (o3, .inl (cI, 24, .inl rg)), (o4, .inl (cI, 24, .inl (fun z9 => nI (E z9)))), (o5, .inl (cI, 24, .inl (fun z9 => nI (U z9)))), (o6, .inl (cI, 24, .inl (fun z9 => nI (P z9))))] sz) := by
  refine Met.ofW (cc := b_Al_takeRegister) (maxL := 10) (ret := (some .boolean)) (by decide) rfl ?_
  intro p e s m args below meth c s₁ B hml hv
  obtain ⟨rfl, hsz, hP, hK, hD0⟩ := hv
  have hx := B.exec
  have hb := B.bytes
  have hr := B.returns
  have hts := atoms_spec (ws := ws_Al_takeRegister) B.pre
  have hg : ∀ w ∈ TG, w.before ([.ref al, .ref h, .int (nI v)] : List Value).toArray s = true := fun w h => hts w (List.mem_cons_of_mem _ h)
  have hown : s.vm.findClass R_Al = some m.cls := findClass_of_methodNamed B.named
  have hlocks := B.notSynchronized
  subst hsz
  have hD := hD0.self (sz := s.heap.size)
  generalize hAe : va_A [(al, .inr (0, [.ref ah, .int (nI k), .int (nI ev)])), (ah, .inl (cI, 24, .inl hm)), (h, .inr (1, [.ref o1, .ref o2, .ref o3, .ref o4, .ref o5, .ref o6, .int (nI n), .int (nI vc)])), (o1, .inl (cI, 24, .inl ops)), (o2, .inl (cI, 24, .inl lf)), (o3, .inl (cI, 24, .inl rg)), (o4, .inl (cI, 24, .inl (fun z9 => nI (E z9)))), (o5, .inl (cI, 24, .inl (fun z9 => nI (U z9)))), (o6, .inl (cI, 24, .inl (fun z9 => nI (P z9))))] s.heap.size = A at hD ⊢
  have hA : ∀ q : Nat, s.heap.size ≤ q → A q := fun q h => by rw [← hAe]; exact Or.inr h
  have hS : va_S A s.heap s.heap [] := va_S.rf
  have hl := lv_entry ([.ref al, .ref h, .int (nI v)]) (n := 10) (Nat.le_of_ble_eq_true rfl)
  rw [lg_entry_eq]
  generalize (lg_sl ([.ref al, .ref h, .int (nI v)]) ++ List.replicate (10 - (lg_sl ([.ref al, .ref h, .int (nI v)])).length) Slot.unset).toArray = ls at hl ⊢
  have hl : lv_has ls 10 [(0, .ref al), (1, .ref h), (2, .int (nI v))] := hl
  have hv24 : v < 24 := Nat.lt_of_lt_of_le hvn hn
  refine lv_aload_n hx hb d_Al_takeRegister_0 rfl (lv_at hl 1 rfl) ?_
  refine lv_iload_n hx hb d_Al_takeRegister_1 rfl (lv_at hl 2 rfl) ?_
  refine rdV (ci := 1) (q0 := 0) (As := [.int (nI v)]) (rest := []) ⟨hx, hb, hml, hown, hg⟩ (c_Co_isCrossed l dC dI cI h o1 o2 o3 o4 o5 o6 n vc ops lf rg E U P v hn hE24 hv24) (cwV 1 hg (tg_V tw_283 tw_284 tw_285 tw_2 tw_286) rfl rfl rfl (by decide +kernel) ⟨Nat.le_of_ble_eq_true rfl, Nat.le_of_ble_eq_true rfl⟩) (hK.sub [0] rfl) (hP.sub [2, 3, 4, 5, 6, 7, 8] rfl) rfl rfl rfl hl.1 rfl (lv_room (Nat.le_of_ble_eq_true rfl)) d_Al_takeRegister_2 ⟨Nat.le_of_ble_eq_true rfl, Nat.le_of_ble_eq_true rfl⟩ ?_
  refine wb_if_eqb (tgt := 19) hx hb (cr ops E n v) rfl d_Al_takeRegister_5 (by decide) (fun c1 => ?_) (fun c1 => ?_)
  · refine lv_aload_n hx hb d_Al_takeRegister_19 rfl (lv_at hl 0 rfl) ?_
    refine va_get (D := (dC, dI)) (ci := 0) (v := .int (nI k)) (C := R_Al) (T := T_Al) (N := 3) hx hb hg in_Al hown hK hP 0 rfl rfl 1 (by decide) (hg _ tw_90) (fun _ h9 => h9) rfl d_Al_takeRegister_20 ?_
    refine wb_top (mayR_f c1) ?_
    refine lv_istore_n (lv' := [(3, .int (nI (mayR ops E n v k))), (0, .ref al), (1, .ref h), (2, .int (nI v))]) hx hb d_Al_takeRegister_23 rfl hl (by decide) rfl (fun ls hl => ?_)
    refine lv_iconst (v := -1) hx hb d_Al_takeRegister_24 (by decide) ?_
    refine lv_istore (lv' := [(4, .int ((-1 : Int32))), (3, .int (nI (mayR ops E n v k))), (0, .ref al), (1, .ref h), (2, .int (nI v))]) hx hb d_Al_takeRegister_25 hl (by decide) rfl (fun ls hl => ?_)
    refine lv_aload_n hx hb d_Al_takeRegister_27 rfl (lv_at hl 3 rfl) ?_
    refine lv_iload_n hx hb d_Al_takeRegister_28 rfl (lv_at hl 4 rfl) ?_
    refine rdVd (ci := 1) (q0 := 0) (As := [.int (nI v)]) (rest := []) ⟨hx, hb, hml, hown, hg⟩ (c_Co_weightOf l dC dI cI h o1 o2 o3 o4 o5 o6 n vc ops lf rg E U P v hv24 (Nat.le_of_lt (hwf v hvn)) (hwa v hvn)) (cwV 1 hg (tg_V tw_290 tw_291 tw_292 tw_2 tw_293) rfl rfl rfl (by decide +kernel) ⟨Nat.le_of_ble_eq_true rfl, Nat.le_of_ble_eq_true rfl⟩) (hK.sub [0] rfl) (hP.sub [2, 3, 4, 5, 6, 7, 8] rfl) rfl rfl rfl hl.1 rfl (lv_room (Nat.le_of_ble_eq_true rfl)) d_Al_takeRegister_29 ⟨Nat.le_of_ble_eq_true rfl, Nat.le_of_ble_eq_true rfl⟩ ?_
    refine lv_dstore (lv' := [(5, .double (wt P E v)), (4, .int ((-1 : Int32))), (3, .int (nI (mayR ops E n v k))), (0, .ref al), (1, .ref h), (2, .int (nI v))]) hx hb d_Al_takeRegister_32 hl (by decide) rfl (fun ls hl => ?_)
    refine lv_iconst (v := 0) hx hb d_Al_takeRegister_34 (by decide) ?_
    refine lv_istore (lv' := [(7, .int ((0 : Int32))), (5, .double (wt P E v)), (4, .int ((-1 : Int32))), (3, .int (nI (mayR ops E n v k))), (0, .ref al), (1, .ref h), (2, .int (nI v))]) hx hb d_Al_takeRegister_35 hl (by decide) rfl (fun ls hl => ?_)
    refine wb_loopP (σ := (Option Nat) × UInt64 × Nat) 37 (fun x2 ls => lv_has ls 10 [(7, .int (nI x2.2.2)), (5, .double x2.2.1), (4, .int (oI x2.1)), (3, .int (nI (mayR ops E n v k))), (0, .ref al), (1, .ref h), (2, .int (nI v))] ∧ (x2.2.2 ≤ mayR ops E n v k) ∧ ((x2.1, x2.2.1) = trF E P hm n v x2.2.2)) (fun x2 => 6 - x2.2.2) ?_ (none, wt P E v, 0) ls ⟨lv_sub hl [0, 1, 2, 3, 4, 5, 6] rfl, (Nat.zero_le _), rfl⟩
    clear hl
    intro x2 ls hI4 ih3
    obtain ⟨b, d, r⟩ := x2
    obtain ⟨hl, hr1, hbd⟩ := hI4
    have hl : lv_has ls 10 [(7, .int (nI r)), (5, .double d), (4, .int (oI b)), (3, .int (nI (mayR ops E n v k))), (0, .ref al), (1, .ref h), (2, .int (nI v))] := hl
    have hr1 : r ≤ mayR ops E n v k := hr1
    have hbd : (b, d) = trF E P hm n v r := hbd
    refine lv_iload hx hb d_Al_takeRegister_37 (lv_at hl 0 rfl) ?_
    refine lv_iload_n hx hb d_Al_takeRegister_39 rfl (lv_at hl 3 rfl) ?_
    refine wb_icmp_ge (tgt := 75) hx hb r (mayR ops E n v k) rfl rfl (by have := mayR_le ops E n v k; omega) (by have := mayR_le ops E n v k; omega) d_Al_takeRegister_40 (by decide) (fun c5 => ?_) (fun c5 => ?_)
    · refine lv_iload hx hb d_Al_takeRegister_75 (lv_at hl 2 rfl) ?_
      refine lv_iconst (v := -1) hx hb d_Al_takeRegister_77 (by decide) ?_
      refine lv_icmp_ne (tgt := 83) hx hb d_Al_takeRegister_78 (by decide) (fun c6 => ?_) (fun c6 => ?_)
      · obtain ⟨x, rfl⟩ := oI_some c6
        have eb : (trF E P hm n v (mayR ops E n v k)).1 = some x := (congrArg Prod.fst (hbd.trans (congrArg (trF E P hm n v) (Nat.le_antisymm hr1 c5)))).symm
        have hl : lv_has ls 10 [(7, .int (nI r)), (5, .double d), (4, .int (nI x)), (3, .int (nI (mayR ops E n v k))), (0, .ref al), (1, .ref h), (2, .int (nI v))] := hl
        refine lv_aload_n hx hb d_Al_takeRegister_83 rfl (lv_at hl 4 rfl) ?_
        refine lv_aload_n hx hb d_Al_takeRegister_84 rfl (lv_at hl 5 rfl) ?_
        refine lv_iload_n hx hb d_Al_takeRegister_85 rfl (lv_at hl 6 rfl) ?_
        refine lv_iload hx hb d_Al_takeRegister_86 (lv_at hl 2 rfl) ?_
        refine chVv (ci := 0) (q0 := 0) (wr := []) (As := [.ref h, .int (nI v), .int (nI x)]) (rest := []) ⟨hx, hb, hml, hown, hg⟩ (c_Al_evictMeeting l dC dI cI al ah k ev hm h o1 o2 o3 o4 o5 o6 n vc ops lf rg E U P v (nI x) _ hn hE24 hv24) (cwV 3 hg (tg_V tw_303 tw_305 sp_Al_evictMeeting tw_4 tw_306) rfl rfl rfl (by decide +kernel) ⟨Nat.le_of_ble_eq_true rfl, Nat.le_of_ble_eq_true rfl⟩) (hK.sub [0] rfl) hP hD hS hA [0, 1, 2, 3, 4, 5, 6, 7, 8] [] rfl rfl (by decide) (by decide) (by decide) rfl rfl rfl hl.1 rfl (lv_room (Nat.le_of_ble_eq_true rfl)) d_Al_takeRegister_88 ⟨Nat.le_of_ble_eq_true rfl, Nat.le_of_ble_eq_true rfl⟩ (fun u7 H locs w8 hP hD hS => ?_)
        have hP : va_P (dC, dI) vwCl [(al, .inr (0, [.ref ah, .int (nI k), .int (nI (ev + evC E hm v (nI x) n))])), (ah, .inl (cI, 24, .inl (evH E hm v (nI x) n))), (h, .inr (1, [.ref o1, .ref o2, .ref o3, .ref o4, .ref o5, .ref o6, .int (nI n), .int (nI vc)])), (o1, .inl (cI, 24, .inl ops)), (o2, .inl (cI, 24, .inl lf)), (o3, .inl (cI, 24, .inl rg)), (o4, .inl (cI, 24, .inl (fun z9 => nI (E z9)))), (o5, .inl (cI, 24, .inl (fun z9 => nI (U z9)))), (o6, .inl (cI, 24, .inl (fun z9 => nI (P z9))))] H := hP
        have hD : va_D A [(al, .inr (0, [.ref ah, .int (nI k), .int (nI (ev + evC E hm v (nI x) n))])), (ah, .inl (cI, 24, .inl (evH E hm v (nI x) n))), (h, .inr (1, [.ref o1, .ref o2, .ref o3, .ref o4, .ref o5, .ref o6, .int (nI n), .int (nI vc)])), (o1, .inl (cI, 24, .inl ops)), (o2, .inl (cI, 24, .inl lf)), (o3, .inl (cI, 24, .inl rg)), (o4, .inl (cI, 24, .inl (fun z9 => nI (E z9)))), (o5, .inl (cI, 24, .inl (fun z9 => nI (U z9)))), (o6, .inl (cI, 24, .inl (fun z9 => nI (P z9))))] := hD
        refine lv_aload_n hx hb d_Al_takeRegister_91 rfl (lv_at hl 4 rfl) ?_
        refine va_get (D := (dC, dI)) (ci := 0) (v := .ref ah) (C := R_Al) (T := T_Al) (N := 3) hx hb hg in_Al hown hK hP 0 rfl rfl 0 (by decide) (hg _ tw_89) (fun _ h9 => h9) rfl d_Al_takeRegister_92 ?_
        refine lv_iload_n hx hb d_Al_takeRegister_95 rfl (lv_at hl 6 rfl) ?_
        refine lv_iload hx hb d_Al_takeRegister_96 (lv_at hl 2 rfl) ?_
        refine wb_iast hx hb hK hP hD hS 1 0 rfl rfl v rfl hv24 (by decide) d_Al_takeRegister_98 (fun H locs hP hD hS => ?_)
        have hP : va_P (dC, dI) vwCl [(al, .inr (0, [.ref ah, .int (nI k), .int (nI (ev + evC E hm v (nI x) n))])), (ah, .inl (cI, 24, .inl (upd (evH E hm v (nI x) n) v (nI x)))), (h, .inr (1, [.ref o1, .ref o2, .ref o3, .ref o4, .ref o5, .ref o6, .int (nI n), .int (nI vc)])), (o1, .inl (cI, 24, .inl ops)), (o2, .inl (cI, 24, .inl lf)), (o3, .inl (cI, 24, .inl rg)), (o4, .inl (cI, 24, .inl (fun z9 => nI (E z9)))), (o5, .inl (cI, 24, .inl (fun z9 => nI (U z9)))), (o6, .inl (cI, 24, .inl (fun z9 => nI (P z9))))] H := hP
        have hD : va_D A [(al, .inr (0, [.ref ah, .int (nI k), .int (nI (ev + evC E hm v (nI x) n))])), (ah, .inl (cI, 24, .inl (upd (evH E hm v (nI x) n) v (nI x)))), (h, .inr (1, [.ref o1, .ref o2, .ref o3, .ref o4, .ref o5, .ref o6, .int (nI n), .int (nI vc)])), (o1, .inl (cI, 24, .inl ops)), (o2, .inl (cI, 24, .inl lf)), (o3, .inl (cI, 24, .inl rg)), (o4, .inl (cI, 24, .inl (fun z9 => nI (E z9)))), (o5, .inl (cI, 24, .inl (fun z9 => nI (U z9)))), (o6, .inl (cI, 24, .inl (fun z9 => nI (P z9))))] := hD
        refine lv_iconst (v := 1) hx hb d_Al_takeRegister_99 (by decide) ?_
        have hP9 : va_P (dC, dI) vwCl [(al, .inr (0, [.ref ah, .int (nI k), .int (nI (ev + tkC E hm n v (trF E P hm n v (mayR ops E n v k)).1))])), (ah, .inl (cI, 24, .inl (tkH E hm n v (trF E P hm n v (mayR ops E n v k)).1))), (h, .inr (1, [.ref o1, .ref o2, .ref o3, .ref o4, .ref o5, .ref o6, .int (nI n), .int (nI vc)])), (o1, .inl (cI, 24, .inl ops)), (o2, .inl (cI, 24, .inl lf)), (o3, .inl (cI, 24, .inl rg)), (o4, .inl (cI, 24, .inl (fun z9 => nI (E z9)))), (o5, .inl (cI, 24, .inl (fun z9 => nI (U z9)))), (o6, .inl (cI, 24, .inl (fun z9 => nI (P z9))))] _ := (by rw [eb]; exact hP.sub [0, 1, 2, 3, 4, 5, 6, 7, 8] rfl)
        have hD9 : va_D A [(al, .inr (0, [.ref ah, .int (nI k), .int (nI (ev + tkC E hm n v (trF E P hm n v (mayR ops E n v k)).1))])), (ah, .inl (cI, 24, .inl (tkH E hm n v (trF E P hm n v (mayR ops E n v k)).1))), (h, .inr (1, [.ref o1, .ref o2, .ref o3, .ref o4, .ref o5, .ref o6, .int (nI n), .int (nI vc)])), (o1, .inl (cI, 24, .inl ops)), (o2, .inl (cI, 24, .inl lf)), (o3, .inl (cI, 24, .inl rg)), (o4, .inl (cI, 24, .inl (fun z9 => nI (E z9)))), (o5, .inl (cI, 24, .inl (fun z9 => nI (U z9)))), (o6, .inl (cI, 24, .inl (fun z9 => nI (P z9))))] := (by rw [eb]; exact hD.sub [0, 1, 2, 3, 4, 5, 6, 7, 8] (by decide) rfl)
        exact W.zret (v := (1 : Int32)) (ty := .boolean) hx hb hr rfl (fun t ht hW => ⟨⟨_, (), rfl, (by rw [eb]; rfl), by rw [ht]; exact hP9, va_K.moved hW.alike hK, hD9⟩, hS.F ht⟩) hS.2.2 d_Al_takeRegister_100
      · refine lv_iconst (v := 0) hx hb d_Al_takeRegister_81 (by decide) ?_
        have eb : (trF E P hm n v (mayR ops E n v k)).1 = none := (congrArg Prod.fst (hbd.trans (congrArg (trF E P hm n v) (Nat.le_antisymm hr1 c5)))).symm.trans (oI_m1 c6 (fun z q => Nat.lt_of_lt_of_le (trF_lt ((congrArg Prod.fst hbd).symm.trans q)) (Nat.le_trans hr1 (Nat.le_trans (mayR_le ops E n v k) (Nat.le_trans hk5 (by decide))))))
        have hP9 : va_P (dC, dI) vwCl [(al, .inr (0, [.ref ah, .int (nI k), .int (nI (ev + tkC E hm n v (trF E P hm n v (mayR ops E n v k)).1))])), (ah, .inl (cI, 24, .inl (tkH E hm n v (trF E P hm n v (mayR ops E n v k)).1))), (h, .inr (1, [.ref o1, .ref o2, .ref o3, .ref o4, .ref o5, .ref o6, .int (nI n), .int (nI vc)])), (o1, .inl (cI, 24, .inl ops)), (o2, .inl (cI, 24, .inl lf)), (o3, .inl (cI, 24, .inl rg)), (o4, .inl (cI, 24, .inl (fun z9 => nI (E z9)))), (o5, .inl (cI, 24, .inl (fun z9 => nI (U z9)))), (o6, .inl (cI, 24, .inl (fun z9 => nI (P z9))))] _ := (by rw [eb]; exact hP.sub [0, 1, 2, 3, 4, 5, 6, 7, 8] rfl)
        have hD9 : va_D A [(al, .inr (0, [.ref ah, .int (nI k), .int (nI (ev + tkC E hm n v (trF E P hm n v (mayR ops E n v k)).1))])), (ah, .inl (cI, 24, .inl (tkH E hm n v (trF E P hm n v (mayR ops E n v k)).1))), (h, .inr (1, [.ref o1, .ref o2, .ref o3, .ref o4, .ref o5, .ref o6, .int (nI n), .int (nI vc)])), (o1, .inl (cI, 24, .inl ops)), (o2, .inl (cI, 24, .inl lf)), (o3, .inl (cI, 24, .inl rg)), (o4, .inl (cI, 24, .inl (fun z9 => nI (E z9)))), (o5, .inl (cI, 24, .inl (fun z9 => nI (U z9)))), (o6, .inl (cI, 24, .inl (fun z9 => nI (P z9))))] := (by rw [eb]; exact hD.sub [0, 1, 2, 3, 4, 5, 6, 7, 8] (by decide) rfl)
        exact W.zret (v := (0 : Int32)) (ty := .boolean) hx hb hr rfl (fun t ht hW => ⟨⟨_, (), rfl, (by rw [eb]; rfl), by rw [ht]; exact hP9, va_K.moved hW.alike hK, hD9⟩, hS.F ht⟩) hS.2.2 d_Al_takeRegister_82
    · refine lv_aload_n hx hb d_Al_takeRegister_43 rfl (lv_at hl 4 rfl) ?_
      refine lv_aload_n hx hb d_Al_takeRegister_44 rfl (lv_at hl 5 rfl) ?_
      refine lv_iload_n hx hb d_Al_takeRegister_45 rfl (lv_at hl 6 rfl) ?_
      refine lv_iload hx hb d_Al_takeRegister_46 (lv_at hl 0 rfl) ?_
      refine rdVd (ci := 0) (q0 := 0) (As := [.ref h, .int (nI v), .int (nI r)]) (rest := []) ⟨hx, hb, hml, hown, hg⟩ (c_Al_heaviestMeeting l dC dI cI al ah k ev hm h o1 o2 o3 o4 o5 o6 n vc ops lf rg E U P v (nI r) hn hE24 hwf hv24 (fun j hj _ => hwa j hj)) (cwV 3 hg (tg_V tw_295 tw_297 sp_Al_heaviestMeeting tw_4 tw_298) rfl rfl rfl (by decide +kernel) ⟨Nat.le_of_ble_eq_true rfl, Nat.le_of_ble_eq_true rfl⟩) (hK.sub [0] rfl) (hP.sub [0, 1, 2, 3, 4, 5, 6, 7, 8] rfl) rfl rfl rfl hl.1 rfl (lv_room (Nat.le_of_ble_eq_true rfl)) d_Al_takeRegister_48 ⟨Nat.le_of_ble_eq_true rfl, Nat.le_of_ble_eq_true rfl⟩ ?_
      refine lv_dstore (lv' := [(8, .double (hv E P hm v (nI r) n)), (7, .int (nI r)), (5, .double d), (4, .int (oI b)), (3, .int (nI (mayR ops E n v k))), (0, .ref al), (1, .ref h), (2, .int (nI v))]) hx hb d_Al_takeRegister_51 hl (by decide) rfl (fun ls hl => ?_)
      refine lv_dload hx hb d_Al_takeRegister_53 (lv_at hl 0 rfl) ?_
      refine lv_dload hx hb d_Al_takeRegister_55 (lv_at hl 2 rfl) ?_
      refine lv_dcmp hx hb d_Al_takeRegister_57 ?_
      refine lv_if_ge (tgt := 69) hx hb d_Al_takeRegister_58 (by decide) (fun c9 => ?_) (fun c9 => ?_)
      · refine lv_iinc (v := (nI (r + 1))) (lv' := [(7, .int (nI (r + 1))), (8, .double (hv E P hm v (nI r) n)), (5, .double d), (4, .int (oI b)), (3, .int (nI (mayR ops E n v k))), (0, .ref al), (1, .ref h), (2, .int (nI v))]) hx hb d_Al_takeRegister_69 hl (k := 1) rfl (nI_add _ 1) (by decide) rfl (fun ls hl => ?_)
        refine lv_goto (tgt := 37) hx hb d_Al_takeRegister_72 (by decide) ?_
        exact ih3 (b, d, r + 1) ls ⟨lv_sub hl [0, 2, 3, 4, 5, 6, 7] rfl, c5, (trF_n hbd (dlt_n c9))⟩ (by show 6 - (r + 1) < 6 - r; have := c5; have := mayR_le ops E n v k; omega)
      · refine lv_iload hx hb d_Al_takeRegister_61 (lv_at hl 1 rfl) ?_
        refine lv_istore (lv' := [(4, .int (nI r)), (8, .double (hv E P hm v (nI r) n)), (7, .int (nI r)), (5, .double d), (3, .int (nI (mayR ops E n v k))), (0, .ref al), (1, .ref h), (2, .int (nI v))]) hx hb d_Al_takeRegister_63 hl (by decide) rfl (fun ls hl => ?_)
        refine lv_dload hx hb d_Al_takeRegister_65 (lv_at hl 1 rfl) ?_
        refine lv_dstore (lv' := [(5, .double (hv E P hm v (nI r) n)), (4, .int (nI r)), (8, .double (hv E P hm v (nI r) n)), (7, .int (nI r)), (3, .int (nI (mayR ops E n v k))), (0, .ref al), (1, .ref h), (2, .int (nI v))]) hx hb d_Al_takeRegister_67 hl (by decide) rfl (fun ls hl => ?_)
        refine lv_iinc (v := (nI (r + 1))) (lv' := [(7, .int (nI (r + 1))), (5, .double (hv E P hm v (nI r) n)), (4, .int (nI r)), (8, .double (hv E P hm v (nI r) n)), (3, .int (nI (mayR ops E n v k))), (0, .ref al), (1, .ref h), (2, .int (nI v))]) hx hb d_Al_takeRegister_69 hl (k := 3) rfl (nI_add _ 1) (by decide) rfl (fun ls hl => ?_)
        refine lv_goto (tgt := 37) hx hb d_Al_takeRegister_72 (by decide) ?_
        exact ih3 (some r, hv E P hm v (nI r) n, r + 1) ls ⟨lv_sub hl [0, 1, 2, 4, 5, 6, 7] rfl, c5, (trF_y hbd (dlt_of c9))⟩ (by show 6 - (r + 1) < 6 - r; have := c5; have := mayR_le ops E n v k; omega)
  · refine lv_aload_n hx hb d_Al_takeRegister_8 rfl (lv_at hl 0 rfl) ?_
    refine va_get (D := (dC, dI)) (ci := 0) (v := .int (nI k)) (C := R_Al) (T := T_Al) (N := 3) hx hb hg in_Al hown hK hP 0 rfl rfl 1 (by decide) (hg _ tw_90) (fun _ h9 => h9) rfl d_Al_takeRegister_9 ?_
    refine lv_iconst (v := 2) hx hb d_Al_takeRegister_12 (by decide) ?_
    refine va_mmin hx hb (hml.trans hl.1.symm) hown (hg _ tw_287) (hg _ tw_288) (hg _ tw_12) (hg _ tw_289) (Nat.le_of_ble_eq_true rfl) (Nat.le_of_ble_eq_true rfl) (Nat.le_of_ble_eq_true rfl) (Nat.le_of_ble_eq_true rfl) d_Al_takeRegister_13 ?_
    refine wb_top (mn2 hk5) ?_
    refine lv_goto (tgt := 23) hx hb d_Al_takeRegister_16 (by decide) ?_
    refine wb_top (mayR_t c1) ?_
    refine lv_istore_n (lv' := [(3, .int (nI (mayR ops E n v k))), (0, .ref al), (1, .ref h), (2, .int (nI v))]) hx hb d_Al_takeRegister_23 rfl hl (by decide) rfl (fun ls hl => ?_)
    refine lv_iconst (v := -1) hx hb d_Al_takeRegister_24 (by decide) ?_
    refine lv_istore (lv' := [(4, .int ((-1 : Int32))), (3, .int (nI (mayR ops E n v k))), (0, .ref al), (1, .ref h), (2, .int (nI v))]) hx hb d_Al_takeRegister_25 hl (by decide) rfl (fun ls hl => ?_)
    refine lv_aload_n hx hb d_Al_takeRegister_27 rfl (lv_at hl 3 rfl) ?_
    refine lv_iload_n hx hb d_Al_takeRegister_28 rfl (lv_at hl 4 rfl) ?_
    refine rdVd (ci := 1) (q0 := 0) (As := [.int (nI v)]) (rest := []) ⟨hx, hb, hml, hown, hg⟩ (c_Co_weightOf l dC dI cI h o1 o2 o3 o4 o5 o6 n vc ops lf rg E U P v hv24 (Nat.le_of_lt (hwf v hvn)) (hwa v hvn)) (cwV 1 hg (tg_V tw_290 tw_291 tw_292 tw_2 tw_293) rfl rfl rfl (by decide +kernel) ⟨Nat.le_of_ble_eq_true rfl, Nat.le_of_ble_eq_true rfl⟩) (hK.sub [0] rfl) (hP.sub [2, 3, 4, 5, 6, 7, 8] rfl) rfl rfl rfl hl.1 rfl (lv_room (Nat.le_of_ble_eq_true rfl)) d_Al_takeRegister_29 ⟨Nat.le_of_ble_eq_true rfl, Nat.le_of_ble_eq_true rfl⟩ ?_
    refine lv_dstore (lv' := [(5, .double (wt P E v)), (4, .int ((-1 : Int32))), (3, .int (nI (mayR ops E n v k))), (0, .ref al), (1, .ref h), (2, .int (nI v))]) hx hb d_Al_takeRegister_32 hl (by decide) rfl (fun ls hl => ?_)
    refine lv_iconst (v := 0) hx hb d_Al_takeRegister_34 (by decide) ?_
    refine lv_istore (lv' := [(7, .int ((0 : Int32))), (5, .double (wt P E v)), (4, .int ((-1 : Int32))), (3, .int (nI (mayR ops E n v k))), (0, .ref al), (1, .ref h), (2, .int (nI v))]) hx hb d_Al_takeRegister_35 hl (by decide) rfl (fun ls hl => ?_)
    refine wb_loopP (σ := (Option Nat) × UInt64 × Nat) 37 (fun x10 ls => lv_has ls 10 [(7, .int (nI x10.2.2)), (5, .double x10.2.1), (4, .int (oI x10.1)), (3, .int (nI (mayR ops E n v k))), (0, .ref al), (1, .ref h), (2, .int (nI v))] ∧ (x10.2.2 ≤ mayR ops E n v k) ∧ ((x10.1, x10.2.1) = trF E P hm n v x10.2.2)) (fun x10 => 6 - x10.2.2) ?_ (none, wt P E v, 0) ls ⟨lv_sub hl [0, 1, 2, 3, 4, 5, 6] rfl, (Nat.zero_le _), rfl⟩
    clear hl
    intro x10 ls hI12 ih11
    obtain ⟨b, d, r⟩ := x10
    obtain ⟨hl, hr1, hbd⟩ := hI12
    have hl : lv_has ls 10 [(7, .int (nI r)), (5, .double d), (4, .int (oI b)), (3, .int (nI (mayR ops E n v k))), (0, .ref al), (1, .ref h), (2, .int (nI v))] := hl
    have hr1 : r ≤ mayR ops E n v k := hr1
    have hbd : (b, d) = trF E P hm n v r := hbd
    refine lv_iload hx hb d_Al_takeRegister_37 (lv_at hl 0 rfl) ?_
    refine lv_iload_n hx hb d_Al_takeRegister_39 rfl (lv_at hl 3 rfl) ?_
    refine wb_icmp_ge (tgt := 75) hx hb r (mayR ops E n v k) rfl rfl (by have := mayR_le ops E n v k; omega) (by have := mayR_le ops E n v k; omega) d_Al_takeRegister_40 (by decide) (fun c13 => ?_) (fun c13 => ?_)
    · refine lv_iload hx hb d_Al_takeRegister_75 (lv_at hl 2 rfl) ?_
      refine lv_iconst (v := -1) hx hb d_Al_takeRegister_77 (by decide) ?_
      refine lv_icmp_ne (tgt := 83) hx hb d_Al_takeRegister_78 (by decide) (fun c14 => ?_) (fun c14 => ?_)
      · obtain ⟨x, rfl⟩ := oI_some c14
        have eb : (trF E P hm n v (mayR ops E n v k)).1 = some x := (congrArg Prod.fst (hbd.trans (congrArg (trF E P hm n v) (Nat.le_antisymm hr1 c13)))).symm
        have hl : lv_has ls 10 [(7, .int (nI r)), (5, .double d), (4, .int (nI x)), (3, .int (nI (mayR ops E n v k))), (0, .ref al), (1, .ref h), (2, .int (nI v))] := hl
        refine lv_aload_n hx hb d_Al_takeRegister_83 rfl (lv_at hl 4 rfl) ?_
        refine lv_aload_n hx hb d_Al_takeRegister_84 rfl (lv_at hl 5 rfl) ?_
        refine lv_iload_n hx hb d_Al_takeRegister_85 rfl (lv_at hl 6 rfl) ?_
        refine lv_iload hx hb d_Al_takeRegister_86 (lv_at hl 2 rfl) ?_
        refine chVv (ci := 0) (q0 := 0) (wr := []) (As := [.ref h, .int (nI v), .int (nI x)]) (rest := []) ⟨hx, hb, hml, hown, hg⟩ (c_Al_evictMeeting l dC dI cI al ah k ev hm h o1 o2 o3 o4 o5 o6 n vc ops lf rg E U P v (nI x) _ hn hE24 hv24) (cwV 3 hg (tg_V tw_303 tw_305 sp_Al_evictMeeting tw_4 tw_306) rfl rfl rfl (by decide +kernel) ⟨Nat.le_of_ble_eq_true rfl, Nat.le_of_ble_eq_true rfl⟩) (hK.sub [0] rfl) hP hD hS hA [0, 1, 2, 3, 4, 5, 6, 7, 8] [] rfl rfl (by decide) (by decide) (by decide) rfl rfl rfl hl.1 rfl (lv_room (Nat.le_of_ble_eq_true rfl)) d_Al_takeRegister_88 ⟨Nat.le_of_ble_eq_true rfl, Nat.le_of_ble_eq_true rfl⟩ (fun u15 H locs w16 hP hD hS => ?_)
        have hP : va_P (dC, dI) vwCl [(al, .inr (0, [.ref ah, .int (nI k), .int (nI (ev + evC E hm v (nI x) n))])), (ah, .inl (cI, 24, .inl (evH E hm v (nI x) n))), (h, .inr (1, [.ref o1, .ref o2, .ref o3, .ref o4, .ref o5, .ref o6, .int (nI n), .int (nI vc)])), (o1, .inl (cI, 24, .inl ops)), (o2, .inl (cI, 24, .inl lf)), (o3, .inl (cI, 24, .inl rg)), (o4, .inl (cI, 24, .inl (fun z9 => nI (E z9)))), (o5, .inl (cI, 24, .inl (fun z9 => nI (U z9)))), (o6, .inl (cI, 24, .inl (fun z9 => nI (P z9))))] H := hP
        have hD : va_D A [(al, .inr (0, [.ref ah, .int (nI k), .int (nI (ev + evC E hm v (nI x) n))])), (ah, .inl (cI, 24, .inl (evH E hm v (nI x) n))), (h, .inr (1, [.ref o1, .ref o2, .ref o3, .ref o4, .ref o5, .ref o6, .int (nI n), .int (nI vc)])), (o1, .inl (cI, 24, .inl ops)), (o2, .inl (cI, 24, .inl lf)), (o3, .inl (cI, 24, .inl rg)), (o4, .inl (cI, 24, .inl (fun z9 => nI (E z9)))), (o5, .inl (cI, 24, .inl (fun z9 => nI (U z9)))), (o6, .inl (cI, 24, .inl (fun z9 => nI (P z9))))] := hD
        refine lv_aload_n hx hb d_Al_takeRegister_91 rfl (lv_at hl 4 rfl) ?_
        refine va_get (D := (dC, dI)) (ci := 0) (v := .ref ah) (C := R_Al) (T := T_Al) (N := 3) hx hb hg in_Al hown hK hP 0 rfl rfl 0 (by decide) (hg _ tw_89) (fun _ h9 => h9) rfl d_Al_takeRegister_92 ?_
        refine lv_iload_n hx hb d_Al_takeRegister_95 rfl (lv_at hl 6 rfl) ?_
        refine lv_iload hx hb d_Al_takeRegister_96 (lv_at hl 2 rfl) ?_
        refine wb_iast hx hb hK hP hD hS 1 0 rfl rfl v rfl hv24 (by decide) d_Al_takeRegister_98 (fun H locs hP hD hS => ?_)
        have hP : va_P (dC, dI) vwCl [(al, .inr (0, [.ref ah, .int (nI k), .int (nI (ev + evC E hm v (nI x) n))])), (ah, .inl (cI, 24, .inl (upd (evH E hm v (nI x) n) v (nI x)))), (h, .inr (1, [.ref o1, .ref o2, .ref o3, .ref o4, .ref o5, .ref o6, .int (nI n), .int (nI vc)])), (o1, .inl (cI, 24, .inl ops)), (o2, .inl (cI, 24, .inl lf)), (o3, .inl (cI, 24, .inl rg)), (o4, .inl (cI, 24, .inl (fun z9 => nI (E z9)))), (o5, .inl (cI, 24, .inl (fun z9 => nI (U z9)))), (o6, .inl (cI, 24, .inl (fun z9 => nI (P z9))))] H := hP
        have hD : va_D A [(al, .inr (0, [.ref ah, .int (nI k), .int (nI (ev + evC E hm v (nI x) n))])), (ah, .inl (cI, 24, .inl (upd (evH E hm v (nI x) n) v (nI x)))), (h, .inr (1, [.ref o1, .ref o2, .ref o3, .ref o4, .ref o5, .ref o6, .int (nI n), .int (nI vc)])), (o1, .inl (cI, 24, .inl ops)), (o2, .inl (cI, 24, .inl lf)), (o3, .inl (cI, 24, .inl rg)), (o4, .inl (cI, 24, .inl (fun z9 => nI (E z9)))), (o5, .inl (cI, 24, .inl (fun z9 => nI (U z9)))), (o6, .inl (cI, 24, .inl (fun z9 => nI (P z9))))] := hD
        refine lv_iconst (v := 1) hx hb d_Al_takeRegister_99 (by decide) ?_
        have hP9 : va_P (dC, dI) vwCl [(al, .inr (0, [.ref ah, .int (nI k), .int (nI (ev + tkC E hm n v (trF E P hm n v (mayR ops E n v k)).1))])), (ah, .inl (cI, 24, .inl (tkH E hm n v (trF E P hm n v (mayR ops E n v k)).1))), (h, .inr (1, [.ref o1, .ref o2, .ref o3, .ref o4, .ref o5, .ref o6, .int (nI n), .int (nI vc)])), (o1, .inl (cI, 24, .inl ops)), (o2, .inl (cI, 24, .inl lf)), (o3, .inl (cI, 24, .inl rg)), (o4, .inl (cI, 24, .inl (fun z9 => nI (E z9)))), (o5, .inl (cI, 24, .inl (fun z9 => nI (U z9)))), (o6, .inl (cI, 24, .inl (fun z9 => nI (P z9))))] _ := (by rw [eb]; exact hP.sub [0, 1, 2, 3, 4, 5, 6, 7, 8] rfl)
        have hD9 : va_D A [(al, .inr (0, [.ref ah, .int (nI k), .int (nI (ev + tkC E hm n v (trF E P hm n v (mayR ops E n v k)).1))])), (ah, .inl (cI, 24, .inl (tkH E hm n v (trF E P hm n v (mayR ops E n v k)).1))), (h, .inr (1, [.ref o1, .ref o2, .ref o3, .ref o4, .ref o5, .ref o6, .int (nI n), .int (nI vc)])), (o1, .inl (cI, 24, .inl ops)), (o2, .inl (cI, 24, .inl lf)), (o3, .inl (cI, 24, .inl rg)), (o4, .inl (cI, 24, .inl (fun z9 => nI (E z9)))), (o5, .inl (cI, 24, .inl (fun z9 => nI (U z9)))), (o6, .inl (cI, 24, .inl (fun z9 => nI (P z9))))] := (by rw [eb]; exact hD.sub [0, 1, 2, 3, 4, 5, 6, 7, 8] (by decide) rfl)
        exact W.zret (v := (1 : Int32)) (ty := .boolean) hx hb hr rfl (fun t ht hW => ⟨⟨_, (), rfl, (by rw [eb]; rfl), by rw [ht]; exact hP9, va_K.moved hW.alike hK, hD9⟩, hS.F ht⟩) hS.2.2 d_Al_takeRegister_100
      · refine lv_iconst (v := 0) hx hb d_Al_takeRegister_81 (by decide) ?_
        have eb : (trF E P hm n v (mayR ops E n v k)).1 = none := (congrArg Prod.fst (hbd.trans (congrArg (trF E P hm n v) (Nat.le_antisymm hr1 c13)))).symm.trans (oI_m1 c14 (fun z q => Nat.lt_of_lt_of_le (trF_lt ((congrArg Prod.fst hbd).symm.trans q)) (Nat.le_trans hr1 (Nat.le_trans (mayR_le ops E n v k) (Nat.le_trans hk5 (by decide))))))
        have hP9 : va_P (dC, dI) vwCl [(al, .inr (0, [.ref ah, .int (nI k), .int (nI (ev + tkC E hm n v (trF E P hm n v (mayR ops E n v k)).1))])), (ah, .inl (cI, 24, .inl (tkH E hm n v (trF E P hm n v (mayR ops E n v k)).1))), (h, .inr (1, [.ref o1, .ref o2, .ref o3, .ref o4, .ref o5, .ref o6, .int (nI n), .int (nI vc)])), (o1, .inl (cI, 24, .inl ops)), (o2, .inl (cI, 24, .inl lf)), (o3, .inl (cI, 24, .inl rg)), (o4, .inl (cI, 24, .inl (fun z9 => nI (E z9)))), (o5, .inl (cI, 24, .inl (fun z9 => nI (U z9)))), (o6, .inl (cI, 24, .inl (fun z9 => nI (P z9))))] _ := (by rw [eb]; exact hP.sub [0, 1, 2, 3, 4, 5, 6, 7, 8] rfl)
        have hD9 : va_D A [(al, .inr (0, [.ref ah, .int (nI k), .int (nI (ev + tkC E hm n v (trF E P hm n v (mayR ops E n v k)).1))])), (ah, .inl (cI, 24, .inl (tkH E hm n v (trF E P hm n v (mayR ops E n v k)).1))), (h, .inr (1, [.ref o1, .ref o2, .ref o3, .ref o4, .ref o5, .ref o6, .int (nI n), .int (nI vc)])), (o1, .inl (cI, 24, .inl ops)), (o2, .inl (cI, 24, .inl lf)), (o3, .inl (cI, 24, .inl rg)), (o4, .inl (cI, 24, .inl (fun z9 => nI (E z9)))), (o5, .inl (cI, 24, .inl (fun z9 => nI (U z9)))), (o6, .inl (cI, 24, .inl (fun z9 => nI (P z9))))] := (by rw [eb]; exact hD.sub [0, 1, 2, 3, 4, 5, 6, 7, 8] (by decide) rfl)
        exact W.zret (v := (0 : Int32)) (ty := .boolean) hx hb hr rfl (fun t ht hW => ⟨⟨_, (), rfl, (by rw [eb]; rfl), by rw [ht]; exact hP9, va_K.moved hW.alike hK, hD9⟩, hS.F ht⟩) hS.2.2 d_Al_takeRegister_82
    · refine lv_aload_n hx hb d_Al_takeRegister_43 rfl (lv_at hl 4 rfl) ?_
      refine lv_aload_n hx hb d_Al_takeRegister_44 rfl (lv_at hl 5 rfl) ?_
      refine lv_iload_n hx hb d_Al_takeRegister_45 rfl (lv_at hl 6 rfl) ?_
      refine lv_iload hx hb d_Al_takeRegister_46 (lv_at hl 0 rfl) ?_
      refine rdVd (ci := 0) (q0 := 0) (As := [.ref h, .int (nI v), .int (nI r)]) (rest := []) ⟨hx, hb, hml, hown, hg⟩ (c_Al_heaviestMeeting l dC dI cI al ah k ev hm h o1 o2 o3 o4 o5 o6 n vc ops lf rg E U P v (nI r) hn hE24 hwf hv24 (fun j hj _ => hwa j hj)) (cwV 3 hg (tg_V tw_295 tw_297 sp_Al_heaviestMeeting tw_4 tw_298) rfl rfl rfl (by decide +kernel) ⟨Nat.le_of_ble_eq_true rfl, Nat.le_of_ble_eq_true rfl⟩) (hK.sub [0] rfl) (hP.sub [0, 1, 2, 3, 4, 5, 6, 7, 8] rfl) rfl rfl rfl hl.1 rfl (lv_room (Nat.le_of_ble_eq_true rfl)) d_Al_takeRegister_48 ⟨Nat.le_of_ble_eq_true rfl, Nat.le_of_ble_eq_true rfl⟩ ?_
      refine lv_dstore (lv' := [(8, .double (hv E P hm v (nI r) n)), (7, .int (nI r)), (5, .double d), (4, .int (oI b)), (3, .int (nI (mayR ops E n v k))), (0, .ref al), (1, .ref h), (2, .int (nI v))]) hx hb d_Al_takeRegister_51 hl (by decide) rfl (fun ls hl => ?_)
      refine lv_dload hx hb d_Al_takeRegister_53 (lv_at hl 0 rfl) ?_
      refine lv_dload hx hb d_Al_takeRegister_55 (lv_at hl 2 rfl) ?_
      refine lv_dcmp hx hb d_Al_takeRegister_57 ?_
      refine lv_if_ge (tgt := 69) hx hb d_Al_takeRegister_58 (by decide) (fun c17 => ?_) (fun c17 => ?_)
      · refine lv_iinc (v := (nI (r + 1))) (lv' := [(7, .int (nI (r + 1))), (8, .double (hv E P hm v (nI r) n)), (5, .double d), (4, .int (oI b)), (3, .int (nI (mayR ops E n v k))), (0, .ref al), (1, .ref h), (2, .int (nI v))]) hx hb d_Al_takeRegister_69 hl (k := 1) rfl (nI_add _ 1) (by decide) rfl (fun ls hl => ?_)
        refine lv_goto (tgt := 37) hx hb d_Al_takeRegister_72 (by decide) ?_
        exact ih11 (b, d, r + 1) ls ⟨lv_sub hl [0, 2, 3, 4, 5, 6, 7] rfl, c13, (trF_n hbd (dlt_n c17))⟩ (by show 6 - (r + 1) < 6 - r; have := c13; have := mayR_le ops E n v k; omega)
      · refine lv_iload hx hb d_Al_takeRegister_61 (lv_at hl 1 rfl) ?_
        refine lv_istore (lv' := [(4, .int (nI r)), (8, .double (hv E P hm v (nI r) n)), (7, .int (nI r)), (5, .double d), (3, .int (nI (mayR ops E n v k))), (0, .ref al), (1, .ref h), (2, .int (nI v))]) hx hb d_Al_takeRegister_63 hl (by decide) rfl (fun ls hl => ?_)
        refine lv_dload hx hb d_Al_takeRegister_65 (lv_at hl 1 rfl) ?_
        refine lv_dstore (lv' := [(5, .double (hv E P hm v (nI r) n)), (4, .int (nI r)), (8, .double (hv E P hm v (nI r) n)), (7, .int (nI r)), (3, .int (nI (mayR ops E n v k))), (0, .ref al), (1, .ref h), (2, .int (nI v))]) hx hb d_Al_takeRegister_67 hl (by decide) rfl (fun ls hl => ?_)
        refine lv_iinc (v := (nI (r + 1))) (lv' := [(7, .int (nI (r + 1))), (5, .double (hv E P hm v (nI r) n)), (4, .int (nI r)), (8, .double (hv E P hm v (nI r) n)), (3, .int (nI (mayR ops E n v k))), (0, .ref al), (1, .ref h), (2, .int (nI v))]) hx hb d_Al_takeRegister_69 hl (k := 3) rfl (nI_add _ 1) (by decide) rfl (fun ls hl => ?_)
        refine lv_goto (tgt := 37) hx hb d_Al_takeRegister_72 (by decide) ?_
        exact ih11 (some r, hv E P hm v (nI r) n, r + 1) ls ⟨lv_sub hl [0, 1, 2, 4, 5, 6, 7] rfl, c13, (trF_y hbd (dlt_of c17))⟩ (by show 6 - (r + 1) < 6 - r; have := c13; have := mayR_le ops E n v k; omega)
end
section
/-! AllocForge$Allocation: fill -/
set_option maxHeartbeats 4000000 in
set_option maxRecDepth 100000 in
theorem c_Al_fill (l : Launch) (dC : Nat → ClassId) (dI : Nat → Nat → Nat) (cI : ClassId) (al : Nat) (ah : Nat) (k : Nat) (ev : Nat) (hm : Nat → Int32) (h : Nat) (o1 : Nat) (o2 : Nat) (o3 : Nat) (o4 : Nat) (o5 : Nat) (o6 : Nat) (n : Nat) (vc : Nat) (ops : Nat → Int32) (lf : Nat → Int32) (rg : Nat → Int32) (E : Nat → Nat) (U : Nat → Nat) (P : Nat → Nat) (kk : Nat) (sz : Nat) (hn : n ≤ 24) (hE24 : ∀ j, E j ≤ 24) (hwf : ∀ j, j < n → j < E j) (hwa : ∀ j, j < n → vf_n64 (wt P E j)) (hk5 : kk ≤ 5) : Met l y_Al_fill ws_Al_fill (lvR 4 0 0) (va_Pc [.ref al, .ref h, .int (nI kk)] (PM (dC, dI) vwCl [(al, .inr (0, [.ref ah, .int (nI k), .int (nI ev)])), (ah, .inl (cI, 24, .inl hm)), (h, .inr (1, [.ref o1, .ref o2, .ref o3, .ref o4, .ref o5, .ref o6, .int (nI n), .int (nI vc)])), (o1, .inl (cI, 24, .inl ops)), (o2, .inl (cI, 24, .inl lf)), (o3, .inl (cI, 24, .inl rg)), (o4, .inl (cI, 24, .inl (fun z9 => nI (E z9)))), (o5, .inl (cI, 24, .inl (fun z9 => nI (U z9)))), (o6, .inl (cI, 24, .inl (fun z9 => nI (P z9))))] [(cI, .int)] sz)) (va_Qi (fun (r : Int32) (_ : Unit) => r = bI (flR ops E P n kk LIM (filF hm (-1) 24) 0).1) (MB (dC, dI) vwCl (fun _ => [(al, .inr (0, [.ref ah, .int (nI kk), .int (nI ((flR ops E P n kk LIM (filF hm (-1) 24) 0).2.2))])), (ah, .inl (cI, 24, .inl ((flR ops E P n kk LIM (filF hm (-1) 24) 0).2.1))), (h, .inr (1, [.ref o1, .ref o2, .ref o3, .ref o4, .ref o5, .ref o6, .int (nI n), .int (nI vc)])), (o1, .inl (cI, 24, .inl ops)), (o2, .inl (cI, 24, .inl lf)), (o3, .inl (cI, 24, .inl rg)), (o4, .inl (cI, 24, .inl (fun z9 => nI (E z9)))), (o5, .inl (cI, 24, .inl (fun z9 => nI (U z9)))), (o6, .inl (cI, 24, .inl (fun z9 => nI (P z9))))]) [(cI, .int)] (va_A [(al, .inr (0, [.ref ah, .int (nI k), .int (nI ev)])), (ah, .inl (cI, 24, .inl hm)), (h, .inr (1, [.ref o1, .ref o2, .ref o3, .ref o4, .ref o5, .ref o6, .int (nI n), .int (nI vc)])), (o1, .inl (cI, 24, .inl ops)), (o2, .inl (cI, 24, .inl lf)), (o3, .inl (cI, 24, .inl rg)), (o4, .inl (cI, 24, .inl (fun z9 => nI (E z9)))), (o5, .inl (cI, 24, .inl (fun z9 => nI (U z9)))), (o6, .inl (cI, 24, .inl (fun z9 => nI (P z9))))] sz)) (va_A [(al, .inr (0, [.ref ah, .int (nI k), .int (nI ev)])), (ah, .inl (cI, 24, .inl hm)), (h, .inr (1, [.ref o1, .ref o2, .ref o3, .ref o4, .ref o5, .ref o6, .int (nI n), .int (nI vc)])), (o1, .inl (cI, 24, .inl ops)), (o2, .inl (cI, 24, .inl lf)), (o3, .inl (cI, 24, .inl rg)), (o4, .inl (cI, 24, .inl (fun z9 => nI (E z9)))), (o5, .inl (cI, 24, .inl (fun z9 => nI (U z9)))), (o6, .inl (cI, 24, .inl (fun z9 => nI (P z9))))] sz)) 0 0 (va_A [(al, .inr (0, [.ref ah, .int (nI k), .int (nI ev)])), (ah, .inl (cI, 24, .inl hm)), (h, .inr (1, [.ref o1, .ref o2, .ref o3, .ref o4, .ref o5, .ref o6, .int (nI n), .int (nI vc)])), (o1, .inl (cI, 24, .inl ops)), (o2, .inl (cI, 24, .inl lf)), (o3, .inl (cI, 24, .inl rg)), (o4, .inl (cI, 24, .inl (fun z9 => nI (E z9)))), (o5, .inl (cI, 24, .inl (fun z9 => nI (U z9)))), (o6, .inl (cI, 24, .inl (fun z9 => nI (P z9))))] sz) := by
  refine Met.ofW (cc := b_Al_fill) (maxL := 5) (ret := (some .boolean)) (by decide) rfl ?_
  intro p e s m args below meth c s₁ B hml hv
  obtain ⟨rfl, hsz, hP, hK, hD0⟩ := hv
  have hx := B.exec
  have hb := B.bytes
  have hr := B.returns
  have hts := atoms_spec (ws := ws_Al_fill) B.pre
  have hg : ∀ w ∈ TG, w.before ([.ref al, .ref h, .int (nI kk)] : List Value).toArray s = true := fun w h => hts w (List.mem_cons_of_mem _ h)
  have hown : s.vm.findClass R_Al = some m.cls := findClass_of_methodNamed B.named
  have hlocks := B.notSynchronized
  subst hsz
  have hD := hD0.self (sz := s.heap.size)
  generalize hAe : va_A [(al, .inr (0, [.ref ah, .int (nI k), .int (nI ev)])), (ah, .inl (cI, 24, .inl hm)), (h, .inr (1, [.ref o1, .ref o2, .ref o3, .ref o4, .ref o5, .ref o6, .int (nI n), .int (nI vc)])), (o1, .inl (cI, 24, .inl ops)), (o2, .inl (cI, 24, .inl lf)), (o3, .inl (cI, 24, .inl rg)), (o4, .inl (cI, 24, .inl (fun z9 => nI (E z9)))), (o5, .inl (cI, 24, .inl (fun z9 => nI (U z9)))), (o6, .inl (cI, 24, .inl (fun z9 => nI (P z9))))] s.heap.size = A at hD ⊢
  have hA : ∀ q : Nat, s.heap.size ≤ q → A q := fun q h => by rw [← hAe]; exact Or.inr h
  have hS : va_S A s.heap s.heap [] := va_S.rf
  have hl := lv_entry ([.ref al, .ref h, .int (nI kk)]) (n := 5) (Nat.le_of_ble_eq_true rfl)
  rw [lg_entry_eq]
  generalize (lg_sl ([.ref al, .ref h, .int (nI kk)]) ++ List.replicate (5 - (lg_sl ([.ref al, .ref h, .int (nI kk)])).length) Slot.unset).toArray = ls at hl ⊢
  have hl : lv_has ls 5 [(0, .ref al), (1, .ref h), (2, .int (nI kk))] := hl
  refine lv_aload_n hx hb d_Al_fill_0 rfl (lv_at hl 0 rfl) ?_
  refine chVv (ci := 0) (q0 := 0) (wr := [(h, .inr (1, [.ref o1, .ref o2, .ref o3, .ref o4, .ref o5, .ref o6, .int (nI n), .int (nI vc)])), (o1, .inl (cI, 24, .inl ops)), (o2, .inl (cI, 24, .inl lf)), (o3, .inl (cI, 24, .inl rg)), (o4, .inl (cI, 24, .inl (fun z9 => nI (E z9)))), (o5, .inl (cI, 24, .inl (fun z9 => nI (U z9)))), (o6, .inl (cI, 24, .inl (fun z9 => nI (P z9))))]) (As := []) (rest := []) ⟨hx, hb, hml, hown, hg⟩ (c_Al_forget l dC dI cI al ah k ev hm _) (cwV 0 hg (tg_V tw_267 tw_134 tw_135 tw_4 tw_136) rfl rfl rfl (by decide +kernel) ⟨Nat.le_of_ble_eq_true rfl, Nat.le_of_ble_eq_true rfl⟩) (hK.sub [0] rfl) hP hD hS hA [0, 1] [2, 3, 4, 5, 6, 7, 8] rfl rfl (by decide) (by decide) (by decide) rfl rfl rfl hl.1 rfl (lv_room (Nat.le_of_ble_eq_true rfl)) d_Al_fill_1 ⟨Nat.le_of_ble_eq_true rfl, Nat.le_of_ble_eq_true rfl⟩ (fun u1 H locs w2 hP hD hS => ?_)
  have hP : va_P (dC, dI) vwCl [(h, .inr (1, [.ref o1, .ref o2, .ref o3, .ref o4, .ref o5, .ref o6, .int (nI n), .int (nI vc)])), (o1, .inl (cI, 24, .inl ops)), (o2, .inl (cI, 24, .inl lf)), (o3, .inl (cI, 24, .inl rg)), (o4, .inl (cI, 24, .inl (fun z9 => nI (E z9)))), (o5, .inl (cI, 24, .inl (fun z9 => nI (U z9)))), (o6, .inl (cI, 24, .inl (fun z9 => nI (P z9)))), (al, .inr (0, [.ref ah, .int ((0 : Int32)), .int ((0 : Int32))])), (ah, .inl (cI, 24, .inl (filF hm (-1) 24)))] H := hP
  have hD : va_D A [(h, .inr (1, [.ref o1, .ref o2, .ref o3, .ref o4, .ref o5, .ref o6, .int (nI n), .int (nI vc)])), (o1, .inl (cI, 24, .inl ops)), (o2, .inl (cI, 24, .inl lf)), (o3, .inl (cI, 24, .inl rg)), (o4, .inl (cI, 24, .inl (fun z9 => nI (E z9)))), (o5, .inl (cI, 24, .inl (fun z9 => nI (U z9)))), (o6, .inl (cI, 24, .inl (fun z9 => nI (P z9)))), (al, .inr (0, [.ref ah, .int ((0 : Int32)), .int ((0 : Int32))])), (ah, .inl (cI, 24, .inl (filF hm (-1) 24)))] := hD
  refine lv_aload_n hx hb d_Al_fill_4 rfl (lv_at hl 0 rfl) ?_
  refine lv_iload_n hx hb d_Al_fill_5 rfl (lv_at hl 2 rfl) ?_
  refine va_put (D := (dC, dI)) (ci := 0) (v := .int (nI kk)) (ty := .int) (C := R_Al) (T := T_Al) (N := 3) hx hb hg in_Al ty_Al tyok_Al nm_Al hown hK hP hD hS 7 rfl rfl 1 (by decide) (hg _ tw_90) (fun _ h9 => h9) rfl (by decide +kernel) rfl rfl (Nat.le_of_ble_eq_true rfl) d_Al_fill_6 (fun H locs hP hD hS => ?_)
  have hP : va_P (dC, dI) vwCl [(h, .inr (1, [.ref o1, .ref o2, .ref o3, .ref o4, .ref o5, .ref o6, .int (nI n), .int (nI vc)])), (o1, .inl (cI, 24, .inl ops)), (o2, .inl (cI, 24, .inl lf)), (o3, .inl (cI, 24, .inl rg)), (o4, .inl (cI, 24, .inl (fun z9 => nI (E z9)))), (o5, .inl (cI, 24, .inl (fun z9 => nI (U z9)))), (o6, .inl (cI, 24, .inl (fun z9 => nI (P z9)))), (al, .inr (0, [.ref ah, .int (nI kk), .int ((0 : Int32))])), (ah, .inl (cI, 24, .inl (filF hm (-1) 24)))] H := hP
  have hD : va_D A [(h, .inr (1, [.ref o1, .ref o2, .ref o3, .ref o4, .ref o5, .ref o6, .int (nI n), .int (nI vc)])), (o1, .inl (cI, 24, .inl ops)), (o2, .inl (cI, 24, .inl lf)), (o3, .inl (cI, 24, .inl rg)), (o4, .inl (cI, 24, .inl (fun z9 => nI (E z9)))), (o5, .inl (cI, 24, .inl (fun z9 => nI (U z9)))), (o6, .inl (cI, 24, .inl (fun z9 => nI (P z9)))), (al, .inr (0, [.ref ah, .int (nI kk), .int ((0 : Int32))])), (ah, .inl (cI, 24, .inl (filF hm (-1) 24)))] := hD
  refine lv_iconst (v := 0) hx hb d_Al_fill_9 (by decide) ?_
  refine lv_istore_n (lv' := [(3, .int ((0 : Int32))), (0, .ref al), (1, .ref h), (2, .int (nI kk))]) hx hb d_Al_fill_10 rfl hl (by decide) rfl (fun ls hl => ?_)
  refine wb_loop (σ := (Nat → Int32) × Nat × Nat) 11 (fun x3 H locs ls => lv_has ls 5 [(3, .int (nI x3.2.2)), (0, .ref al), (1, .ref h), (2, .int (nI kk))] ∧ va_P (dC, dI) vwCl [(h, .inr (1, [.ref o1, .ref o2, .ref o3, .ref o4, .ref o5, .ref o6, .int (nI n), .int (nI vc)])), (o1, .inl (cI, 24, .inl ops)), (o2, .inl (cI, 24, .inl lf)), (o3, .inl (cI, 24, .inl rg)), (o4, .inl (cI, 24, .inl (fun z9 => nI (E z9)))), (o5, .inl (cI, 24, .inl (fun z9 => nI (U z9)))), (o6, .inl (cI, 24, .inl (fun z9 => nI (P z9)))), (al, .inr (0, [.ref ah, .int (nI kk), .int (nI x3.2.1)])), (ah, .inl (cI, 24, .inl x3.1))] H ∧ va_D A [(h, .inr (1, [.ref o1, .ref o2, .ref o3, .ref o4, .ref o5, .ref o6, .int (nI n), .int (nI vc)])), (o1, .inl (cI, 24, .inl ops)), (o2, .inl (cI, 24, .inl lf)), (o3, .inl (cI, 24, .inl rg)), (o4, .inl (cI, 24, .inl (fun z9 => nI (E z9)))), (o5, .inl (cI, 24, .inl (fun z9 => nI (U z9)))), (o6, .inl (cI, 24, .inl (fun z9 => nI (P z9)))), (al, .inr (0, [.ref ah, .int (nI kk), .int (nI x3.2.1)])), (ah, .inl (cI, 24, .inl x3.1))] ∧ va_S A s.heap H locs ∧ (x3.2.2 ≤ LIM) ∧ (flR ops E P n kk LIM (filF hm (-1) 24) 0 = flR ops E P n kk (LIM - x3.2.2) x3.1 x3.2.1)) (fun x3 => LIM - x3.2.2) ?_ (filF hm (-1) 24, 0, 0) _ _ ls ⟨lv_sub hl [0, 1, 2, 3] rfl, hP, hD, hS, (Nat.zero_le _), rfl⟩
  clear hP hD hS hl
  intro x3 H locs ls hI5 ih4
  obtain ⟨f, a, i⟩ := x3
  obtain ⟨hl, hP, hD, hS, hi, hfl⟩ := hI5
  have hl : lv_has ls 5 [(3, .int (nI i)), (0, .ref al), (1, .ref h), (2, .int (nI kk))] := hl
  have hP : va_P (dC, dI) vwCl [(h, .inr (1, [.ref o1, .ref o2, .ref o3, .ref o4, .ref o5, .ref o6, .int (nI n), .int (nI vc)])), (o1, .inl (cI, 24, .inl ops)), (o2, .inl (cI, 24, .inl lf)), (o3, .inl (cI, 24, .inl rg)), (o4, .inl (cI, 24, .inl (fun z9 => nI (E z9)))), (o5, .inl (cI, 24, .inl (fun z9 => nI (U z9)))), (o6, .inl (cI, 24, .inl (fun z9 => nI (P z9)))), (al, .inr (0, [.ref ah, .int (nI kk), .int (nI a)])), (ah, .inl (cI, 24, .inl f))] H := hP
  have hD : va_D A [(h, .inr (1, [.ref o1, .ref o2, .ref o3, .ref o4, .ref o5, .ref o6, .int (nI n), .int (nI vc)])), (o1, .inl (cI, 24, .inl ops)), (o2, .inl (cI, 24, .inl lf)), (o3, .inl (cI, 24, .inl rg)), (o4, .inl (cI, 24, .inl (fun z9 => nI (E z9)))), (o5, .inl (cI, 24, .inl (fun z9 => nI (U z9)))), (o6, .inl (cI, 24, .inl (fun z9 => nI (P z9)))), (al, .inr (0, [.ref ah, .int (nI kk), .int (nI a)])), (ah, .inl (cI, 24, .inl f))] := hD
  have hi : i ≤ LIM := hi
  have hfl : flR ops E P n kk LIM (filF hm (-1) 24) 0 = flR ops E P n kk (LIM - i) f a := hfl
  refine lv_iload_n hx hb d_Al_fill_11 rfl (lv_at hl 0 rfl) ?_
  refine lv_ldc (v := 1000000) hx hb hown (hg _ tw_268) d_Al_fill_12 ?_
  refine wb_icmp_ge (tgt := 60) hx hb i 1000000 rfl rfl (by first | decide | exact Nat.lt_of_le_of_lt (show i ≤ 1000000 from hi) (by decide)) (by first | decide | exact Nat.lt_of_le_of_lt (show i ≤ 1000000 from hi) (by decide)) d_Al_fill_14 (by decide) (fun c6 => ?_) (fun c6 => ?_)
  · refine lv_iconst (v := 0) hx hb d_Al_fill_60 (by decide) ?_
    have er := hfl.trans (flR_e (show LIM ≤ i from c6))
    have hP9 : va_P (dC, dI) vwCl [(al, .inr (0, [.ref ah, .int (nI kk), .int (nI ((flR ops E P n kk LIM (filF hm (-1) 24) 0).2.2))])), (ah, .inl (cI, 24, .inl ((flR ops E P n kk LIM (filF hm (-1) 24) 0).2.1))), (h, .inr (1, [.ref o1, .ref o2, .ref o3, .ref o4, .ref o5, .ref o6, .int (nI n), .int (nI vc)])), (o1, .inl (cI, 24, .inl ops)), (o2, .inl (cI, 24, .inl lf)), (o3, .inl (cI, 24, .inl rg)), (o4, .inl (cI, 24, .inl (fun z9 => nI (E z9)))), (o5, .inl (cI, 24, .inl (fun z9 => nI (U z9)))), (o6, .inl (cI, 24, .inl (fun z9 => nI (P z9))))] _ := (by rw [er]; exact hP.sub [7, 8, 0, 1, 2, 3, 4, 5, 6] rfl)
    have hD9 : va_D A [(al, .inr (0, [.ref ah, .int (nI kk), .int (nI ((flR ops E P n kk LIM (filF hm (-1) 24) 0).2.2))])), (ah, .inl (cI, 24, .inl ((flR ops E P n kk LIM (filF hm (-1) 24) 0).2.1))), (h, .inr (1, [.ref o1, .ref o2, .ref o3, .ref o4, .ref o5, .ref o6, .int (nI n), .int (nI vc)])), (o1, .inl (cI, 24, .inl ops)), (o2, .inl (cI, 24, .inl lf)), (o3, .inl (cI, 24, .inl rg)), (o4, .inl (cI, 24, .inl (fun z9 => nI (E z9)))), (o5, .inl (cI, 24, .inl (fun z9 => nI (U z9)))), (o6, .inl (cI, 24, .inl (fun z9 => nI (P z9))))] := (by rw [er]; exact hD.sub [7, 8, 0, 1, 2, 3, 4, 5, 6] (by decide) rfl)
    exact W.zret (v := (0 : Int32)) (ty := .boolean) hx hb hr rfl (fun t ht hW => ⟨⟨_, (), rfl, (by rw [er]; rfl), by rw [ht]; exact hP9, va_K.moved hW.alike hK, hD9⟩, hS.F ht⟩) hS.2.2 d_Al_fill_61
  · refine lv_aload_n hx hb d_Al_fill_17 rfl (lv_at hl 1 rfl) ?_
    refine lv_aload_n hx hb d_Al_fill_18 rfl (lv_at hl 2 rfl) ?_
    refine rdV (ci := 0) (q0 := 0) (As := [.ref h]) (rest := []) ⟨hx, hb, hml, hown, hg⟩ (c_Al_longestWaiting l dC dI cI al ah kk a f h o1 o2 o3 o4 o5 o6 n vc ops lf rg E U P hn hE24 hwf) (cwV 1 hg (tg_V tw_269 tw_271 sp_Al_longestWaiting tw_4 tw_272) rfl rfl rfl (by decide +kernel) ⟨Nat.le_of_ble_eq_true rfl, Nat.le_of_ble_eq_true rfl⟩) (hK.sub [0] rfl) (hP.sub [7, 8, 0, 1, 2, 3, 4, 5, 6] rfl) rfl rfl rfl hl.1 rfl (lv_room (Nat.le_of_ble_eq_true rfl)) d_Al_fill_19 ⟨Nat.le_of_ble_eq_true rfl, Nat.le_of_ble_eq_true rfl⟩ ?_
    refine lv_istore (lv' := [(4, .int (oI (lw ops E n f n))), (3, .int (nI i)), (0, .ref al), (1, .ref h), (2, .int (nI kk))]) hx hb d_Al_fill_22 hl (by decide) rfl (fun ls hl => ?_)
    refine lv_iload hx hb d_Al_fill_24 (lv_at hl 0 rfl) ?_
    refine lv_iconst (v := -1) hx hb d_Al_fill_26 (by decide) ?_
    refine lv_icmp_ne (tgt := 32) hx hb d_Al_fill_27 (by decide) (fun c7 => ?_) (fun c7 => ?_)
    · obtain ⟨v, hlw⟩ := oI_some c7
      have hvn : v < n := lw_lt hlw
      have hl : lv_has ls 5 [(4, .int (nI v)), (3, .int (nI i)), (0, .ref al), (1, .ref h), (2, .int (nI kk))] := by rw [hlw] at hl; exact hl
      refine lv_aload_n hx hb d_Al_fill_32 rfl (lv_at hl 2 rfl) ?_
      refine lv_aload_n hx hb d_Al_fill_33 rfl (lv_at hl 3 rfl) ?_
      refine lv_iload hx hb d_Al_fill_34 (lv_at hl 0 rfl) ?_
      refine chVi (ci := 0) (q0 := 0) (wr := []) (As := [.ref h, .int (nI v)]) (rest := []) ⟨hx, hb, hml, hown, hg⟩ (c_Al_takeRegister l dC dI cI al ah kk a f h o1 o2 o3 o4 o5 o6 n vc ops lf rg E U P v _ hn hE24 hwf hwa hvn hk5) (cwV 2 hg (tg_V tw_279 tw_281 sp_Al_takeRegister tw_4 tw_282) rfl rfl rfl (by decide +kernel) ⟨Nat.le_of_ble_eq_true rfl, Nat.le_of_ble_eq_true rfl⟩) (hK.sub [0] rfl) hP hD hS hA [7, 8, 0, 1, 2, 3, 4, 5, 6] [] rfl rfl (by decide) (by decide) (by decide) rfl rfl rfl hl.1 rfl (lv_room (Nat.le_of_ble_eq_true rfl)) d_Al_fill_36 ⟨Nat.le_of_ble_eq_true rfl, Nat.le_of_ble_eq_true rfl⟩ (fun r10 u8 H locs w9 hP hD hS => ?_)
      obtain rfl := w9
      have hP : va_P (dC, dI) vwCl [(al, .inr (0, [.ref ah, .int (nI kk), .int (nI (a + tkC E f n v (trF E P f n v (mayR ops E n v kk)).1))])), (ah, .inl (cI, 24, .inl (tkH E f n v (trF E P f n v (mayR ops E n v kk)).1))), (h, .inr (1, [.ref o1, .ref o2, .ref o3, .ref o4, .ref o5, .ref o6, .int (nI n), .int (nI vc)])), (o1, .inl (cI, 24, .inl ops)), (o2, .inl (cI, 24, .inl lf)), (o3, .inl (cI, 24, .inl rg)), (o4, .inl (cI, 24, .inl (fun z9 => nI (E z9)))), (o5, .inl (cI, 24, .inl (fun z9 => nI (U z9)))), (o6, .inl (cI, 24, .inl (fun z9 => nI (P z9))))] H := hP
      have hD : va_D A [(al, .inr (0, [.ref ah, .int (nI kk), .int (nI (a + tkC E f n v (trF E P f n v (mayR ops E n v kk)).1))])), (ah, .inl (cI, 24, .inl (tkH E f n v (trF E P f n v (mayR ops E n v kk)).1))), (h, .inr (1, [.ref o1, .ref o2, .ref o3, .ref o4, .ref o5, .ref o6, .int (nI n), .int (nI vc)])), (o1, .inl (cI, 24, .inl ops)), (o2, .inl (cI, 24, .inl lf)), (o3, .inl (cI, 24, .inl rg)), (o4, .inl (cI, 24, .inl (fun z9 => nI (E z9)))), (o5, .inl (cI, 24, .inl (fun z9 => nI (U z9)))), (o6, .inl (cI, 24, .inl (fun z9 => nI (P z9))))] := hD
      refine wb_if_neb (tgt := 54) hx hb ((trF E P f n v (mayR ops E n v kk)).1.isSome) rfl d_Al_fill_39 (by decide) (fun c11 => ?_) (fun c11 => ?_)
      · obtain ⟨b, hbq⟩ := isSome_of c11
        rw [hbq] at hP hD
        have hP : va_P (dC, dI) vwCl [(al, .inr (0, [.ref ah, .int (nI kk), .int (nI (a + tkC E f n v (some b)))])), (ah, .inl (cI, 24, .inl (tkH E f n v (some b)))), (h, .inr (1, [.ref o1, .ref o2, .ref o3, .ref o4, .ref o5, .ref o6, .int (nI n), .int (nI vc)])), (o1, .inl (cI, 24, .inl ops)), (o2, .inl (cI, 24, .inl lf)), (o3, .inl (cI, 24, .inl rg)), (o4, .inl (cI, 24, .inl (fun z9 => nI (E z9)))), (o5, .inl (cI, 24, .inl (fun z9 => nI (U z9)))), (o6, .inl (cI, 24, .inl (fun z9 => nI (P z9))))] H := hP
        have hD : va_D A [(al, .inr (0, [.ref ah, .int (nI kk), .int (nI (a + tkC E f n v (some b)))])), (ah, .inl (cI, 24, .inl (tkH E f n v (some b)))), (h, .inr (1, [.ref o1, .ref o2, .ref o3, .ref o4, .ref o5, .ref o6, .int (nI n), .int (nI vc)])), (o1, .inl (cI, 24, .inl ops)), (o2, .inl (cI, 24, .inl lf)), (o3, .inl (cI, 24, .inl rg)), (o4, .inl (cI, 24, .inl (fun z9 => nI (E z9)))), (o5, .inl (cI, 24, .inl (fun z9 => nI (U z9)))), (o6, .inl (cI, 24, .inl (fun z9 => nI (P z9))))] := hD
        refine lv_iinc (v := (nI (i + 1))) (lv' := [(3, .int (nI (i + 1))), (4, .int (nI v)), (0, .ref al), (1, .ref h), (2, .int (nI kk))]) hx hb d_Al_fill_54 hl (k := 1) rfl (nI_add _ 1) (by decide) rfl (fun ls hl => ?_)
        refine lv_goto (tgt := 11) hx hb d_Al_fill_57 (by decide) ?_
        exact ih4 (tkH E f n v (some b), a + tkC E f n v (some b), i + 1) _ _ ls ⟨lv_sub hl [0, 2, 3, 4] rfl, hP.sub [2, 3, 4, 5, 6, 7, 8, 0, 1] rfl, hD.sub [2, 3, 4, 5, 6, 7, 8, 0, 1] (by decide) rfl, hS, (show i + 1 ≤ LIM from c6), (hfl.trans (flR_s (show i < LIM from c6) (stp_reg hlw hbq)))⟩ (by show LIM - (i + 1) < LIM - i; have h9 : i < LIM := c6; omega)
      · have hbq : (trF E P f n v (mayR ops E n v kk)).1 = none := isNone_of c11
        rw [hbq] at hP hD
        have hP : va_P (dC, dI) vwCl [(al, .inr (0, [.ref ah, .int (nI kk), .int (nI a)])), (ah, .inl (cI, 24, .inl f)), (h, .inr (1, [.ref o1, .ref o2, .ref o3, .ref o4, .ref o5, .ref o6, .int (nI n), .int (nI vc)])), (o1, .inl (cI, 24, .inl ops)), (o2, .inl (cI, 24, .inl lf)), (o3, .inl (cI, 24, .inl rg)), (o4, .inl (cI, 24, .inl (fun z9 => nI (E z9)))), (o5, .inl (cI, 24, .inl (fun z9 => nI (U z9)))), (o6, .inl (cI, 24, .inl (fun z9 => nI (P z9))))] H := hP
        have hD : va_D A [(al, .inr (0, [.ref ah, .int (nI kk), .int (nI a)])), (ah, .inl (cI, 24, .inl f)), (h, .inr (1, [.ref o1, .ref o2, .ref o3, .ref o4, .ref o5, .ref o6, .int (nI n), .int (nI vc)])), (o1, .inl (cI, 24, .inl ops)), (o2, .inl (cI, 24, .inl lf)), (o3, .inl (cI, 24, .inl rg)), (o4, .inl (cI, 24, .inl (fun z9 => nI (E z9)))), (o5, .inl (cI, 24, .inl (fun z9 => nI (U z9)))), (o6, .inl (cI, 24, .inl (fun z9 => nI (P z9))))] := hD
        refine lv_aload_n hx hb d_Al_fill_42 rfl (lv_at hl 2 rfl) ?_
        refine lv_aload_n hx hb d_Al_fill_43 rfl (lv_at hl 3 rfl) ?_
        refine lv_iload hx hb d_Al_fill_44 (lv_at hl 0 rfl) ?_
        refine chVi (ci := 0) (q0 := 0) (wr := []) (As := [.ref h, .int (nI v)]) (rest := []) ⟨hx, hb, hml, hown, hg⟩ (c_Al_takeSlot l dC dI cI al ah kk a f h o1 o2 o3 o4 o5 o6 n vc ops lf rg E U P v _ hn hE24 hwf hwa (Nat.lt_of_lt_of_le hvn hn)) (cwV 2 hg (tg_V tw_307 tw_309 sp_Al_takeSlot tw_4 tw_310) rfl rfl rfl (by decide +kernel) ⟨Nat.le_of_ble_eq_true rfl, Nat.le_of_ble_eq_true rfl⟩) (hK.sub [0] rfl) hP hD hS hA [0, 1, 2, 3, 4, 5, 6, 7, 8] [] rfl rfl (by decide) (by decide) (by decide) rfl rfl rfl hl.1 rfl (lv_room (Nat.le_of_ble_eq_true rfl)) d_Al_fill_46 ⟨Nat.le_of_ble_eq_true rfl, Nat.le_of_ble_eq_true rfl⟩ (fun r14 u12 H locs w13 hP hD hS => ?_)
        obtain rfl := w13
        have hP : va_P (dC, dI) vwCl [(al, .inr (0, [.ref ah, .int (nI kk), .int (nI a)])), (ah, .inl (cI, 24, .inl (slH f v (fsl E P f n v 10 6)))), (h, .inr (1, [.ref o1, .ref o2, .ref o3, .ref o4, .ref o5, .ref o6, .int (nI n), .int (nI vc)])), (o1, .inl (cI, 24, .inl ops)), (o2, .inl (cI, 24, .inl lf)), (o3, .inl (cI, 24, .inl rg)), (o4, .inl (cI, 24, .inl (fun z9 => nI (E z9)))), (o5, .inl (cI, 24, .inl (fun z9 => nI (U z9)))), (o6, .inl (cI, 24, .inl (fun z9 => nI (P z9))))] H := hP
        have hD : va_D A [(al, .inr (0, [.ref ah, .int (nI kk), .int (nI a)])), (ah, .inl (cI, 24, .inl (slH f v (fsl E P f n v 10 6)))), (h, .inr (1, [.ref o1, .ref o2, .ref o3, .ref o4, .ref o5, .ref o6, .int (nI n), .int (nI vc)])), (o1, .inl (cI, 24, .inl ops)), (o2, .inl (cI, 24, .inl lf)), (o3, .inl (cI, 24, .inl rg)), (o4, .inl (cI, 24, .inl (fun z9 => nI (E z9)))), (o5, .inl (cI, 24, .inl (fun z9 => nI (U z9)))), (o6, .inl (cI, 24, .inl (fun z9 => nI (P z9))))] := hD
        refine wb_if_neb (tgt := 54) hx hb ((fsl E P f n v 10 6).isSome) rfl d_Al_fill_49 (by decide) (fun c15 => ?_) (fun c15 => ?_)
        · obtain ⟨b, hsq⟩ := isSome_of c15
          rw [hsq] at hP hD
          have hP : va_P (dC, dI) vwCl [(al, .inr (0, [.ref ah, .int (nI kk), .int (nI a)])), (ah, .inl (cI, 24, .inl (slH f v (some b)))), (h, .inr (1, [.ref o1, .ref o2, .ref o3, .ref o4, .ref o5, .ref o6, .int (nI n), .int (nI vc)])), (o1, .inl (cI, 24, .inl ops)), (o2, .inl (cI, 24, .inl lf)), (o3, .inl (cI, 24, .inl rg)), (o4, .inl (cI, 24, .inl (fun z9 => nI (E z9)))), (o5, .inl (cI, 24, .inl (fun z9 => nI (U z9)))), (o6, .inl (cI, 24, .inl (fun z9 => nI (P z9))))] H := hP
          have hD : va_D A [(al, .inr (0, [.ref ah, .int (nI kk), .int (nI a)])), (ah, .inl (cI, 24, .inl (slH f v (some b)))), (h, .inr (1, [.ref o1, .ref o2, .ref o3, .ref o4, .ref o5, .ref o6, .int (nI n), .int (nI vc)])), (o1, .inl (cI, 24, .inl ops)), (o2, .inl (cI, 24, .inl lf)), (o3, .inl (cI, 24, .inl rg)), (o4, .inl (cI, 24, .inl (fun z9 => nI (E z9)))), (o5, .inl (cI, 24, .inl (fun z9 => nI (U z9)))), (o6, .inl (cI, 24, .inl (fun z9 => nI (P z9))))] := hD
          refine lv_iinc (v := (nI (i + 1))) (lv' := [(3, .int (nI (i + 1))), (4, .int (nI v)), (0, .ref al), (1, .ref h), (2, .int (nI kk))]) hx hb d_Al_fill_54 hl (k := 1) rfl (nI_add _ 1) (by decide) rfl (fun ls hl => ?_)
          refine lv_goto (tgt := 11) hx hb d_Al_fill_57 (by decide) ?_
          exact ih4 (slH f v (some b), a, i + 1) _ _ ls ⟨lv_sub hl [0, 2, 3, 4] rfl, hP.sub [2, 3, 4, 5, 6, 7, 8, 0, 1] rfl, hD.sub [2, 3, 4, 5, 6, 7, 8, 0, 1] (by decide) rfl, hS, (show i + 1 ≤ LIM from c6), (hfl.trans (flR_s (show i < LIM from c6) (stp_slot hlw hbq hsq)))⟩ (by show LIM - (i + 1) < LIM - i; have h9 : i < LIM := c6; omega)
        · refine lv_iconst (v := 0) hx hb d_Al_fill_52 (by decide) ?_
          have hsq : fsl E P f n v 10 6 = none := isNone_of c15
          rw [hsq] at hP hD
          have hP : va_P (dC, dI) vwCl [(al, .inr (0, [.ref ah, .int (nI kk), .int (nI a)])), (ah, .inl (cI, 24, .inl f)), (h, .inr (1, [.ref o1, .ref o2, .ref o3, .ref o4, .ref o5, .ref o6, .int (nI n), .int (nI vc)])), (o1, .inl (cI, 24, .inl ops)), (o2, .inl (cI, 24, .inl lf)), (o3, .inl (cI, 24, .inl rg)), (o4, .inl (cI, 24, .inl (fun z9 => nI (E z9)))), (o5, .inl (cI, 24, .inl (fun z9 => nI (U z9)))), (o6, .inl (cI, 24, .inl (fun z9 => nI (P z9))))] _ := hP
          have hD : va_D A [(al, .inr (0, [.ref ah, .int (nI kk), .int (nI a)])), (ah, .inl (cI, 24, .inl f)), (h, .inr (1, [.ref o1, .ref o2, .ref o3, .ref o4, .ref o5, .ref o6, .int (nI n), .int (nI vc)])), (o1, .inl (cI, 24, .inl ops)), (o2, .inl (cI, 24, .inl lf)), (o3, .inl (cI, 24, .inl rg)), (o4, .inl (cI, 24, .inl (fun z9 => nI (E z9)))), (o5, .inl (cI, 24, .inl (fun z9 => nI (U z9)))), (o6, .inl (cI, 24, .inl (fun z9 => nI (P z9))))] := hD
          have er := hfl.trans (flR_d (show i < LIM from c6) (stp_no hlw hbq (isNone_of c15)))
          have hP9 : va_P (dC, dI) vwCl [(al, .inr (0, [.ref ah, .int (nI kk), .int (nI ((flR ops E P n kk LIM (filF hm (-1) 24) 0).2.2))])), (ah, .inl (cI, 24, .inl ((flR ops E P n kk LIM (filF hm (-1) 24) 0).2.1))), (h, .inr (1, [.ref o1, .ref o2, .ref o3, .ref o4, .ref o5, .ref o6, .int (nI n), .int (nI vc)])), (o1, .inl (cI, 24, .inl ops)), (o2, .inl (cI, 24, .inl lf)), (o3, .inl (cI, 24, .inl rg)), (o4, .inl (cI, 24, .inl (fun z9 => nI (E z9)))), (o5, .inl (cI, 24, .inl (fun z9 => nI (U z9)))), (o6, .inl (cI, 24, .inl (fun z9 => nI (P z9))))] _ := (by rw [er]; exact hP.sub [0, 1, 2, 3, 4, 5, 6, 7, 8] rfl)
          have hD9 : va_D A [(al, .inr (0, [.ref ah, .int (nI kk), .int (nI ((flR ops E P n kk LIM (filF hm (-1) 24) 0).2.2))])), (ah, .inl (cI, 24, .inl ((flR ops E P n kk LIM (filF hm (-1) 24) 0).2.1))), (h, .inr (1, [.ref o1, .ref o2, .ref o3, .ref o4, .ref o5, .ref o6, .int (nI n), .int (nI vc)])), (o1, .inl (cI, 24, .inl ops)), (o2, .inl (cI, 24, .inl lf)), (o3, .inl (cI, 24, .inl rg)), (o4, .inl (cI, 24, .inl (fun z9 => nI (E z9)))), (o5, .inl (cI, 24, .inl (fun z9 => nI (U z9)))), (o6, .inl (cI, 24, .inl (fun z9 => nI (P z9))))] := (by rw [er]; exact hD.sub [0, 1, 2, 3, 4, 5, 6, 7, 8] (by decide) rfl)
          exact W.zret (v := (0 : Int32)) (ty := .boolean) hx hb hr rfl (fun t ht hW => ⟨⟨_, (), rfl, (by rw [er]; rfl), by rw [ht]; exact hP9, va_K.moved hW.alike hK, hD9⟩, hS.F ht⟩) hS.2.2 d_Al_fill_53
    · refine lv_iconst (v := 1) hx hb d_Al_fill_30 (by decide) ?_
      have er := hfl.trans (flR_d (show i < LIM from c6) (stp_done (oI_m1 c7 (fun z q => Nat.lt_of_lt_of_le (lw_lt q) (Nat.le_trans hn (by decide))))))
      have hP9 : va_P (dC, dI) vwCl [(al, .inr (0, [.ref ah, .int (nI kk), .int (nI ((flR ops E P n kk LIM (filF hm (-1) 24) 0).2.2))])), (ah, .inl (cI, 24, .inl ((flR ops E P n kk LIM (filF hm (-1) 24) 0).2.1))), (h, .inr (1, [.ref o1, .ref o2, .ref o3, .ref o4, .ref o5, .ref o6, .int (nI n), .int (nI vc)])), (o1, .inl (cI, 24, .inl ops)), (o2, .inl (cI, 24, .inl lf)), (o3, .inl (cI, 24, .inl rg)), (o4, .inl (cI, 24, .inl (fun z9 => nI (E z9)))), (o5, .inl (cI, 24, .inl (fun z9 => nI (U z9)))), (o6, .inl (cI, 24, .inl (fun z9 => nI (P z9))))] _ := (by rw [er]; exact hP.sub [7, 8, 0, 1, 2, 3, 4, 5, 6] rfl)
      have hD9 : va_D A [(al, .inr (0, [.ref ah, .int (nI kk), .int (nI ((flR ops E P n kk LIM (filF hm (-1) 24) 0).2.2))])), (ah, .inl (cI, 24, .inl ((flR ops E P n kk LIM (filF hm (-1) 24) 0).2.1))), (h, .inr (1, [.ref o1, .ref o2, .ref o3, .ref o4, .ref o5, .ref o6, .int (nI n), .int (nI vc)])), (o1, .inl (cI, 24, .inl ops)), (o2, .inl (cI, 24, .inl lf)), (o3, .inl (cI, 24, .inl rg)), (o4, .inl (cI, 24, .inl (fun z9 => nI (E z9)))), (o5, .inl (cI, 24, .inl (fun z9 => nI (U z9)))), (o6, .inl (cI, 24, .inl (fun z9 => nI (P z9))))] := (by rw [er]; exact hD.sub [7, 8, 0, 1, 2, 3, 4, 5, 6] (by decide) rfl)
      exact W.zret (v := (1 : Int32)) (ty := .boolean) hx hb hr rfl (fun t ht hW => ⟨⟨_, (), rfl, (by rw [er]; rfl), by rw [ht]; exact hP9, va_K.moved hW.alike hK, hD9⟩, hS.F ht⟩) hS.2.2 d_Al_fill_31
end
section
/-! words for a machine: what an instruction makes, what it says, whether it faults -/
def dvV (x y : Int32) : Int32 := if y = 0 then 0 else x / y
def dvF (ft : Bool) (y : Int32) : Bool := if y = 0 then true else ft
def cmpV (nu : Nat → Int32) (op x y : Int32) : Int32 :=
  if op = 1 then nu x.toNatClampNeg else if op = 2 then x + y else if op = 3 then x - y else if op = 4 then x * y else if op = 5 then dvV x y else if op = 6 then 0 else if op = 7 then x * 3 + 1 else x
def cmpS (sd : Nat → Int32) (sc : Nat) (op x : Int32) : Nat → Int32 := if op = 6 then upd sd sc x else sd
def cmpN (sc : Nat) (op : Int32) : Nat := if op = 6 then sc + 1 else sc
def cmpF (ft : Bool) (op y : Int32) : Bool := if op = 5 then dvF ft y else ft
theorem cmpV_1 {nu : Nat → Int32} {op x y : Int32} (h : op = 1) : nu x.toNatClampNeg = cmpV nu op x y := by subst h; rfl
theorem cmpV_2 {nu : Nat → Int32} {op x y : Int32} (h : op = 2) : x + y = cmpV nu op x y := by subst h; rfl
theorem cmpV_3 {nu : Nat → Int32} {op x y : Int32} (h : op = 3) : x - y = cmpV nu op x y := by subst h; rfl
theorem cmpV_4 {nu : Nat → Int32} {op x y : Int32} (h : op = 4) : x * y = cmpV nu op x y := by subst h; rfl
theorem cmpV_5 {nu : Nat → Int32} {op x y : Int32} (h : op = 5) : dvV x y = cmpV nu op x y := by subst h; rfl
theorem cmpV_6 {nu : Nat → Int32} {op x y : Int32} (h : op = 6) : 0 = cmpV nu op x y := by subst h; rfl
theorem cmpV_7 {nu : Nat → Int32} {op x y : Int32} (h : op = 7) : x * 3 + 1 = cmpV nu op x y := by subst h; rfl
theorem cmpV_8 {nu : Nat → Int32} {op x y : Int32} (h1 : ¬ op = 1) (h2 : ¬ op = 2) (h3 : ¬ op = 3) (h4 : ¬ op = 4) (h5 : ¬ op = 5) (h6 : ¬ op = 6) (h7 : ¬ op = 7) : x = cmpV nu op x y := by
  unfold cmpV; rw [if_neg h1, if_neg h2, if_neg h3, if_neg h4, if_neg h5, if_neg h6, if_neg h7]
theorem cmpS_n {sd : Nat → Int32} {sc : Nat} {op x : Int32} (h : ¬ op = 6) : cmpS sd sc op x = sd := if_neg h
theorem cmpN_n {sc : Nat} {op : Int32} (h : ¬ op = 6) : cmpN sc op = sc := if_neg h
theorem cmpF_n {ft : Bool} {op y : Int32} (h : ¬ op = 5) : cmpF ft op y = ft := if_neg h
theorem ne_of {op a b : Int32} (h : op = a) (hab : ¬ a = b) : ¬ op = b := fun q => hab (h.symm.trans q)
def spF (cl : Nat → Int32) (k : Nat) : Nat → Int32 := fun j => if 2 ≤ j ∧ j < k then -1 else cl j
theorem spF_0 (cl : Nat → Int32) : spF cl 2 = cl := funext fun j => if_neg (by omega)
theorem spF_s (cl : Nat → Int32) {i : Nat} (hi : 2 ≤ i) : upd (spF cl i) i (-1) = spF cl (i + 1) := by
  funext j
  unfold upd spF
  by_cases h : j = i
  · rw [if_pos h, if_pos (by omega)]
  · rw [if_neg h]
    by_cases h2 : 2 ≤ j ∧ j < i
    · rw [if_pos h2, if_pos (by omega)]
    · rw [if_neg h2, if_neg (by omega)]
theorem spF_e {cl : Nat → Int32} {k i : Nat} (hi : 2 ≤ i) (hk : k ≤ i) (h : i ≤ k ∨ i = 2) : spF cl k = spF cl i := by
  funext j
  unfold spF
  by_cases h2 : 2 ≤ j ∧ j < k
  · rw [if_pos h2, if_pos (by omega)]
  · rw [if_neg h2, if_neg (by omega)]
/-- what an instruction takes from the left and from the right -/
def opL (cl hm ops lf : Nat → Int32) (i : Nat) : Int32 := if uL (ops i) = true then cl (hm (lf i).toNatClampNeg).toNatClampNeg else lf i
def opR (cl hm ops rg : Nat → Int32) (i : Nat) : Int32 := if uR (ops i) = true then cl (hm (rg i).toNatClampNeg).toNatClampNeg else 0
/-- cells, said, how many, result, fault -/
abbrev MS : Type := (Nat → Int32) × (Nat → Int32) × Nat × Int32 × Bool
def stC (cl hm ops : Nat → Int32) (k i : Nat) (rs : Int32) (ft : Bool) : Nat → Int32 :=
  if ops i ≠ 6 ∧ ft = false then upd (if ops i = 7 then spF cl k else cl) (hm i).toNatClampNeg rs else (if ops i = 7 then spF cl k else cl)
def stM (nu ops lf rg hm : Nat → Int32) (k i : Nat) (cl sd : Nat → Int32) (sc : Nat) (ft : Bool) : MS :=
  (stC cl hm ops k i (cmpV nu (ops i) (opL cl hm ops lf i) (opR cl hm ops rg i)) (cmpF ft (ops i) (opR cl hm ops rg i)), cmpS sd sc (ops i) (opL cl hm ops lf i), cmpN sc (ops i), cmpV nu (ops i) (opL cl hm ops lf i) (opR cl hm ops rg i), cmpF ft (ops i) (opR cl hm ops rg i))
def pf (nu ops lf rg hm : Nat → Int32) (k : Nat) (z : MS) : Nat → MS
  | 0 => z
  | i + 1 => if (pf nu ops lf rg hm k z i).2.2.2.2 = true then pf nu ops lf rg hm k z i else stM nu ops lf rg hm k i (pf nu ops lf rg hm k z i).1 (pf nu ops lf rg hm k z i).2.1 (pf nu ops lf rg hm k z i).2.2.1 (pf nu ops lf rg hm k z i).2.2.2.2
theorem pf_s {nu ops lf rg hm : Nat → Int32} {k i : Nat} {z : MS} {x1 x2 : Nat → Int32} {x3 : Nat} {x4 : Int32} {x5 : Bool} (h : (x1, x2, x3, x4, x5) = pf nu ops lf rg hm k z i) (h5 : x5 = false) : stM nu ops lf rg hm k i x1 x2 x3 x5 = pf nu ops lf rg hm k z (i + 1) := by
  show _ = if (pf nu ops lf rg hm k z i).2.2.2.2 = true then _ else _
  rw [← h]
  show _ = if x5 = true then _ else _
  rw [if_neg (by rw [h5]; decide)]
theorem pf_stop {nu ops lf rg hm : Nat → Int32} {k i m : Nat} {z : MS} (h : (pf nu ops lf rg hm k z i).2.2.2.2 = true) (him : i ≤ m) : pf nu ops lf rg hm k z m = pf nu ops lf rg hm k z i := by
  induction m with
  | zero => rw [Nat.le_zero.mp him]
  | succ m ih =>
    rcases Nat.lt_or_ge m i with q | q
    · rw [show i = m + 1 by omega]
    · have e := ih q
      show (if (pf nu ops lf rg hm k z m).2.2.2.2 = true then pf nu ops lf rg hm k z m else _) = _
      rw [e, if_pos h]
/-- do two runs end alike: of the first k said -/
def sdE (a b : Nat → Int32) : Nat → Bool
  | 0 => true
  | k + 1 => sdE a b k && decide (a k = b k)
def endL (a b : Nat → Int32) (sa sb : Nat) (ra rb : Int32) (fa fb : Bool) : Bool := decide (fa = fb) && (decide (sa = sb) && (sdE a b sa && (fa || decide (ra = rb))))
theorem sdE_y {a b : Nat → Int32} {k : Nat} (h : sdE a b k = true) (q : a k = b k) : sdE a b (k + 1) = true := by
  show (sdE a b k && decide (a k = b k)) = true
  rw [h, decide_eq_true q]; rfl
theorem sdE_n {a b : Nat → Int32} {k m : Nat} (q : ¬ a k = b k) (hkm : k < m) : sdE a b m = false := by
  induction m with
  | zero => omega
  | succ m ih =>
    show (sdE a b m && decide (a m = b m)) = false
    rcases Nat.lt_or_ge k m with h | h
    · rw [ih h]; rfl
    · rw [show m = k by omega, decide_eq_false q, Bool.and_false]
theorem bI_eq {a b : Bool} (h : bI a = bI b) : a = b := by cases a <;> cases b <;> first | rfl | exact absurd h (by decide)
end
section
/-! AllocForge$Machine: constructor, reads, divide, spoil, takeNumbers, compute -/
set_option maxHeartbeats 4000000 in
set_option maxRecDepth 100000 in
theorem c_Ma_init (l : Launch) (dC : Nat → ClassId) (dI : Nat → Nat → Nat) (cI : ClassId) (mm : Nat) (sz : Nat) : Met l y_Ma_init ws_Ma_init (lvR 1 3 52) (va_Pc [.ref mm] (PM (dC, dI) vwCl [(mm, .inr (2, [.null, .null, .null, .int ((0 : Int32)), .int ((0 : Int32)), .int ((0 : Int32))]))] [(cI, .int)] sz)) (va_Qv (fun _ : Nat × Nat × Nat => True) (MB (dC, dI) vwCl (fun (u9 : Nat × Nat × Nat) => [(mm, .inr (2, [.ref u9.1, .ref u9.2.1, .ref u9.2.2, .int ((0 : Int32)), .int ((0 : Int32)), .int ((0 : Int32))])), (u9.1, .inl (cI, 24, .inl (fun _ => 0))), (u9.2.1, .inl (cI, 4, .inl (fun _ => 0))), (u9.2.2, .inl (cI, 24, .inl (fun _ => 0)))]) [(cI, .int)] (va_A [(mm, .inr (2, [.null, .null, .null, .int ((0 : Int32)), .int ((0 : Int32)), .int ((0 : Int32))]))] sz)) (va_A [(mm, .inr (2, [.null, .null, .null, .int ((0 : Int32)), .int ((0 : Int32)), .int ((0 : Int32))]))] sz)) 3 52 (va_A [(mm, .inr (2, [.null, .null, .null, .int ((0 : Int32)), .int ((0 : Int32)), .int ((0 : Int32))]))] sz) := by
  refine Met.ofW (cc := b_Ma_init) (maxL := 1) (ret := none) (by decide) rfl ?_
  intro p e s m args below meth c s₁ B hml hv
  obtain ⟨rfl, hsz, hP, hK, hD0⟩ := hv
  have hx := B.exec
  have hb := B.bytes
  have hr := B.returns
  have hts := atoms_spec (ws := ws_Ma_init) B.pre
  have hg : ∀ w ∈ TG, w.before ([.ref mm] : List Value).toArray s = true := fun w h => hts w (List.mem_cons_of_mem _ h)
  have hown : s.vm.findClass R_Ma = some m.cls := findClass_of_methodNamed B.named
  have hlocks := B.notSynchronized
  have hin : meth.name = "<init>" := (name_of_methodNamed B.named B.method).1
  subst hsz
  have hD := hD0.self (sz := s.heap.size)
  generalize hAe : va_A [(mm, .inr (2, [.null, .null, .null, .int ((0 : Int32)), .int ((0 : Int32)), .int ((0 : Int32))]))] s.heap.size = A at hD ⊢
  have hA : ∀ q : Nat, s.heap.size ≤ q → A q := fun q h => by rw [← hAe]; exact Or.inr h
  have hS : va_S A s.heap s.heap [] := va_S.rf
  have hl := lv_entry ([.ref mm]) (n := 1) (Nat.le_of_ble_eq_true rfl)
  rw [lg_entry_eq]
  generalize (lg_sl ([.ref mm]) ++ List.replicate (1 - (lg_sl ([.ref mm])).length) Slot.unset).toArray = ls at hl ⊢
  have hl : lv_has ls 1 [(0, .ref mm)] := hl
  refine lv_aload_n hx hb d_Ma_init_0 rfl (lv_at hl 0 rfl) ?_
  refine W.objInit hx hb hown (hg _ tw_60) (hg _ tw_21) (hg _ tw_22) rfl (by rw [hml]; exact hl.1) rfl d_Ma_init_1 (Nat.le_of_ble_eq_true rfl) (Nat.le_of_ble_eq_true rfl) ?_
  refine W.eq (g2 := F0 m 4 ls []) rfl ?_
  refine lv_aload_n hx hb d_Ma_init_4 rfl (lv_at hl 0 rfl) ?_
  refine lv_bipush (v := 24) hx hb d_Ma_init_5 (by decide) ?_
  refine wb_newI hx hb (hg _ tw_54) hK hP hD hS hA 24 rfl (by decide) (Nat.le_of_ble_eq_true rfl) (Nat.le_of_ble_eq_true rfl) d_Ma_init_7 (fun q1 H hP hD hS => ?_)
  have hP : va_P (dC, dI) vwCl [(mm, .inr (2, [.null, .null, .null, .int ((0 : Int32)), .int ((0 : Int32)), .int ((0 : Int32))])), (q1, .inl (cI, 24, .inl (fun _ => 0)))] H := hP
  have hD : va_D A [(mm, .inr (2, [.null, .null, .null, .int ((0 : Int32)), .int ((0 : Int32)), .int ((0 : Int32))])), (q1, .inl (cI, 24, .inl (fun _ => 0)))] := hD
  refine W.widen (k := 1) (n := 24) (Nat.le_of_ble_eq_true rfl) (Nat.le_of_ble_eq_true rfl) ?_
  refine va_putF (D := (dC, dI)) (ci := 2) (v := .ref q1) (ty := .array .int) (C := R_Ma) (T := T_Ma) (N := 6) hx hb hg in_Ma ty_Ma tyok_Ma nm_Ma hown hK hP hD hS 0 rfl rfl 0 (by decide) (hg _ tw_61) (fun _ h9 => h9) rfl hin rfl (by decide +kernel) rfl rfl (Nat.le_of_ble_eq_true rfl) d_Ma_init_9 (fun H locs hP hD hS => ?_)
  have hP : va_P (dC, dI) vwCl [(mm, .inr (2, [.ref q1, .null, .null, .int ((0 : Int32)), .int ((0 : Int32)), .int ((0 : Int32))])), (q1, .inl (cI, 24, .inl (fun _ => 0)))] H := hP
  have hD : va_D A [(mm, .inr (2, [.ref q1, .null, .null, .int ((0 : Int32)), .int ((0 : Int32)), .int ((0 : Int32))])), (q1, .inl (cI, 24, .inl (fun _ => 0)))] := hD
  refine lv_aload_n hx hb d_Ma_init_12 rfl (lv_at hl 0 rfl) ?_
  refine lv_iconst (v := 4) hx hb d_Ma_init_13 (by decide) ?_
  refine wb_newI hx hb (hg _ tw_54) hK hP hD hS hA 4 rfl (by decide) (Nat.le_of_ble_eq_true rfl) (Nat.le_of_ble_eq_true rfl) d_Ma_init_14 (fun q2 H hP hD hS => ?_)
  have hP : va_P (dC, dI) vwCl [(mm, .inr (2, [.ref q1, .null, .null, .int ((0 : Int32)), .int ((0 : Int32)), .int ((0 : Int32))])), (q1, .inl (cI, 24, .inl (fun _ => 0))), (q2, .inl (cI, 4, .inl (fun _ => 0)))] H := hP
  have hD : va_D A [(mm, .inr (2, [.ref q1, .null, .null, .int ((0 : Int32)), .int ((0 : Int32)), .int ((0 : Int32))])), (q1, .inl (cI, 24, .inl (fun _ => 0))), (q2, .inl (cI, 4, .inl (fun _ => 0)))] := hD
  refine W.widen (k := 2) (n := 28) (Nat.le_of_ble_eq_true rfl) (Nat.le_of_ble_eq_true rfl) ?_
  refine va_putF (D := (dC, dI)) (ci := 2) (v := .ref q2) (ty := .array .int) (C := R_Ma) (T := T_Ma) (N := 6) hx hb hg in_Ma ty_Ma tyok_Ma nm_Ma hown hK hP hD hS 0 rfl rfl 1 (by decide) (hg _ tw_62) (fun _ h9 => h9) rfl hin rfl (by decide +kernel) rfl rfl (Nat.le_of_ble_eq_true rfl) d_Ma_init_16 (fun H locs hP hD hS => ?_)
  have hP : va_P (dC, dI) vwCl [(mm, .inr (2, [.ref q1, .ref q2, .null, .int ((0 : Int32)), .int ((0 : Int32)), .int ((0 : Int32))])), (q1, .inl (cI, 24, .inl (fun _ => 0))), (q2, .inl (cI, 4, .inl (fun _ => 0)))] H := hP
  have hD : va_D A [(mm, .inr (2, [.ref q1, .ref q2, .null, .int ((0 : Int32)), .int ((0 : Int32)), .int ((0 : Int32))])), (q1, .inl (cI, 24, .inl (fun _ => 0))), (q2, .inl (cI, 4, .inl (fun _ => 0)))] := hD
  refine lv_aload_n hx hb d_Ma_init_19 rfl (lv_at hl 0 rfl) ?_
  refine lv_bipush (v := 24) hx hb d_Ma_init_20 (by decide) ?_
  refine wb_newI hx hb (hg _ tw_54) hK hP hD hS hA 24 rfl (by decide) (Nat.le_of_ble_eq_true rfl) (Nat.le_of_ble_eq_true rfl) d_Ma_init_22 (fun q3 H hP hD hS => ?_)
  have hP : va_P (dC, dI) vwCl [(mm, .inr (2, [.ref q1, .ref q2, .null, .int ((0 : Int32)), .int ((0 : Int32)), .int ((0 : Int32))])), (q1, .inl (cI, 24, .inl (fun _ => 0))), (q2, .inl (cI, 4, .inl (fun _ => 0))), (q3, .inl (cI, 24, .inl (fun _ => 0)))] H := hP
  have hD : va_D A [(mm, .inr (2, [.ref q1, .ref q2, .null, .int ((0 : Int32)), .int ((0 : Int32)), .int ((0 : Int32))])), (q1, .inl (cI, 24, .inl (fun _ => 0))), (q2, .inl (cI, 4, .inl (fun _ => 0))), (q3, .inl (cI, 24, .inl (fun _ => 0)))] := hD
  refine W.widen (k := 3) (n := 52) (Nat.le_of_ble_eq_true rfl) (Nat.le_of_ble_eq_true rfl) ?_
  refine va_putF (D := (dC, dI)) (ci := 2) (v := .ref q3) (ty := .array .int) (C := R_Ma) (T := T_Ma) (N := 6) hx hb hg in_Ma ty_Ma tyok_Ma nm_Ma hown hK hP hD hS 0 rfl rfl 2 (by decide) (hg _ tw_63) (fun _ h9 => h9) rfl hin rfl (by decide +kernel) rfl rfl (Nat.le_of_ble_eq_true rfl) d_Ma_init_24 (fun H locs hP hD hS => ?_)
  have hP : va_P (dC, dI) vwCl [(mm, .inr (2, [.ref q1, .ref q2, .ref q3, .int ((0 : Int32)), .int ((0 : Int32)), .int ((0 : Int32))])), (q1, .inl (cI, 24, .inl (fun _ => 0))), (q2, .inl (cI, 4, .inl (fun _ => 0))), (q3, .inl (cI, 24, .inl (fun _ => 0)))] H := hP
  have hD : va_D A [(mm, .inr (2, [.ref q1, .ref q2, .ref q3, .int ((0 : Int32)), .int ((0 : Int32)), .int ((0 : Int32))])), (q1, .inl (cI, 24, .inl (fun _ => 0))), (q2, .inl (cI, 4, .inl (fun _ => 0))), (q3, .inl (cI, 24, .inl (fun _ => 0)))] := hD
  have hP9 : va_P (dC, dI) vwCl [(mm, .inr (2, [.ref q1, .ref q2, .ref q3, .int ((0 : Int32)), .int ((0 : Int32)), .int ((0 : Int32))])), (q1, .inl (cI, 24, .inl (fun _ => 0))), (q2, .inl (cI, 4, .inl (fun _ => 0))), (q3, .inl (cI, 24, .inl (fun _ => 0)))] _ := hP.sub [0, 1, 2, 3] rfl
  have hD9 : va_D A [(mm, .inr (2, [.ref q1, .ref q2, .ref q3, .int ((0 : Int32)), .int ((0 : Int32)), .int ((0 : Int32))])), (q1, .inl (cI, 24, .inl (fun _ => 0))), (q2, .inl (cI, 4, .inl (fun _ => 0))), (q3, .inl (cI, 24, .inl (fun _ => 0)))] := hD.sub [0, 1, 2, 3] (by decide) rfl
  refine W.widen (k := 3) (n := 52) (Nat.le_of_ble_eq_true rfl) (Nat.le_of_ble_eq_true rfl) ?_
  exact W.vret hx hb hr (fun t ht hW => ⟨⟨(q1, q2, q3), rfl, trivial, by rw [ht]; exact hP9, va_K.moved hW.alike hK, hD9⟩, hS.F ht⟩) hS.2.2 d_Ma_init_27

set_option maxHeartbeats 4000000 in
set_option maxRecDepth 100000 in
theorem c_Ma_saidCount (l : Launch) (dC : Nat → ClassId) (dI : Nat → Nat → Nat) (cI : ClassId) (mm : Nat) (m1 : Nat) (m2 : Nat) (m3 : Nat) (cl : Nat → Int32) (nu : Nat → Int32) (sd : Nat → Int32) (sc : Nat) (rs : Int32) (ft : Bool) : Met l y_Ma_saidCount ws_Ma_saidCount (lvR 0 0 0) (va_Pc [.ref mm] (PB (dC, dI) vwCl [(mm, .inr (2, [.ref m1, .ref m2, .ref m3, .int (nI sc), .int rs, .int (bI ft)])), (m1, .inl (cI, 24, .inl cl)), (m2, .inl (cI, 4, .inl nu)), (m3, .inl (cI, 24, .inl sd))] [(cI, .int)])) (vp_Si (fun r => r = nI sc)) 0 0 (fun _ => False) := by
  refine Met.ofW (cc := b_Ma_saidCount) (maxL := 1) (ret := (some .int)) (by decide) rfl ?_
  intro p e s m args below meth c s₁ B hml hv
  obtain ⟨rfl, hP, hK⟩ := hv
  have hx := B.exec
  have hb := B.bytes
  have hr := B.returns
  have hts := atoms_spec (ws := ws_Ma_saidCount) B.pre
  have hg : ∀ w ∈ TG, w.before ([.ref mm] : List Value).toArray s = true := fun w h => hts w (List.mem_cons_of_mem _ h)
  have hown : s.vm.findClass R_Ma = some m.cls := findClass_of_methodNamed B.named
  have hlocks := B.notSynchronized
  have hl := lv_entry ([.ref mm]) (n := 1) (Nat.le_of_ble_eq_true rfl)
  rw [lg_entry_eq]
  generalize (lg_sl ([.ref mm]) ++ List.replicate (1 - (lg_sl ([.ref mm])).length) Slot.unset).toArray = ls at hl ⊢
  have hl : lv_has ls 1 [(0, .ref mm)] := hl
  refine lv_aload_n hx hb d_Ma_saidCount_0 rfl (lv_at hl 0 rfl) ?_
  refine va_get (D := (dC, dI)) (ci := 2) (v := .int (nI sc)) (C := R_Ma) (T := T_Ma) (N := 6) hx hb hg in_Ma hown hK hP 0 rfl rfl 3 (by decide) (hg _ tw_64) (fun _ h9 => h9) rfl d_Ma_saidCount_1 ?_
  exact W.iret (v := nI sc) hx hb hr (fun t ht hW => ⟨_, rfl, rfl, ht⟩) (fun q h => by cases h) d_Ma_saidCount_4

set_option maxHeartbeats 4000000 in
set_option maxRecDepth 100000 in
theorem c_Ma_result (l : Launch) (dC : Nat → ClassId) (dI : Nat → Nat → Nat) (cI : ClassId) (mm : Nat) (m1 : Nat) (m2 : Nat) (m3 : Nat) (cl : Nat → Int32) (nu : Nat → Int32) (sd : Nat → Int32) (sc : Nat) (rs : Int32) (ft : Bool) : Met l y_Ma_result ws_Ma_result (lvR 0 0 0) (va_Pc [.ref mm] (PB (dC, dI) vwCl [(mm, .inr (2, [.ref m1, .ref m2, .ref m3, .int (nI sc), .int rs, .int (bI ft)])), (m1, .inl (cI, 24, .inl cl)), (m2, .inl (cI, 4, .inl nu)), (m3, .inl (cI, 24, .inl sd))] [(cI, .int)])) (vp_Si (fun r => r = rs)) 0 0 (fun _ => False) := by
  refine Met.ofW (cc := b_Ma_result) (maxL := 1) (ret := (some .int)) (by decide) rfl ?_
  intro p e s m args below meth c s₁ B hml hv
  obtain ⟨rfl, hP, hK⟩ := hv
  have hx := B.exec
  have hb := B.bytes
  have hr := B.returns
  have hts := atoms_spec (ws := ws_Ma_result) B.pre
  have hg : ∀ w ∈ TG, w.before ([.ref mm] : List Value).toArray s = true := fun w h => hts w (List.mem_cons_of_mem _ h)
  have hown : s.vm.findClass R_Ma = some m.cls := findClass_of_methodNamed B.named
  have hlocks := B.notSynchronized
  have hl := lv_entry ([.ref mm]) (n := 1) (Nat.le_of_ble_eq_true rfl)
  rw [lg_entry_eq]
  generalize (lg_sl ([.ref mm]) ++ List.replicate (1 - (lg_sl ([.ref mm])).length) Slot.unset).toArray = ls at hl ⊢
  have hl : lv_has ls 1 [(0, .ref mm)] := hl
  refine lv_aload_n hx hb d_Ma_result_0 rfl (lv_at hl 0 rfl) ?_
  refine va_get (D := (dC, dI)) (ci := 2) (v := .int rs) (C := R_Ma) (T := T_Ma) (N := 6) hx hb hg in_Ma hown hK hP 0 rfl rfl 4 (by decide) (hg _ tw_65) (fun _ h9 => h9) rfl d_Ma_result_1 ?_
  exact W.iret (v := rs) hx hb hr (fun t ht hW => ⟨_, rfl, rfl, ht⟩) (fun q h => by cases h) d_Ma_result_4

set_option maxHeartbeats 4000000 in
set_option maxRecDepth 100000 in
theorem c_Ma_hadFault (l : Launch) (dC : Nat → ClassId) (dI : Nat → Nat → Nat) (cI : ClassId) (mm : Nat) (m1 : Nat) (m2 : Nat) (m3 : Nat) (cl : Nat → Int32) (nu : Nat → Int32) (sd : Nat → Int32) (sc : Nat) (rs : Int32) (ft : Bool) : Met l y_Ma_hadFault ws_Ma_hadFault (lvR 0 0 0) (va_Pc [.ref mm] (PB (dC, dI) vwCl [(mm, .inr (2, [.ref m1, .ref m2, .ref m3, .int (nI sc), .int rs, .int (bI ft)])), (m1, .inl (cI, 24, .inl cl)), (m2, .inl (cI, 4, .inl nu)), (m3, .inl (cI, 24, .inl sd))] [(cI, .int)])) (vp_Si (fun r => r = bI ft)) 0 0 (fun _ => False) := by
  refine Met.ofW (cc := b_Ma_hadFault) (maxL := 1) (ret := (some .boolean)) (by decide) rfl ?_
  intro p e s m args below meth c s₁ B hml hv
  obtain ⟨rfl, hP, hK⟩ := hv
  have hx := B.exec
  have hb := B.bytes
  have hr := B.returns
  have hts := atoms_spec (ws := ws_Ma_hadFault) B.pre
  have hg : ∀ w ∈ TG, w.before ([.ref mm] : List Value).toArray s = true := fun w h => hts w (List.mem_cons_of_mem _ h)
  have hown : s.vm.findClass R_Ma = some m.cls := findClass_of_methodNamed B.named
  have hlocks := B.notSynchronized
  have hl := lv_entry ([.ref mm]) (n := 1) (Nat.le_of_ble_eq_true rfl)
  rw [lg_entry_eq]
  generalize (lg_sl ([.ref mm]) ++ List.replicate (1 - (lg_sl ([.ref mm])).length) Slot.unset).toArray = ls at hl ⊢
  have hl : lv_has ls 1 [(0, .ref mm)] := hl
  refine lv_aload_n hx hb d_Ma_hadFault_0 rfl (lv_at hl 0 rfl) ?_
  refine va_get (D := (dC, dI)) (ci := 2) (v := .int (bI ft)) (C := R_Ma) (T := T_Ma) (N := 6) hx hb hg in_Ma hown hK hP 0 rfl rfl 5 (by decide) (hg _ tw_66) (fun _ h9 => h9) rfl d_Ma_hadFault_1 ?_
  exact W.zret (v := bI ft) (ty := .boolean) hx hb hr (bI_narrow ft) (fun t ht hW => ⟨_, rfl, rfl, ht⟩) (fun q h => by cases h) d_Ma_hadFault_4

set_option maxHeartbeats 4000000 in
set_option maxRecDepth 100000 in
theorem c_Ma_saidAt (l : Launch) (dC : Nat → ClassId) (dI : Nat → Nat → Nat) (cI : ClassId) (mm : Nat) (m1 : Nat) (m2 : Nat) (m3 : Nat) (cl : Nat → Int32) (nu : Nat → Int32) (sd : Nat → Int32) (sc : Nat) (rs : Int32) (ft : Bool) (i : Nat) (hi : i < 24) : Met l y_Ma_saidAt ws_Ma_saidAt (lvR 0 0 0) (va_Pc [.ref mm, .int (nI i)] (PB (dC, dI) vwCl [(mm, .inr (2, [.ref m1, .ref m2, .ref m3, .int (nI sc), .int rs, .int (bI ft)])), (m1, .inl (cI, 24, .inl cl)), (m2, .inl (cI, 4, .inl nu)), (m3, .inl (cI, 24, .inl sd))] [(cI, .int)])) (vp_Si (fun r => r = sd i)) 0 0 (fun _ => False) := by
  refine Met.ofW (cc := b_Ma_saidAt) (maxL := 2) (ret := (some .int)) (by decide) rfl ?_
  intro p e s m args below meth c s₁ B hml hv
  obtain ⟨rfl, hP, hK⟩ := hv
  have hx := B.exec
  have hb := B.bytes
  have hr := B.returns
  have hts := atoms_spec (ws := ws_Ma_saidAt) B.pre
  have hg : ∀ w ∈ TG, w.before ([.ref mm, .int (nI i)] : List Value).toArray s = true := fun w h => hts w (List.mem_cons_of_mem _ h)
  have hown : s.vm.findClass R_Ma = some m.cls := findClass_of_methodNamed B.named
  have hlocks := B.notSynchronized
  have hl := lv_entry ([.ref mm, .int (nI i)]) (n := 2) (Nat.le_of_ble_eq_true rfl)
  rw [lg_entry_eq]
  generalize (lg_sl ([.ref mm, .int (nI i)]) ++ List.replicate (2 - (lg_sl ([.ref mm, .int (nI i)])).length) Slot.unset).toArray = ls at hl ⊢
  have hl : lv_has ls 2 [(0, .ref mm), (1, .int (nI i))] := hl
  refine lv_aload_n hx hb d_Ma_saidAt_0 rfl (lv_at hl 0 rfl) ?_
  refine va_get (D := (dC, dI)) (ci := 2) (v := .ref m3) (C := R_Ma) (T := T_Ma) (N := 6) hx hb hg in_Ma hown hK hP 0 rfl rfl 2 (by decide) (hg _ tw_63) (fun _ h9 => h9) rfl d_Ma_saidAt_1 ?_
  refine lv_iload_n hx hb d_Ma_saidAt_4 rfl (lv_at hl 1 rfl) ?_
  refine wb_iald hx hb hK hP 3 0 rfl rfl i rfl hi (by decide) d_Ma_saidAt_5 ?_
  exact W.iret (v := sd i) hx hb hr (fun t ht hW => ⟨_, rfl, rfl, ht⟩) (fun q h => by cases h) d_Ma_saidAt_6

set_option maxHeartbeats 4000000 in
set_option maxRecDepth 100000 in
theorem c_Ma_divide (l : Launch) (dC : Nat → ClassId) (dI : Nat → Nat → Nat) (cI : ClassId) (mm : Nat) (m1 : Nat) (m2 : Nat) (m3 : Nat) (cl : Nat → Int32) (nu : Nat → Int32) (sd : Nat → Int32) (sc : Nat) (rs : Int32) (ft : Bool) (x : Int32) (y : Int32) (sz : Nat) : Met l y_Ma_divide ws_Ma_divide (lvR 0 0 0) (va_Pc [.ref mm, .int x, .int y] (PM (dC, dI) vwCl [(mm, .inr (2, [.ref m1, .ref m2, .ref m3, .int (nI sc), .int rs, .int (bI ft)])), (m1, .inl (cI, 24, .inl cl)), (m2, .inl (cI, 4, .inl nu)), (m3, .inl (cI, 24, .inl sd))] [(cI, .int)] sz)) (va_Qi (fun (r : Int32) (_ : Unit) => r = dvV x y) (MB (dC, dI) vwCl (fun _ => [(mm, .inr (2, [.ref m1, .ref m2, .ref m3, .int (nI sc), .int rs, .int (bI (dvF ft y))])), (m1, .inl (cI, 24, .inl cl)), (m2, .inl (cI, 4, .inl nu)), (m3, .inl (cI, 24, .inl sd))]) [(cI, .int)] (va_A [(mm, .inr (2, [.ref m1, .ref m2, .ref m3, .int (nI sc), .int rs, .int (bI ft)])), (m1, .inl (cI, 24, .inl cl)), (m2, .inl (cI, 4, .inl nu)), (m3, .inl (cI, 24, .inl sd))] sz)) (va_A [(mm, .inr (2, [.ref m1, .ref m2, .ref m3, .int (nI sc), .int rs, .int (bI ft)])), (m1, .inl (cI, 24, .inl cl)), (m2, .inl (cI, 4, .inl nu)), (m3, .inl (cI, 24, .inl sd))] sz)) 0 0 (va_A [(mm, .inr (2, [.ref m1, .ref m2, .ref m3, .int (nI sc), .int rs, .int (bI ft)])), (m1, .inl (cI, 24, .inl cl)), (m2, .inl (cI, 4, .inl nu)), (m3, .inl (cI, 24, .inl sd))] sz) := by
  refine Met.ofW (cc := b_Ma_divide) (maxL := 3) (ret := (some .int)) (by decide) rfl ?_
  intro p e s m args below meth c s₁ B hml hv
  obtain ⟨rfl, hsz, hP, hK, hD0⟩ := hv
  have hx := B.exec
  have hb := B.bytes
  have hr := B.returns
  have hts := atoms_spec (ws := ws_Ma_divide) B.pre
  have hg : ∀ w ∈ TG, w.before ([.ref mm, .int x, .int y] : List Value).toArray s = true := fun w h => hts w (List.mem_cons_of_mem _ h)
  have hown : s.vm.findClass R_Ma = some m.cls := findClass_of_methodNamed B.named
  have hlocks := B.notSynchronized
  subst hsz
  have hD := hD0.self (sz := s.heap.size)
  generalize hAe : va_A [(mm, .inr (2, [.ref m1, .ref m2, .ref m3, .int (nI sc), .int rs, .int (bI ft)])), (m1, .inl (cI, 24, .inl cl)), (m2, .inl (cI, 4, .inl nu)), (m3, .inl (cI, 24, .inl sd))] s.heap.size = A at hD ⊢
  have hA : ∀ q : Nat, s.heap.size ≤ q → A q := fun q h => by rw [← hAe]; exact Or.inr h
  have hS : va_S A s.heap s.heap [] := va_S.rf
  have hl := lv_entry ([.ref mm, .int x, .int y]) (n := 3) (Nat.le_of_ble_eq_true rfl)
  rw [lg_entry_eq]
  generalize (lg_sl ([.ref mm, .int x, .int y]) ++ List.replicate (3 - (lg_sl ([.ref mm, .int x, .int y])).length) Slot.unset).toArray = ls at hl ⊢
  have hl : lv_has ls 3 [(0, .ref mm), (1, .int x), (2, .int y)] := hl
  refine lv_iload_n hx hb d_Ma_divide_0 rfl (lv_at hl 2 rfl) ?_
  refine lv_if_ne (tgt := 11) hx hb d_Ma_divide_1 (by decide) (fun c1 => ?_) (fun c1 => ?_)
  · refine lv_iload_n hx hb d_Ma_divide_11 rfl (lv_at hl 1 rfl) ?_
    refine lv_iload_n hx hb d_Ma_divide_12 rfl (lv_at hl 2 rfl) ?_
    refine lv_idiv hx hb d_Ma_divide_13 c1 ?_
    have ef : dvF ft y = ft := if_neg c1
    have hP9 : va_P (dC, dI) vwCl [(mm, .inr (2, [.ref m1, .ref m2, .ref m3, .int (nI sc), .int rs, .int (bI (dvF ft y))])), (m1, .inl (cI, 24, .inl cl)), (m2, .inl (cI, 4, .inl nu)), (m3, .inl (cI, 24, .inl sd))] _ := (by rw [ef]; exact hP.sub [0, 1, 2, 3] rfl)
    have hD9 : va_D A [(mm, .inr (2, [.ref m1, .ref m2, .ref m3, .int (nI sc), .int rs, .int (bI (dvF ft y))])), (m1, .inl (cI, 24, .inl cl)), (m2, .inl (cI, 4, .inl nu)), (m3, .inl (cI, 24, .inl sd))] := (by rw [ef]; exact hD.sub [0, 1, 2, 3] (by decide) rfl)
    exact W.iret (v := x / y) hx hb hr (fun t ht hW => ⟨⟨_, (), rfl, (if_neg c1).symm, by rw [ht]; exact hP9, va_K.moved hW.alike hK, hD9⟩, hS.F ht⟩) hS.2.2 d_Ma_divide_14
  · refine lv_aload_n hx hb d_Ma_divide_4 rfl (lv_at hl 0 rfl) ?_
    refine lv_iconst (v := 1) hx hb d_Ma_divide_5 (by decide) ?_
    refine va_put (D := (dC, dI)) (ci := 2) (v := .int (bI true)) (ty := .boolean) (C := R_Ma) (T := T_Ma) (N := 6) hx hb hg in_Ma ty_Ma tyok_Ma nm_Ma hown hK hP hD hS 0 rfl rfl 5 (by decide) (hg _ tw_66) (fun _ h9 => h9) rfl (by decide +kernel) (bI_narrow true) (bI_fits true) (Nat.le_of_ble_eq_true rfl) d_Ma_divide_6 (fun H locs hP hD hS => ?_)
    have hP : va_P (dC, dI) vwCl [(mm, .inr (2, [.ref m1, .ref m2, .ref m3, .int (nI sc), .int rs, .int (bI true)])), (m1, .inl (cI, 24, .inl cl)), (m2, .inl (cI, 4, .inl nu)), (m3, .inl (cI, 24, .inl sd))] H := hP
    have hD : va_D A [(mm, .inr (2, [.ref m1, .ref m2, .ref m3, .int (nI sc), .int rs, .int (bI true)])), (m1, .inl (cI, 24, .inl cl)), (m2, .inl (cI, 4, .inl nu)), (m3, .inl (cI, 24, .inl sd))] := hD
    refine lv_iconst (v := 0) hx hb d_Ma_divide_9 (by decide) ?_
    have ef : dvF ft y = true := if_pos c1
    have hP9 : va_P (dC, dI) vwCl [(mm, .inr (2, [.ref m1, .ref m2, .ref m3, .int (nI sc), .int rs, .int (bI (dvF ft y))])), (m1, .inl (cI, 24, .inl cl)), (m2, .inl (cI, 4, .inl nu)), (m3, .inl (cI, 24, .inl sd))] _ := (by rw [ef]; exact hP.sub [0, 1, 2, 3] rfl)
    have hD9 : va_D A [(mm, .inr (2, [.ref m1, .ref m2, .ref m3, .int (nI sc), .int rs, .int (bI (dvF ft y))])), (m1, .inl (cI, 24, .inl cl)), (m2, .inl (cI, 4, .inl nu)), (m3, .inl (cI, 24, .inl sd))] := (by rw [ef]; exact hD.sub [0, 1, 2, 3] (by decide) rfl)
    exact W.iret (v := (0 : Int32)) hx hb hr (fun t ht hW => ⟨⟨_, (), rfl, (if_pos c1).symm, by rw [ht]; exact hP9, va_K.moved hW.alike hK, hD9⟩, hS.F ht⟩) hS.2.2 d_Ma_divide_10

set_option maxHeartbeats 4000000 in
set_option maxRecDepth 100000 in
theorem c_Ma_spoil (l : Launch) (dC : Nat → ClassId) (dI : Nat → Nat → Nat) (cI : ClassId) (mm : Nat) (m1 : Nat) (m2 : Nat) (m3 : Nat) (cl : Nat → Int32) (nu : Nat → Int32) (sd : Nat → Int32) (sc : Nat) (rs : Int32) (ft : Bool) (k : Nat) (sz : Nat) (hk5 : k ≤ 5) : Met l y_Ma_spoil ws_Ma_spoil (lvR 0 0 0) (va_Pc [.ref mm, .int (nI k)] (PM (dC, dI) vwCl [(mm, .inr (2, [.ref m1, .ref m2, .ref m3, .int (nI sc), .int rs, .int (bI ft)])), (m1, .inl (cI, 24, .inl cl)), (m2, .inl (cI, 4, .inl nu)), (m3, .inl (cI, 24, .inl sd))] [(cI, .int)] sz)) (va_Qv (fun _ : Unit => True) (MB (dC, dI) vwCl (fun _ => [(mm, .inr (2, [.ref m1, .ref m2, .ref m3, .int (nI sc), .int rs, .int (bI ft)])), (m1, .inl (cI, 24, .inl (spF cl k))), (m2, .inl (cI, 4, .inl nu)), (m3, .inl (cI, 24, .inl sd))]) [(cI, .int)] (va_A [(mm, .inr (2, [.ref m1, .ref m2, .ref m3, .int (nI sc), .int rs, .int (bI ft)])), (m1, .inl (cI, 24, .inl cl)), (m2, .inl (cI, 4, .inl nu)), (m3, .inl (cI, 24, .inl sd))] sz)) (va_A [(mm, .inr (2, [.ref m1, .ref m2, .ref m3, .int (nI sc), .int rs, .int (bI ft)])), (m1, .inl (cI, 24, .inl cl)), (m2, .inl (cI, 4, .inl nu)), (m3, .inl (cI, 24, .inl sd))] sz)) 0 0 (va_A [(mm, .inr (2, [.ref m1, .ref m2, .ref m3, .int (nI sc), .int rs, .int (bI ft)])), (m1, .inl (cI, 24, .inl cl)), (m2, .inl (cI, 4, .inl nu)), (m3, .inl (cI, 24, .inl sd))] sz) := by
  refine Met.ofW (cc := b_Ma_spoil) (maxL := 3) (ret := none) (by decide) rfl ?_
  intro p e s m args below meth c s₁ B hml hv
  obtain ⟨rfl, hsz, hP, hK, hD0⟩ := hv
  have hx := B.exec
  have hb := B.bytes
  have hr := B.returns
  have hts := atoms_spec (ws := ws_Ma_spoil) B.pre
  have hg : ∀ w ∈ TG, w.before ([.ref mm, .int (nI k)] : List Value).toArray s = true := fun w h => hts w (List.mem_cons_of_mem _ h)
  have hown : s.vm.findClass R_Ma = some m.cls := findClass_of_methodNamed B.named
  have hlocks := B.notSynchronized
  subst hsz
  have hD := hD0.self (sz := s.heap.size)
  generalize hAe : va_A [(mm, .inr (2, [.ref m1, .ref m2, .ref m3, .int (nI sc), .int rs, .int (bI ft)])), (m1, .inl (cI, 24, .inl cl)), (m2, .inl (cI, 4, .inl nu)), (m3, .inl (cI, 24, .inl sd))] s.heap.size = A at hD ⊢
  have hA : ∀ q : Nat, s.heap.size ≤ q → A q := fun q h => by rw [← hAe]; exact Or.inr h
  have hS : va_S A s.heap s.heap [] := va_S.rf
  have hl := lv_entry ([.ref mm, .int (nI k)]) (n := 3) (Nat.le_of_ble_eq_true rfl)
  rw [lg_entry_eq]
  generalize (lg_sl ([.ref mm, .int (nI k)]) ++ List.replicate (3 - (lg_sl ([.ref mm, .int (nI k)])).length) Slot.unset).toArray = ls at hl ⊢
  have hl : lv_has ls 3 [(0, .ref mm), (1, .int (nI k))] := hl
  refine lv_iconst (v := 2) hx hb d_Ma_spoil_0 (by decide) ?_
  refine lv_istore_n (lv' := [(2, .int ((2 : Int32))), (0, .ref mm), (1, .int (nI k))]) hx hb d_Ma_spoil_1 rfl hl (by decide) rfl (fun ls hl => ?_)
  refine wb_loop (σ := Nat) 2 (fun i H locs ls => lv_has ls 3 [(2, .int (nI i)), (0, .ref mm), (1, .int (nI k))] ∧ va_P (dC, dI) vwCl [(mm, .inr (2, [.ref m1, .ref m2, .ref m3, .int (nI sc), .int rs, .int (bI ft)])), (m1, .inl (cI, 24, .inl (spF cl i))), (m2, .inl (cI, 4, .inl nu)), (m3, .inl (cI, 24, .inl sd))] H ∧ va_D A [(mm, .inr (2, [.ref m1, .ref m2, .ref m3, .int (nI sc), .int rs, .int (bI ft)])), (m1, .inl (cI, 24, .inl (spF cl i))), (m2, .inl (cI, 4, .inl nu)), (m3, .inl (cI, 24, .inl sd))] ∧ va_S A s.heap H locs ∧ (2 ≤ i) ∧ (i ≤ k ∨ i = 2)) (fun i => 6 - i) ?_ (2) _ _ ls ⟨lv_sub hl [0, 1, 2] rfl, (by rw [spF_0]; exact hP), (by rw [spF_0]; exact hD), hS, (Nat.le_refl _), (Or.inr rfl)⟩
  clear hP hD hS hl
  intro i H locs ls hI2 ih1
  obtain ⟨hl, hP, hD, hS, hi2, hik⟩ := hI2
  refine lv_iload_n hx hb d_Ma_spoil_2 rfl (lv_at hl 0 rfl) ?_
  refine lv_iload_n hx hb d_Ma_spoil_3 rfl (lv_at hl 2 rfl) ?_
  refine wb_icmp_ge (tgt := 20) hx hb i k rfl rfl (by omega) (by omega) d_Ma_spoil_4 (by decide) (fun c3 => ?_) (fun c3 => ?_)
  · have es : spF cl k = spF cl i := spF_e hi2 c3 hik
    have hP9 : va_P (dC, dI) vwCl [(mm, .inr (2, [.ref m1, .ref m2, .ref m3, .int (nI sc), .int rs, .int (bI ft)])), (m1, .inl (cI, 24, .inl (spF cl k))), (m2, .inl (cI, 4, .inl nu)), (m3, .inl (cI, 24, .inl sd))] _ := (by rw [es]; exact hP.sub [0, 1, 2, 3] rfl)
    have hD9 : va_D A [(mm, .inr (2, [.ref m1, .ref m2, .ref m3, .int (nI sc), .int rs, .int (bI ft)])), (m1, .inl (cI, 24, .inl (spF cl k))), (m2, .inl (cI, 4, .inl nu)), (m3, .inl (cI, 24, .inl sd))] := (by rw [es]; exact hD.sub [0, 1, 2, 3] (by decide) rfl)
    exact W.vret hx hb hr (fun t ht hW => ⟨⟨(), rfl, trivial, by rw [ht]; exact hP9, va_K.moved hW.alike hK, hD9⟩, hS.F ht⟩) hS.2.2 d_Ma_spoil_20
  · refine lv_aload_n hx hb d_Ma_spoil_7 rfl (lv_at hl 1 rfl) ?_
    refine va_get (D := (dC, dI)) (ci := 2) (v := .ref m1) (C := R_Ma) (T := T_Ma) (N := 6) hx hb hg in_Ma hown hK hP 0 rfl rfl 0 (by decide) (hg _ tw_61) (fun _ h9 => h9) rfl d_Ma_spoil_8 ?_
    refine lv_iload_n hx hb d_Ma_spoil_11 rfl (lv_at hl 0 rfl) ?_
    refine lv_iconst (v := -1) hx hb d_Ma_spoil_12 (by decide) ?_
    refine wb_iast hx hb hK hP hD hS 1 0 rfl rfl i rfl (Nat.lt_of_lt_of_le c3 (Nat.le_trans hk5 (by decide))) (by decide) d_Ma_spoil_13 (fun H locs hP hD hS => ?_)
    have hP : va_P (dC, dI) vwCl [(mm, .inr (2, [.ref m1, .ref m2, .ref m3, .int (nI sc), .int rs, .int (bI ft)])), (m1, .inl (cI, 24, .inl (upd (spF cl i) i ((-1 : Int32))))), (m2, .inl (cI, 4, .inl nu)), (m3, .inl (cI, 24, .inl sd))] H := hP
    have hD : va_D A [(mm, .inr (2, [.ref m1, .ref m2, .ref m3, .int (nI sc), .int rs, .int (bI ft)])), (m1, .inl (cI, 24, .inl (upd (spF cl i) i ((-1 : Int32))))), (m2, .inl (cI, 4, .inl nu)), (m3, .inl (cI, 24, .inl sd))] := hD
    refine lv_iinc (v := (nI (i + 1))) (lv' := [(2, .int (nI (i + 1))), (0, .ref mm), (1, .int (nI k))]) hx hb d_Ma_spoil_14 hl (k := 0) rfl (nI_add _ 1) (by decide) rfl (fun ls hl => ?_)
    refine lv_goto (tgt := 2) hx hb d_Ma_spoil_17 (by decide) ?_
    exact ih1 (i + 1) _ _ ls ⟨lv_sub hl [0, 1, 2] rfl, (by rw [← spF_s cl hi2]; exact hP), (by rw [← spF_s cl hi2]; exact hD), hS, (Nat.le_succ_of_le hi2), (Or.inl c3)⟩ (by have := c3; omega)

set_option maxHeartbeats 4000000 in
set_option maxRecDepth 100000 in
theorem c_Ma_takeNumbers (l : Launch) (dC : Nat → ClassId) (dI : Nat → Nat → Nat) (cI : ClassId) (mm : Nat) (m1 : Nat) (m2 : Nat) (m3 : Nat) (cl : Nat → Int32) (nu : Nat → Int32) (sd : Nat → Int32) (sc : Nat) (rs : Int32) (ft : Bool) (x : Int32) (y : Int32) (z : Int32) (w : Int32) (sz : Nat) : Met l y_Ma_takeNumbers ws_Ma_takeNumbers (lvR 0 0 0) (va_Pc [.ref mm, .int x, .int y, .int z, .int w] (PM (dC, dI) vwCl [(mm, .inr (2, [.ref m1, .ref m2, .ref m3, .int (nI sc), .int rs, .int (bI ft)])), (m1, .inl (cI, 24, .inl cl)), (m2, .inl (cI, 4, .inl nu)), (m3, .inl (cI, 24, .inl sd))] [(cI, .int)] sz)) (va_Qv (fun _ : Unit => True) (MB (dC, dI) vwCl (fun _ => [(mm, .inr (2, [.ref m1, .ref m2, .ref m3, .int (nI sc), .int rs, .int (bI ft)])), (m1, .inl (cI, 24, .inl cl)), (m2, .inl (cI, 4, .inl (upd (upd (upd (upd nu 0 x) 1 y) 2 z) 3 w))), (m3, .inl (cI, 24, .inl sd))]) [(cI, .int)] (va_A [(mm, .inr (2, [.ref m1, .ref m2, .ref m3, .int (nI sc), .int rs, .int (bI ft)])), (m1, .inl (cI, 24, .inl cl)), (m2, .inl (cI, 4, .inl nu)), (m3, .inl (cI, 24, .inl sd))] sz)) (va_A [(mm, .inr (2, [.ref m1, .ref m2, .ref m3, .int (nI sc), .int rs, .int (bI ft)])), (m1, .inl (cI, 24, .inl cl)), (m2, .inl (cI, 4, .inl nu)), (m3, .inl (cI, 24, .inl sd))] sz)) 0 0 (va_A [(mm, .inr (2, [.ref m1, .ref m2, .ref m3, .int (nI sc), .int rs, .int (bI ft)])), (m1, .inl (cI, 24, .inl cl)), (m2, .inl (cI, 4, .inl nu)), (m3, .inl (cI, 24, .inl sd))] sz) := by
  refine Met.ofW (cc := b_Ma_takeNumbers) (maxL := 5) (ret := none) (by decide) rfl ?_
  intro p e s m args below meth c s₁ B hml hv
  obtain ⟨rfl, hsz, hP, hK, hD0⟩ := hv
  have hx := B.exec
  have hb := B.bytes
  have hr := B.returns
  have hts := atoms_spec (ws := ws_Ma_takeNumbers) B.pre
  have hg : ∀ w ∈ TG, w.before ([.ref mm, .int x, .int y, .int z, .int w] : List Value).toArray s = true := fun w h => hts w (List.mem_cons_of_mem _ h)
  have hown : s.vm.findClass R_Ma = some m.cls := findClass_of_methodNamed B.named
  have hlocks := B.notSynchronized
  subst hsz
  have hD := hD0.self (sz := s.heap.size)
  generalize hAe : va_A [(mm, .inr (2, [.ref m1, .ref m2, .ref m3, .int (nI sc), .int rs, .int (bI ft)])), (m1, .inl (cI, 24, .inl cl)), (m2, .inl (cI, 4, .inl nu)), (m3, .inl (cI, 24, .inl sd))] s.heap.size = A at hD ⊢
  have hA : ∀ q : Nat, s.heap.size ≤ q → A q := fun q h => by rw [← hAe]; exact Or.inr h
  have hS : va_S A s.heap s.heap [] := va_S.rf
  have hl := lv_entry ([.ref mm, .int x, .int y, .int z, .int w]) (n := 5) (Nat.le_of_ble_eq_true rfl)
  rw [lg_entry_eq]
  generalize (lg_sl ([.ref mm, .int x, .int y, .int z, .int w]) ++ List.replicate (5 - (lg_sl ([.ref mm, .int x, .int y, .int z, .int w])).length) Slot.unset).toArray = ls at hl ⊢
  have hl : lv_has ls 5 [(0, .ref mm), (1, .int x), (2, .int y), (3, .int z), (4, .int w)] := hl
  refine lv_aload_n hx hb d_Ma_takeNumbers_0 rfl (lv_at hl 0 rfl) ?_
  refine va_get (D := (dC, dI)) (ci := 2) (v := .ref m2) (C := R_Ma) (T := T_Ma) (N := 6) hx hb hg in_Ma hown hK hP 0 rfl rfl 1 (by decide) (hg _ tw_62) (fun _ h9 => h9) rfl d_Ma_takeNumbers_1 ?_
  refine lv_iconst (v := 0) hx hb d_Ma_takeNumbers_4 (by decide) ?_
  refine lv_iload_n hx hb d_Ma_takeNumbers_5 rfl (lv_at hl 1 rfl) ?_
  refine wb_iast hx hb hK hP hD hS 2 0 rfl rfl 0 rfl (by decide) (by decide) d_Ma_takeNumbers_6 (fun H locs hP hD hS => ?_)
  have hP : va_P (dC, dI) vwCl [(mm, .inr (2, [.ref m1, .ref m2, .ref m3, .int (nI sc), .int rs, .int (bI ft)])), (m1, .inl (cI, 24, .inl cl)), (m2, .inl (cI, 4, .inl (upd nu 0 x))), (m3, .inl (cI, 24, .inl sd))] H := hP
  have hD : va_D A [(mm, .inr (2, [.ref m1, .ref m2, .ref m3, .int (nI sc), .int rs, .int (bI ft)])), (m1, .inl (cI, 24, .inl cl)), (m2, .inl (cI, 4, .inl (upd nu 0 x))), (m3, .inl (cI, 24, .inl sd))] := hD
  refine lv_aload_n hx hb d_Ma_takeNumbers_7 rfl (lv_at hl 0 rfl) ?_
  refine va_get (D := (dC, dI)) (ci := 2) (v := .ref m2) (C := R_Ma) (T := T_Ma) (N := 6) hx hb hg in_Ma hown hK hP 0 rfl rfl 1 (by decide) (hg _ tw_62) (fun _ h9 => h9) rfl d_Ma_takeNumbers_8 ?_
  refine lv_iconst (v := 1) hx hb d_Ma_takeNumbers_11 (by decide) ?_
  refine lv_iload_n hx hb d_Ma_takeNumbers_12 rfl (lv_at hl 2 rfl) ?_
  refine wb_iast hx hb hK hP hD hS 2 0 rfl rfl 1 rfl (by decide) (by decide) d_Ma_takeNumbers_13 (fun H locs hP hD hS => ?_)
  have hP : va_P (dC, dI) vwCl [(mm, .inr (2, [.ref m1, .ref m2, .ref m3, .int (nI sc), .int rs, .int (bI ft)])), (m1, .inl (cI, 24, .inl cl)), (m2, .inl (cI, 4, .inl (upd (upd nu 0 x) 1 y))), (m3, .inl (cI, 24, .inl sd))] H := hP
  have hD : va_D A [(mm, .inr (2, [.ref m1, .ref m2, .ref m3, .int (nI sc), .int rs, .int (bI ft)])), (m1, .inl (cI, 24, .inl cl)), (m2, .inl (cI, 4, .inl (upd (upd nu 0 x) 1 y))), (m3, .inl (cI, 24, .inl sd))] := hD
  refine lv_aload_n hx hb d_Ma_takeNumbers_14 rfl (lv_at hl 0 rfl) ?_
  refine va_get (D := (dC, dI)) (ci := 2) (v := .ref m2) (C := R_Ma) (T := T_Ma) (N := 6) hx hb hg in_Ma hown hK hP 0 rfl rfl 1 (by decide) (hg _ tw_62) (fun _ h9 => h9) rfl d_Ma_takeNumbers_15 ?_
  refine lv_iconst (v := 2) hx hb d_Ma_takeNumbers_18 (by decide) ?_
  refine lv_iload_n hx hb d_Ma_takeNumbers_19 rfl (lv_at hl 3 rfl) ?_
  refine wb_iast hx hb hK hP hD hS 2 0 rfl rfl 2 rfl (by decide) (by decide) d_Ma_takeNumbers_20 (fun H locs hP hD hS => ?_)
  have hP : va_P (dC, dI) vwCl [(mm, .inr (2, [.ref m1, .ref m2, .ref m3, .int (nI sc), .int rs, .int (bI ft)])), (m1, .inl (cI, 24, .inl cl)), (m2, .inl (cI, 4, .inl (upd (upd (upd nu 0 x) 1 y) 2 z))), (m3, .inl (cI, 24, .inl sd))] H := hP
  have hD : va_D A [(mm, .inr (2, [.ref m1, .ref m2, .ref m3, .int (nI sc), .int rs, .int (bI ft)])), (m1, .inl (cI, 24, .inl cl)), (m2, .inl (cI, 4, .inl (upd (upd (upd nu 0 x) 1 y) 2 z))), (m3, .inl (cI, 24, .inl sd))] := hD
  refine lv_aload_n hx hb d_Ma_takeNumbers_21 rfl (lv_at hl 0 rfl) ?_
  refine va_get (D := (dC, dI)) (ci := 2) (v := .ref m2) (C := R_Ma) (T := T_Ma) (N := 6) hx hb hg in_Ma hown hK hP 0 rfl rfl 1 (by decide) (hg _ tw_62) (fun _ h9 => h9) rfl d_Ma_takeNumbers_22 ?_
  refine lv_iconst (v := 3) hx hb d_Ma_takeNumbers_25 (by decide) ?_
  refine lv_iload hx hb d_Ma_takeNumbers_26 (lv_at hl 4 rfl) ?_
  refine wb_iast hx hb hK hP hD hS 2 0 rfl rfl 3 rfl (by decide) (by decide) d_Ma_takeNumbers_28 (fun H locs hP hD hS => ?_)
  have hP : va_P (dC, dI) vwCl [(mm, .inr (2, [.ref m1, .ref m2, .ref m3, .int (nI sc), .int rs, .int (bI ft)])), (m1, .inl (cI, 24, .inl cl)), (m2, .inl (cI, 4, .inl (upd (upd (upd (upd nu 0 x) 1 y) 2 z) 3 w))), (m3, .inl (cI, 24, .inl sd))] H := hP
  have hD : va_D A [(mm, .inr (2, [.ref m1, .ref m2, .ref m3, .int (nI sc), .int rs, .int (bI ft)])), (m1, .inl (cI, 24, .inl cl)), (m2, .inl (cI, 4, .inl (upd (upd (upd (upd nu 0 x) 1 y) 2 z) 3 w))), (m3, .inl (cI, 24, .inl sd))] := hD
  have hP9 : va_P (dC, dI) vwCl [(mm, .inr (2, [.ref m1, .ref m2, .ref m3, .int (nI sc), .int rs, .int (bI ft)])), (m1, .inl (cI, 24, .inl cl)), (m2, .inl (cI, 4, .inl (upd (upd (upd (upd nu 0 x) 1 y) 2 z) 3 w))), (m3, .inl (cI, 24, .inl sd))] _ := hP.sub [0, 1, 2, 3] rfl
  have hD9 : va_D A [(mm, .inr (2, [.ref m1, .ref m2, .ref m3, .int (nI sc), .int rs, .int (bI ft)])), (m1, .inl (cI, 24, .inl cl)), (m2, .inl (cI, 4, .inl (upd (upd (upd (upd nu 0 x) 1 y) 2 z) 3 w))), (m3, .inl (cI, 24, .inl sd))] := hD.sub [0, 1, 2, 3] (by decide) rfl
  exact W.vret hx hb hr (fun t ht hW => ⟨⟨(), rfl, trivial, by rw [ht]; exact hP9, va_K.moved hW.alike hK, hD9⟩, hS.F ht⟩) hS.2.2 d_Ma_takeNumbers_29

set_option maxHeartbeats 4000000 in
set_option maxRecDepth 100000 in
theorem c_Ma_compute (l : Launch) (dC : Nat → ClassId) (dI : Nat → Nat → Nat) (cI : ClassId) (mm : Nat) (m1 : Nat) (m2 : Nat) (m3 : Nat) (cl : Nat → Int32) (nu : Nat → Int32) (sd : Nat → Int32) (sc : Nat) (rs : Int32) (ft : Bool) (op : Int32) (x : Int32) (y : Int32) (sz : Nat) (h1 : op = 1 → ∃ j : Nat, j < 4 ∧ x = nI j) (h6 : op = 6 → sc < 24) : Met l y_Ma_compute ws_Ma_compute (lvR 1 0 0) (va_Pc [.ref mm, .int op, .int x, .int y] (PM (dC, dI) vwCl [(mm, .inr (2, [.ref m1, .ref m2, .ref m3, .int (nI sc), .int rs, .int (bI ft)])), (m1, .inl (cI, 24, .inl cl)), (m2, .inl (cI, 4, .inl nu)), (m3, .inl (cI, 24, .inl sd))] [(cI, .int)] sz)) (va_Qi (fun (r : Int32) (_ : Unit) => r = cmpV nu op x y) (MB (dC, dI) vwCl (fun _ => [(mm, .inr (2, [.ref m1, .ref m2, .ref m3, .int (nI (cmpN sc op)), .int rs, .int (bI (cmpF ft op y))])), (m1, .inl (cI, 24, .inl cl)), (m2, .inl (cI, 4, .inl nu)), (m3, .inl (cI, 24, .inl (cmpS sd sc op x)))]) [(cI, .int)] (va_A [(mm, .inr (2, [.ref m1, .ref m2, .ref m3, .int (nI sc), .int rs, .int (bI ft)])), (m1, .inl (cI, 24, .inl cl)), (m2, .inl (cI, 4, .inl nu)), (m3, .inl (cI, 24, .inl sd))] sz)) (va_A [(mm, .inr (2, [.ref m1, .ref m2, .ref m3, .int (nI sc), .int rs, .int (bI ft)])), (m1, .inl (cI, 24, .inl cl)), (m2, .inl (cI, 4, .inl nu)), (m3, .inl (cI, 24, .inl sd))] sz)) 0 0 (va_A [(mm, .inr (2, [.ref m1, .ref m2, .ref m3, .int (nI sc), .int rs, .int (bI ft)])), (m1, .inl (cI, 24, .inl cl)), (m2, .inl (cI, 4, .inl nu)), (m3, .inl (cI, 24, .inl sd))] sz) := by
  refine Met.ofW (cc := b_Ma_compute) (maxL := 4) (ret := (some .int)) (by decide) rfl ?_
  intro p e s m args below meth c s₁ B hml hv
  obtain ⟨rfl, hsz, hP, hK, hD0⟩ := hv
  have hx := B.exec
  have hb := B.bytes
  have hr := B.returns
  have hts := atoms_spec (ws := ws_Ma_compute) B.pre
  have hg : ∀ w ∈ TG, w.before ([.ref mm, .int op, .int x, .int y] : List Value).toArray s = true := fun w h => hts w (List.mem_cons_of_mem _ h)
  have hown : s.vm.findClass R_Ma = some m.cls := findClass_of_methodNamed B.named
  have hlocks := B.notSynchronized
  subst hsz
  have hD := hD0.self (sz := s.heap.size)
  generalize hAe : va_A [(mm, .inr (2, [.ref m1, .ref m2, .ref m3, .int (nI sc), .int rs, .int (bI ft)])), (m1, .inl (cI, 24, .inl cl)), (m2, .inl (cI, 4, .inl nu)), (m3, .inl (cI, 24, .inl sd))] s.heap.size = A at hD ⊢
  have hA : ∀ q : Nat, s.heap.size ≤ q → A q := fun q h => by rw [← hAe]; exact Or.inr h
  have hS : va_S A s.heap s.heap [] := va_S.rf
  have hl := lv_entry ([.ref mm, .int op, .int x, .int y]) (n := 4) (Nat.le_of_ble_eq_true rfl)
  rw [lg_entry_eq]
  generalize (lg_sl ([.ref mm, .int op, .int x, .int y]) ++ List.replicate (4 - (lg_sl ([.ref mm, .int op, .int x, .int y])).length) Slot.unset).toArray = ls at hl ⊢
  have hl : lv_has ls 4 [(0, .ref mm), (1, .int op), (2, .int x), (3, .int y)] := hl
  refine lv_iload_n hx hb d_Ma_compute_0 rfl (lv_at hl 1 rfl) ?_
  rcases Decidable.em (op = 1) with k1 | k1
  · refine lv_tableIn (tgt := 44) hx hb d_Ma_compute_1 (by rw [k1]; decide) (by rw [k1]; decide) (by rw [k1]; rfl) (by decide) ?_
    obtain ⟨j, hj, rfl⟩ := h1 k1
    refine lv_aload_n hx hb d_Ma_compute_44 rfl (lv_at hl 0 rfl) ?_
    refine va_get (D := (dC, dI)) (ci := 2) (v := .ref m2) (C := R_Ma) (T := T_Ma) (N := 6) hx hb hg in_Ma hown hK hP 0 rfl rfl 1 (by decide) (hg _ tw_62) (fun _ h9 => h9) rfl d_Ma_compute_45 ?_
    refine lv_iload_n hx hb d_Ma_compute_48 rfl (lv_at hl 2 rfl) ?_
    refine wb_iald hx hb hK hP 2 0 rfl rfl j rfl hj (by decide) d_Ma_compute_49 ?_
    have e1 : cmpS sd sc op (nI j) = sd := cmpS_n (ne_of k1 (by decide))
    have e2 : cmpN sc op = sc := cmpN_n (ne_of k1 (by decide))
    have e3 : cmpF ft op y = ft := cmpF_n (ne_of k1 (by decide))
    have hP9 : va_P (dC, dI) vwCl [(mm, .inr (2, [.ref m1, .ref m2, .ref m3, .int (nI (cmpN sc op)), .int rs, .int (bI (cmpF ft op y))])), (m1, .inl (cI, 24, .inl cl)), (m2, .inl (cI, 4, .inl nu)), (m3, .inl (cI, 24, .inl (cmpS sd sc op (nI j))))] _ := (by rw [e1, e2, e3]; exact hP.sub [0, 1, 2, 3] rfl)
    have hD9 : va_D A [(mm, .inr (2, [.ref m1, .ref m2, .ref m3, .int (nI (cmpN sc op)), .int rs, .int (bI (cmpF ft op y))])), (m1, .inl (cI, 24, .inl cl)), (m2, .inl (cI, 4, .inl nu)), (m3, .inl (cI, 24, .inl (cmpS sd sc op (nI j))))] := (by rw [e1, e2, e3]; exact hD.sub [0, 1, 2, 3] (by decide) rfl)
    exact W.iret (v := nu j) hx hb hr (fun t ht hW => ⟨⟨_, (), rfl, (by rw [← cmpV_1 k1, nI_clamp (by omega)]), by rw [ht]; exact hP9, va_K.moved hW.alike hK, hD9⟩, hS.F ht⟩) hS.2.2 d_Ma_compute_50
  · rcases Decidable.em (op = 2) with k2 | k2
    · refine lv_tableIn (tgt := 51) hx hb d_Ma_compute_1 (by rw [k2]; decide) (by rw [k2]; decide) (by rw [k2]; rfl) (by decide) ?_
      refine lv_iload_n hx hb d_Ma_compute_51 rfl (lv_at hl 2 rfl) ?_
      refine lv_iload_n hx hb d_Ma_compute_52 rfl (lv_at hl 3 rfl) ?_
      refine lv_iadd hx hb d_Ma_compute_53 ?_
      have e1 : cmpS sd sc op x = sd := cmpS_n (ne_of k2 (by decide))
      have e2 : cmpN sc op = sc := cmpN_n (ne_of k2 (by decide))
      have e3 : cmpF ft op y = ft := cmpF_n (ne_of k2 (by decide))
      have hP9 : va_P (dC, dI) vwCl [(mm, .inr (2, [.ref m1, .ref m2, .ref m3, .int (nI (cmpN sc op)), .int rs, .int (bI (cmpF ft op y))])), (m1, .inl (cI, 24, .inl cl)), (m2, .inl (cI, 4, .inl nu)), (m3, .inl (cI, 24, .inl (cmpS sd sc op x)))] _ := (by rw [e1, e2, e3]; exact hP.sub [0, 1, 2, 3] rfl)
      have hD9 : va_D A [(mm, .inr (2, [.ref m1, .ref m2, .ref m3, .int (nI (cmpN sc op)), .int rs, .int (bI (cmpF ft op y))])), (m1, .inl (cI, 24, .inl cl)), (m2, .inl (cI, 4, .inl nu)), (m3, .inl (cI, 24, .inl (cmpS sd sc op x)))] := (by rw [e1, e2, e3]; exact hD.sub [0, 1, 2, 3] (by decide) rfl)
      exact W.iret (v := x + y) hx hb hr (fun t ht hW => ⟨⟨_, (), rfl, (cmpV_2 k2), by rw [ht]; exact hP9, va_K.moved hW.alike hK, hD9⟩, hS.F ht⟩) hS.2.2 d_Ma_compute_54
    · rcases Decidable.em (op = 3) with k3 | k3
      · refine lv_tableIn (tgt := 55) hx hb d_Ma_compute_1 (by rw [k3]; decide) (by rw [k3]; decide) (by rw [k3]; rfl) (by decide) ?_
        refine lv_iload_n hx hb d_Ma_compute_55 rfl (lv_at hl 2 rfl) ?_
        refine lv_iload_n hx hb d_Ma_compute_56 rfl (lv_at hl 3 rfl) ?_
        refine lv_isub hx hb d_Ma_compute_57 ?_
        have e1 : cmpS sd sc op x = sd := cmpS_n (ne_of k3 (by decide))
        have e2 : cmpN sc op = sc := cmpN_n (ne_of k3 (by decide))
        have e3 : cmpF ft op y = ft := cmpF_n (ne_of k3 (by decide))
        have hP9 : va_P (dC, dI) vwCl [(mm, .inr (2, [.ref m1, .ref m2, .ref m3, .int (nI (cmpN sc op)), .int rs, .int (bI (cmpF ft op y))])), (m1, .inl (cI, 24, .inl cl)), (m2, .inl (cI, 4, .inl nu)), (m3, .inl (cI, 24, .inl (cmpS sd sc op x)))] _ := (by rw [e1, e2, e3]; exact hP.sub [0, 1, 2, 3] rfl)
        have hD9 : va_D A [(mm, .inr (2, [.ref m1, .ref m2, .ref m3, .int (nI (cmpN sc op)), .int rs, .int (bI (cmpF ft op y))])), (m1, .inl (cI, 24, .inl cl)), (m2, .inl (cI, 4, .inl nu)), (m3, .inl (cI, 24, .inl (cmpS sd sc op x)))] := (by rw [e1, e2, e3]; exact hD.sub [0, 1, 2, 3] (by decide) rfl)
        exact W.iret (v := x - y) hx hb hr (fun t ht hW => ⟨⟨_, (), rfl, (cmpV_3 k3), by rw [ht]; exact hP9, va_K.moved hW.alike hK, hD9⟩, hS.F ht⟩) hS.2.2 d_Ma_compute_58
      · rcases Decidable.em (op = 4) with k4 | k4
        · refine lv_tableIn (tgt := 59) hx hb d_Ma_compute_1 (by rw [k4]; decide) (by rw [k4]; decide) (by rw [k4]; rfl) (by decide) ?_
          refine lv_iload_n hx hb d_Ma_compute_59 rfl (lv_at hl 2 rfl) ?_
          refine lv_iload_n hx hb d_Ma_compute_60 rfl (lv_at hl 3 rfl) ?_
          refine lv_imul hx hb d_Ma_compute_61 ?_
          have e1 : cmpS sd sc op x = sd := cmpS_n (ne_of k4 (by decide))
          have e2 : cmpN sc op = sc := cmpN_n (ne_of k4 (by decide))
          have e3 : cmpF ft op y = ft := cmpF_n (ne_of k4 (by decide))
          have hP9 : va_P (dC, dI) vwCl [(mm, .inr (2, [.ref m1, .ref m2, .ref m3, .int (nI (cmpN sc op)), .int rs, .int (bI (cmpF ft op y))])), (m1, .inl (cI, 24, .inl cl)), (m2, .inl (cI, 4, .inl nu)), (m3, .inl (cI, 24, .inl (cmpS sd sc op x)))] _ := (by rw [e1, e2, e3]; exact hP.sub [0, 1, 2, 3] rfl)
          have hD9 : va_D A [(mm, .inr (2, [.ref m1, .ref m2, .ref m3, .int (nI (cmpN sc op)), .int rs, .int (bI (cmpF ft op y))])), (m1, .inl (cI, 24, .inl cl)), (m2, .inl (cI, 4, .inl nu)), (m3, .inl (cI, 24, .inl (cmpS sd sc op x)))] := (by rw [e1, e2, e3]; exact hD.sub [0, 1, 2, 3] (by decide) rfl)
          exact W.iret (v := x * y) hx hb hr (fun t ht hW => ⟨⟨_, (), rfl, (cmpV_4 k4), by rw [ht]; exact hP9, va_K.moved hW.alike hK, hD9⟩, hS.F ht⟩) hS.2.2 d_Ma_compute_62
        · rcases Decidable.em (op = 5) with k5 | k5
          · refine lv_tableIn (tgt := 63) hx hb d_Ma_compute_1 (by rw [k5]; decide) (by rw [k5]; decide) (by rw [k5]; rfl) (by decide) ?_
            refine lv_aload_n hx hb d_Ma_compute_63 rfl (lv_at hl 0 rfl) ?_
            refine lv_iload_n hx hb d_Ma_compute_64 rfl (lv_at hl 2 rfl) ?_
            refine lv_iload_n hx hb d_Ma_compute_65 rfl (lv_at hl 3 rfl) ?_
            refine chVi (ci := 2) (q0 := 0) (wr := []) (As := [.int x, .int y]) (rest := []) ⟨hx, hb, hml, hown, hg⟩ (c_Ma_divide l dC dI cI mm m1 m2 m3 cl nu sd sc rs ft x y _) (cwV 2 hg (tg_V tw_455 tw_457 sp_Ma_divide tw_3 tw_458) rfl rfl rfl (by decide +kernel) ⟨Nat.le_of_ble_eq_true rfl, Nat.le_of_ble_eq_true rfl⟩) (hK.sub [0] rfl) hP hD hS hA [0, 1, 2, 3] [] rfl rfl (by decide) (by decide) (by decide) rfl rfl rfl hl.1 rfl (lv_room (Nat.le_of_ble_eq_true rfl)) d_Ma_compute_66 ⟨Nat.le_of_ble_eq_true rfl, Nat.le_of_ble_eq_true rfl⟩ (fun r8 u6 H locs w7 hP hD hS => ?_)
            obtain rfl := w7
            have hP : va_P (dC, dI) vwCl [(mm, .inr (2, [.ref m1, .ref m2, .ref m3, .int (nI sc), .int rs, .int (bI (dvF ft y))])), (m1, .inl (cI, 24, .inl cl)), (m2, .inl (cI, 4, .inl nu)), (m3, .inl (cI, 24, .inl sd))] H := hP
            have hD : va_D A [(mm, .inr (2, [.ref m1, .ref m2, .ref m3, .int (nI sc), .int rs, .int (bI (dvF ft y))])), (m1, .inl (cI, 24, .inl cl)), (m2, .inl (cI, 4, .inl nu)), (m3, .inl (cI, 24, .inl sd))] := hD
            have e1 : cmpS sd sc op x = sd := cmpS_n (ne_of k5 (by decide))
            have e2 : cmpN sc op = sc := cmpN_n (ne_of k5 (by decide))
            have e3 : cmpF ft op y = dvF ft y := if_pos k5
            have hP9 : va_P (dC, dI) vwCl [(mm, .inr (2, [.ref m1, .ref m2, .ref m3, .int (nI (cmpN sc op)), .int rs, .int (bI (cmpF ft op y))])), (m1, .inl (cI, 24, .inl cl)), (m2, .inl (cI, 4, .inl nu)), (m3, .inl (cI, 24, .inl (cmpS sd sc op x)))] _ := (by rw [e1, e2, e3]; exact hP.sub [0, 1, 2, 3] rfl)
            have hD9 : va_D A [(mm, .inr (2, [.ref m1, .ref m2, .ref m3, .int (nI (cmpN sc op)), .int rs, .int (bI (cmpF ft op y))])), (m1, .inl (cI, 24, .inl cl)), (m2, .inl (cI, 4, .inl nu)), (m3, .inl (cI, 24, .inl (cmpS sd sc op x)))] := (by rw [e1, e2, e3]; exact hD.sub [0, 1, 2, 3] (by decide) rfl)
            exact W.iret (v := dvV x y) hx hb hr (fun t ht hW => ⟨⟨_, (), rfl, (cmpV_5 k5), by rw [ht]; exact hP9, va_K.moved hW.alike hK, hD9⟩, hS.F ht⟩) hS.2.2 d_Ma_compute_69
          · rcases Decidable.em (op = 6) with k9 | k9
            · refine lv_tableIn (tgt := 70) hx hb d_Ma_compute_1 (by rw [k9]; decide) (by rw [k9]; decide) (by rw [k9]; rfl) (by decide) ?_
              refine lv_aload_n hx hb d_Ma_compute_70 rfl (lv_at hl 0 rfl) ?_
              refine va_get (D := (dC, dI)) (ci := 2) (v := .ref m3) (C := R_Ma) (T := T_Ma) (N := 6) hx hb hg in_Ma hown hK hP 0 rfl rfl 2 (by decide) (hg _ tw_63) (fun _ h9 => h9) rfl d_Ma_compute_71 ?_
              refine lv_aload_n hx hb d_Ma_compute_74 rfl (lv_at hl 0 rfl) ?_
              refine lv_dup hx hb d_Ma_compute_75 rfl ?_
              refine va_get (D := (dC, dI)) (ci := 2) (v := .int (nI sc)) (C := R_Ma) (T := T_Ma) (N := 6) hx hb hg in_Ma hown hK hP 0 rfl rfl 3 (by decide) (hg _ tw_64) (fun _ h9 => h9) rfl d_Ma_compute_76 ?_
              refine lv_dup_x1 hx hb d_Ma_compute_79 rfl rfl ?_
              refine lv_iconst (v := 1) hx hb d_Ma_compute_80 (by decide) ?_
              refine wb_iadd hx hb sc 1 rfl rfl d_Ma_compute_81 ?_
              refine va_put (D := (dC, dI)) (ci := 2) (v := .int (nI (sc + 1))) (ty := .int) (C := R_Ma) (T := T_Ma) (N := 6) hx hb hg in_Ma ty_Ma tyok_Ma nm_Ma hown hK hP hD hS 0 rfl rfl 3 (by decide) (hg _ tw_64) (fun _ h9 => h9) rfl (by decide +kernel) rfl rfl (Nat.le_of_ble_eq_true rfl) d_Ma_compute_82 (fun H locs hP hD hS => ?_)
              have hP : va_P (dC, dI) vwCl [(mm, .inr (2, [.ref m1, .ref m2, .ref m3, .int (nI (sc + 1)), .int rs, .int (bI ft)])), (m1, .inl (cI, 24, .inl cl)), (m2, .inl (cI, 4, .inl nu)), (m3, .inl (cI, 24, .inl sd))] H := hP
              have hD : va_D A [(mm, .inr (2, [.ref m1, .ref m2, .ref m3, .int (nI (sc + 1)), .int rs, .int (bI ft)])), (m1, .inl (cI, 24, .inl cl)), (m2, .inl (cI, 4, .inl nu)), (m3, .inl (cI, 24, .inl sd))] := hD
              refine lv_iload_n hx hb d_Ma_compute_85 rfl (lv_at hl 2 rfl) ?_
              refine wb_iast hx hb hK hP hD hS 3 0 rfl rfl sc rfl (h6 k9) (by decide) d_Ma_compute_86 (fun H locs hP hD hS => ?_)
              have hP : va_P (dC, dI) vwCl [(mm, .inr (2, [.ref m1, .ref m2, .ref m3, .int (nI (sc + 1)), .int rs, .int (bI ft)])), (m1, .inl (cI, 24, .inl cl)), (m2, .inl (cI, 4, .inl nu)), (m3, .inl (cI, 24, .inl (upd sd sc x)))] H := hP
              have hD : va_D A [(mm, .inr (2, [.ref m1, .ref m2, .ref m3, .int (nI (sc + 1)), .int rs, .int (bI ft)])), (m1, .inl (cI, 24, .inl cl)), (m2, .inl (cI, 4, .inl nu)), (m3, .inl (cI, 24, .inl (upd sd sc x)))] := hD
              refine lv_iconst (v := 0) hx hb d_Ma_compute_87 (by decide) ?_
              have e1 : cmpS sd sc op x = upd sd sc x := if_pos k9
              have e2 : cmpN sc op = sc + 1 := if_pos k9
              have e3 : cmpF ft op y = ft := cmpF_n (ne_of k9 (by decide))
              have hP9 : va_P (dC, dI) vwCl [(mm, .inr (2, [.ref m1, .ref m2, .ref m3, .int (nI (cmpN sc op)), .int rs, .int (bI (cmpF ft op y))])), (m1, .inl (cI, 24, .inl cl)), (m2, .inl (cI, 4, .inl nu)), (m3, .inl (cI, 24, .inl (cmpS sd sc op x)))] _ := (by rw [e1, e2, e3]; exact hP.sub [0, 1, 2, 3] rfl)
              have hD9 : va_D A [(mm, .inr (2, [.ref m1, .ref m2, .ref m3, .int (nI (cmpN sc op)), .int rs, .int (bI (cmpF ft op y))])), (m1, .inl (cI, 24, .inl cl)), (m2, .inl (cI, 4, .inl nu)), (m3, .inl (cI, 24, .inl (cmpS sd sc op x)))] := (by rw [e1, e2, e3]; exact hD.sub [0, 1, 2, 3] (by decide) rfl)
              exact W.iret (v := (0 : Int32)) hx hb hr (fun t ht hW => ⟨⟨_, (), rfl, (cmpV_6 k9), by rw [ht]; exact hP9, va_K.moved hW.alike hK, hD9⟩, hS.F ht⟩) hS.2.2 d_Ma_compute_88
            · rcases Decidable.em (op = 7) with k10 | k10
              · refine lv_tableIn (tgt := 89) hx hb d_Ma_compute_1 (by rw [k10]; decide) (by rw [k10]; decide) (by rw [k10]; rfl) (by decide) ?_
                refine lv_iload_n hx hb d_Ma_compute_89 rfl (lv_at hl 2 rfl) ?_
                refine lv_iconst (v := 3) hx hb d_Ma_compute_90 (by decide) ?_
                refine lv_imul hx hb d_Ma_compute_91 ?_
                refine lv_iconst (v := 1) hx hb d_Ma_compute_92 (by decide) ?_
                refine lv_iadd hx hb d_Ma_compute_93 ?_
                have e1 : cmpS sd sc op x = sd := cmpS_n (ne_of k10 (by decide))
                have e2 : cmpN sc op = sc := cmpN_n (ne_of k10 (by decide))
                have e3 : cmpF ft op y = ft := cmpF_n (ne_of k10 (by decide))
                have hP9 : va_P (dC, dI) vwCl [(mm, .inr (2, [.ref m1, .ref m2, .ref m3, .int (nI (cmpN sc op)), .int rs, .int (bI (cmpF ft op y))])), (m1, .inl (cI, 24, .inl cl)), (m2, .inl (cI, 4, .inl nu)), (m3, .inl (cI, 24, .inl (cmpS sd sc op x)))] _ := (by rw [e1, e2, e3]; exact hP.sub [0, 1, 2, 3] rfl)
                have hD9 : va_D A [(mm, .inr (2, [.ref m1, .ref m2, .ref m3, .int (nI (cmpN sc op)), .int rs, .int (bI (cmpF ft op y))])), (m1, .inl (cI, 24, .inl cl)), (m2, .inl (cI, 4, .inl nu)), (m3, .inl (cI, 24, .inl (cmpS sd sc op x)))] := (by rw [e1, e2, e3]; exact hD.sub [0, 1, 2, 3] (by decide) rfl)
                exact W.iret (v := (x * ((3 : Int32))) + ((1 : Int32))) hx hb hr (fun t ht hW => ⟨⟨_, (), rfl, (cmpV_7 k10), by rw [ht]; exact hP9, va_K.moved hW.alike hK, hD9⟩, hS.F ht⟩) hS.2.2 d_Ma_compute_94
              · refine lv_tableOut (tgt := 95) hx hb d_Ma_compute_1 (by have a0 := lv_neT k1 (a := 1) (by decide); have a1 := lv_neT k2 (a := 2) (by decide); have a2 := lv_neT k3 (a := 3) (by decide); have a3 := lv_neT k4 (a := 4) (by decide); have a4 := lv_neT k5 (a := 5) (by decide); have a5 := lv_neT k9 (a := 6) (by decide); have a6 := lv_neT k10 (a := 7) (by decide); omega) (by decide) ?_
                refine lv_iload_n hx hb d_Ma_compute_95 rfl (lv_at hl 2 rfl) ?_
                have e1 : cmpS sd sc op x = sd := cmpS_n k9
                have e2 : cmpN sc op = sc := cmpN_n k9
                have e3 : cmpF ft op y = ft := cmpF_n k5
                have hP9 : va_P (dC, dI) vwCl [(mm, .inr (2, [.ref m1, .ref m2, .ref m3, .int (nI (cmpN sc op)), .int rs, .int (bI (cmpF ft op y))])), (m1, .inl (cI, 24, .inl cl)), (m2, .inl (cI, 4, .inl nu)), (m3, .inl (cI, 24, .inl (cmpS sd sc op x)))] _ := (by rw [e1, e2, e3]; exact hP.sub [0, 1, 2, 3] rfl)
                have hD9 : va_D A [(mm, .inr (2, [.ref m1, .ref m2, .ref m3, .int (nI (cmpN sc op)), .int rs, .int (bI (cmpF ft op y))])), (m1, .inl (cI, 24, .inl cl)), (m2, .inl (cI, 4, .inl nu)), (m3, .inl (cI, 24, .inl (cmpS sd sc op x)))] := (by rw [e1, e2, e3]; exact hD.sub [0, 1, 2, 3] (by decide) rfl)
                exact W.iret (v := x) hx hb hr (fun t ht hW => ⟨⟨_, (), rfl, (cmpV_8 k1 k2 k3 k4 k5 k9 k10), by rw [ht]; exact hP9, va_K.moved hW.alike hK, hD9⟩, hS.F ht⟩) hS.2.2 d_Ma_compute_96
end
